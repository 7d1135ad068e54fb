-- yX10_right
theorem dX10_right_0 : decode cX10_right 0 = .ok (.iload_n 1, 1) := by decide +kernel
theorem dX10_right_1 : decode cX10_right 1 = .ok (.iconst 0, 1) := by decide +kernel
theorem dX10_right_2 : decode cX10_right 2 = .ok (.aload_n 0, 1) := by decide +kernel
theorem dX10_right_3 : decode cX10_right 3 = .ok (.getfield 19, 3) := by decide +kernel
theorem dX10_right_6 : decode cX10_right 6 = .ok (.bipush 15, 2) := by decide +kernel
theorem dX10_right_8 : decode cX10_right 8 = .ok (.iaload, 1) := by decide +kernel
theorem dX10_right_9 : decode cX10_right 9 = .ok (.iconst 1, 1) := by decide +kernel
theorem dX10_right_10 : decode cX10_right 10 = .ok (.isub, 1) := by decide +kernel
theorem dX10_right_11 : decode cX10_right 11 = .ok (.invokestatic 57, 3) := by decide +kernel
theorem dX10_right_14 : decode cX10_right 14 = .ok (.ifCond .eq 28, 3) := by decide +kernel
theorem dX10_right_17 : decode cX10_right 17 = .ok (.iload_n 2, 1) := by decide +kernel
theorem dX10_right_18 : decode cX10_right 18 = .ok (.iconst 0, 1) := by decide +kernel
theorem dX10_right_19 : decode cX10_right 19 = .ok (.iconst 2, 1) := by decide +kernel
theorem dX10_right_20 : decode cX10_right 20 = .ok (.invokestatic 57, 3) := by decide +kernel
theorem dX10_right_23 : decode cX10_right 23 = .ok (.ifCond .eq 19, 3) := by decide +kernel
theorem dX10_right_26 : decode cX10_right 26 = .ok (.aload_n 0, 1) := by decide +kernel
theorem dX10_right_27 : decode cX10_right 27 = .ok (.getfield 19, 3) := by decide +kernel
theorem dX10_right_30 : decode cX10_right 30 = .ok (.bipush 16, 2) := by decide +kernel
theorem dX10_right_32 : decode cX10_right 32 = .ok (.iconst 3, 1) := by decide +kernel
theorem dX10_right_33 : decode cX10_right 33 = .ok (.iload_n 1, 1) := by decide +kernel
theorem dX10_right_34 : decode cX10_right 34 = .ok (.imul, 1) := by decide +kernel
theorem dX10_right_35 : decode cX10_right 35 = .ok (.iadd, 1) := by decide +kernel
theorem dX10_right_36 : decode cX10_right 36 = .ok (.iload_n 2, 1) := by decide +kernel
theorem dX10_right_37 : decode cX10_right 37 = .ok (.iadd, 1) := by decide +kernel
theorem dX10_right_38 : decode cX10_right 38 = .ok (.iaload, 1) := by decide +kernel
theorem dX10_right_39 : decode cX10_right 39 = .ok (.goto 4, 3) := by decide +kernel
theorem dX10_right_42 : decode cX10_right 42 = .ok (.iconst (-1), 1) := by decide +kernel
theorem dX10_right_43 : decode cX10_right 43 = .ok (.ireturn, 1) := by decide +kernel
def r_X10_right : Room := { frames := 1, cells := 0, slots := 0, locals := 22 }
def f_X10_right (P : PH) (x0 : Nat) (x1 : Int32) (x2 : Int32) : Option Int32 :=
  (if ((15 : Int32) < 0 ∨ 46 ≤ (15 : Int32).toNatClampNeg) then none else ((f_X10_in P x1 (0 : Int32) ((P.1 (P.2.2 x0 5) (15 : Int32).toNatClampNeg) - (1 : Int32))).bind fun q2 => (if (b2i q2) = 0 then some (-1 : Int32) else ((f_X10_in P x2 (0 : Int32) (2 : Int32)).bind fun q3 => (if (b2i q3) = 0 then some (-1 : Int32) else (if ((((16 : Int32) + ((3 : Int32) * x1)) + x2) < 0 ∨ 46 ≤ (((16 : Int32) + ((3 : Int32) * x1)) + x2).toNatClampNeg) then none else some (P.1 (P.2.2 x0 5) (((16 : Int32) + ((3 : Int32) * x1)) + x2).toNatClampNeg)))))))
theorem w_X10_right {x : Fx} {E : Ev} (S : ZS x E r_X10_right cX10_right 3 RX10 (some .int)) (M : ZM x E) (P : PH) (x0 : Nat) (x1 : Int32) (x2 : Int32) (h_x0 : ok x0 8 0) (r : Int32) (hf : f_X10_right P x0 x1 x2 = some r) : Wz x E 3 (QI E x r P) P 0 [(0, .ref (ad E x0)), (1, .int x1), (2, .int x2)] [] := by
  unfold f_X10_right at hf
  refine z_iload_n S 1 dX10_right_0 rfl rfl ?_
  refine z_iconst (v := 0) S dX10_right_1 (by decide) ?_
  refine z_aload_n S 0 dX10_right_2 rfl rfl ?_
  refine z_getR (K' := 9) (n' := 46) S cf_8 h_x0 5 (by decide) rfl rfl rfl wd672 dX10_right_3 (fun h1 => ?_)
  refine z_bipush (v := 15) S dX10_right_6 (by decide) ?_
  refine z_iald S h1 dX10_right_8 hf (fun hf => ?_)
  refine z_iconst (v := 1) S dX10_right_9 (by decide) ?_
  refine z_isub S dX10_right_10 ?_
  refine z_callSI (rc := r_X10_in) [.int x1, .int (0 : Int32), .int ((P.1 (P.2.2 x0 5) (15 : Int32).toNatClampNeg) - (1 : Int32))] S mo_X10_in wd758 wd757 rfl rfl (by decide) (z_room0 S M (by rfl) (by rfl)) rfl (Nat.le_of_ble_eq_true rfl) rfl dX10_right_11 (fun q => b2i q) (fun _ => P) (fun q hq => m_X10_in (xl x) E _ _ _ _  q hq) hf (fun q2 hf => ?_)
  refine z_if_eq (tgt := 42) S dX10_right_14 (by decide) hf (fun hf => ?_) (fun hf => ?_)
  · refine z_iconst (v := (-1 : Int32)) S dX10_right_42 (by decide) ?_
    exact z_iretP (v := (-1 : Int32)) S M rfl dX10_right_43 hf
  · refine z_iload_n S 2 dX10_right_17 rfl rfl ?_
    refine z_iconst (v := 0) S dX10_right_18 (by decide) ?_
    refine z_iconst (v := 2) S dX10_right_19 (by decide) ?_
    refine z_callSI (rc := r_X10_in) [.int x2, .int (0 : Int32), .int (2 : Int32)] S mo_X10_in wd758 wd757 rfl rfl (by decide) (z_room0 S M (by rfl) (by rfl)) rfl (Nat.le_of_ble_eq_true rfl) rfl dX10_right_20 (fun q => b2i q) (fun _ => P) (fun q hq => m_X10_in (xl x) E _ _ _ _  q hq) hf (fun q3 hf => ?_)
    refine z_if_eq (tgt := 42) S dX10_right_23 (by decide) hf (fun hf => ?_) (fun hf => ?_)
    · refine z_iconst (v := (-1 : Int32)) S dX10_right_42 (by decide) ?_
      exact z_iretP (v := (-1 : Int32)) S M rfl dX10_right_43 hf
    · refine z_aload_n S 0 dX10_right_26 rfl rfl ?_
      refine z_getR (K' := 9) (n' := 46) S cf_8 h_x0 5 (by decide) rfl rfl rfl wd672 dX10_right_27 (fun h4 => ?_)
      refine z_bipush (v := 16) S dX10_right_30 (by decide) ?_
      refine z_iconst (v := 3) S dX10_right_32 (by decide) ?_
      refine z_iload_n S 1 dX10_right_33 rfl rfl ?_
      refine z_imul S dX10_right_34 ?_
      refine z_iadd S dX10_right_35 ?_
      refine z_iload_n S 2 dX10_right_36 rfl rfl ?_
      refine z_iadd S dX10_right_37 ?_
      refine z_iald S h4 dX10_right_38 hf (fun hf => ?_)
      refine z_goto (tgt := 43) S dX10_right_39 (by decide) ?_
      exact z_iretP (v := (P.1 (P.2.2 x0 5) (((16 : Int32) + ((3 : Int32) * x1)) + x2).toNatClampNeg)) S M rfl dX10_right_43 hf
theorem m_X10_right (l : Launch) (E : Ev) (P : PH) (x0 : Nat) (x1 : Int32) (x2 : Int32) (h_x0 : ok x0 8 0) (r : Int32) (hf : f_X10_right P x0 x1 x2 = some r) : CtI l E yX10_right cX10_right 3 (some .int) r_X10_right [.ref (ad E x0), .int x1, .int x2] P r P :=
  z_body (own := RX10) (by decide +kernel) rfl (Nat.le_of_ble_eq_true rfl) rfl (fun x _ S M => w_X10_right S M P x0 x1 x2 h_x0 r hf)
-- yX10_now
theorem dX10_now_0 : decode cX10_now 0 = .ok (.aload_n 0, 1) := by decide +kernel
theorem dX10_now_1 : decode cX10_now 1 = .ok (.invokevirtual 166, 3) := by decide +kernel
theorem dX10_now_4 : decode cX10_now 4 = .ok (.iload_n 1, 1) := by decide +kernel
theorem dX10_now_5 : decode cX10_now 5 = .ok (.tableswitch 60 0 4 #[35, 35, 42, 47, 55], 35) := by decide +kernel
theorem dX10_now_40 : decode cX10_now 40 = .ok (.aload_n 0, 1) := by decide +kernel
theorem dX10_now_41 : decode cX10_now 41 = .ok (.getfield 19, 3) := by decide +kernel
theorem dX10_now_44 : decode cX10_now 44 = .ok (.iload_n 1, 1) := by decide +kernel
theorem dX10_now_45 : decode cX10_now 45 = .ok (.iaload, 1) := by decide +kernel
theorem dX10_now_46 : decode cX10_now 46 = .ok (.ireturn, 1) := by decide +kernel
theorem dX10_now_47 : decode cX10_now 47 = .ok (.aload_n 0, 1) := by decide +kernel
theorem dX10_now_48 : decode cX10_now 48 = .ok (.invokevirtual 175, 3) := by decide +kernel
theorem dX10_now_51 : decode cX10_now 51 = .ok (.ireturn, 1) := by decide +kernel
theorem dX10_now_52 : decode cX10_now 52 = .ok (.aload_n 0, 1) := by decide +kernel
theorem dX10_now_53 : decode cX10_now 53 = .ok (.getfield 19, 3) := by decide +kernel
theorem dX10_now_56 : decode cX10_now 56 = .ok (.bipush 15, 2) := by decide +kernel
theorem dX10_now_58 : decode cX10_now 58 = .ok (.iaload, 1) := by decide +kernel
theorem dX10_now_59 : decode cX10_now 59 = .ok (.ireturn, 1) := by decide +kernel
theorem dX10_now_60 : decode cX10_now 60 = .ok (.aload_n 0, 1) := by decide +kernel
theorem dX10_now_61 : decode cX10_now 61 = .ok (.getfield 128, 3) := by decide +kernel
theorem dX10_now_64 : decode cX10_now 64 = .ok (.ireturn, 1) := by decide +kernel
theorem dX10_now_65 : decode cX10_now 65 = .ok (.iconst (-1), 1) := by decide +kernel
theorem dX10_now_66 : decode cX10_now 66 = .ok (.ireturn, 1) := by decide +kernel
def r_X10_now : Room := { frames := 8, cells := 0, slots := 0, locals := 177 }
def f_X10_now (P : PH) (x0 : Nat) (x1 : Int32) : Option (Int32 × PH) :=
  ((f_X10_asItIs P x0).bind fun q1 => (if x1 = (0 : Int32) then (if (x1 < 0 ∨ 46 ≤ x1.toNatClampNeg) then none else some ((q1.1 (q1.2.2 x0 5) x1.toNatClampNeg), q1)) else (if x1 = (1 : Int32) then (if (x1 < 0 ∨ 46 ≤ x1.toNatClampNeg) then none else some ((q1.1 (q1.2.2 x0 5) x1.toNatClampNeg), q1)) else (if x1 = (2 : Int32) then ((f_X10_cutOff q1 x0).bind fun q7 => some (q7.1, q7.2)) else (if x1 = (3 : Int32) then (if ((15 : Int32) < 0 ∨ 46 ≤ (15 : Int32).toNatClampNeg) then none else some ((q1.1 (q1.2.2 x0 5) (15 : Int32).toNatClampNeg), q1)) else (if x1 = (4 : Int32) then some ((q1.1 x0 7), q1) else some ((-1 : Int32), q1)))))))
theorem w_X10_now {x : Fx} {E : Ev} (S : ZS x E r_X10_now cX10_now 2 RX10 (some .int)) (M : ZM x E) (P : PH) (x0 : Nat) (x1 : Int32) (h_x0 : ok x0 8 0) (r : (Int32 × PH)) (hf : f_X10_now P x0 x1 = some r) : Wz x E 2 (QI E x r.1 r.2) P 0 [(0, .ref (ad E x0)), (1, .int x1)] [] := by
  unfold f_X10_now at hf
  refine z_aload_n S 0 dX10_now_0 rfl rfl ?_
  refine z_callVV (rc := r_X10_asItIs) [] S mo_X10_asItIs wd819 wd17 wd817 h_x0 (by decide) cl_8 rfl rfl (by decide) (z_room0 S M (by rfl) (by rfl)) rfl (Nat.le_of_ble_eq_true rfl) rfl dX10_now_1  (fun q => q) (fun q hq => m_X10_asItIs (xl x) E _ _ h_x0 q hq) hf (fun q1 hf => ?_)
  refine z_iload_n S 1 dX10_now_4 rfl rfl ?_
  refine z_tif hf (fun h2 hf => ?_) (fun h2 hf => ?_)
  · refine z_tabIn (tgt := 40) S 0 dX10_now_5 (by rw [h2]; rfl) (by decide) rfl (by decide) ?_
    refine z_aload_n S 0 dX10_now_40 rfl rfl ?_
    refine z_getR (K' := 9) (n' := 46) S cf_8 h_x0 5 (by decide) rfl rfl rfl wd672 dX10_now_41 (fun h3 => ?_)
    refine z_iload_n S 1 dX10_now_44 rfl rfl ?_
    refine z_iald S h3 dX10_now_45 hf (fun hf => ?_)
    exact z_iretI (v := (q1.1 (q1.2.2 x0 5) x1.toNatClampNeg)) S M rfl dX10_now_46 hf
  refine z_tif hf (fun h4 hf => ?_) (fun h4 hf => ?_)
  · refine z_tabIn (tgt := 40) S 1 dX10_now_5 (by rw [h4]; rfl) (by decide) rfl (by decide) ?_
    refine z_aload_n S 0 dX10_now_40 rfl rfl ?_
    refine z_getR (K' := 9) (n' := 46) S cf_8 h_x0 5 (by decide) rfl rfl rfl wd672 dX10_now_41 (fun h5 => ?_)
    refine z_iload_n S 1 dX10_now_44 rfl rfl ?_
    refine z_iald S h5 dX10_now_45 hf (fun hf => ?_)
    exact z_iretI (v := (q1.1 (q1.2.2 x0 5) x1.toNatClampNeg)) S M rfl dX10_now_46 hf
  refine z_tif hf (fun h6 hf => ?_) (fun h6 hf => ?_)
  · refine z_tabIn (tgt := 47) S 2 dX10_now_5 (by rw [h6]; rfl) (by decide) rfl (by decide) ?_
    refine z_aload_n S 0 dX10_now_47 rfl rfl ?_
    refine z_callVI (rc := r_X10_cutOff) [] S mo_X10_cutOff wd874 wd27 wd872 h_x0 (by decide) cl_8 rfl rfl (by decide) (z_room0 S M (by rfl) (by rfl)) rfl (Nat.le_of_ble_eq_true rfl) rfl dX10_now_48 (fun q => q.1) (fun q => q.2) (fun q hq => m_X10_cutOff (xl x) E _ _ h_x0 q hq) hf (fun q7 hf => ?_)
    exact z_iretI (v := q7.1) S M rfl dX10_now_51 hf
  refine z_tif hf (fun h8 hf => ?_) (fun h8 hf => ?_)
  · refine z_tabIn (tgt := 52) S 3 dX10_now_5 (by rw [h8]; rfl) (by decide) rfl (by decide) ?_
    refine z_aload_n S 0 dX10_now_52 rfl rfl ?_
    refine z_getR (K' := 9) (n' := 46) S cf_8 h_x0 5 (by decide) rfl rfl rfl wd672 dX10_now_53 (fun h9 => ?_)
    refine z_bipush (v := 15) S dX10_now_56 (by decide) ?_
    refine z_iald S h9 dX10_now_58 hf (fun hf => ?_)
    exact z_iretI (v := (q1.1 (q1.2.2 x0 5) (15 : Int32).toNatClampNeg)) S M rfl dX10_now_59 hf
  refine z_tif hf (fun h10 hf => ?_) (fun h10 hf => ?_)
  · refine z_tabIn (tgt := 60) S 4 dX10_now_5 (by rw [h10]; rfl) (by decide) rfl (by decide) ?_
    refine z_aload_n S 0 dX10_now_60 rfl rfl ?_
    refine z_getI S cf_8 h_x0 7 (by decide) rfl wd674 dX10_now_61 ?_
    exact z_iretI (v := (q1.1 x0 7)) S M rfl dX10_now_64 hf
  refine z_tabOut (tgt := 65) S dX10_now_5 (by have e0 := lv_neT h2 (a := 0) rfl; have e1 := lv_neT h4 (a := 1) rfl; have e2 := lv_neT h6 (a := 2) rfl; have e3 := lv_neT h8 (a := 3) rfl; have e4 := lv_neT h10 (a := 4) rfl; omega) (by decide) ?_
  refine z_iconst (v := (-1 : Int32)) S dX10_now_65 (by decide) ?_
  exact z_iretI (v := (-1 : Int32)) S M rfl dX10_now_66 hf
theorem m_X10_now (l : Launch) (E : Ev) (P : PH) (x0 : Nat) (x1 : Int32) (h_x0 : ok x0 8 0) (r : (Int32 × PH)) (hf : f_X10_now P x0 x1 = some r) : CtI l E yX10_now cX10_now 2 (some .int) r_X10_now [.ref (ad E x0), .int x1] P r.1 r.2 :=
  z_body (own := RX10) (by decide +kernel) rfl (Nat.le_of_ble_eq_true rfl) rfl (fun x _ S M => w_X10_now S M P x0 x1 h_x0 r hf)
-- yX10_remembers
theorem dX10_remembers_0 : decode cX10_remembers 0 = .ok (.aload_n 0, 1) := by decide +kernel
theorem dX10_remembers_1 : decode cX10_remembers 1 = .ok (.getfield 128, 3) := by decide +kernel
theorem dX10_remembers_4 : decode cX10_remembers 4 = .ok (.bipush 10, 2) := by decide +kernel
theorem dX10_remembers_6 : decode cX10_remembers 6 = .ok (.if_icmp .ne 43, 3) := by decide +kernel
theorem dX10_remembers_9 : decode cX10_remembers 9 = .ok (.iconst 0, 1) := by decide +kernel
theorem dX10_remembers_10 : decode cX10_remembers 10 = .ok (.istore_n 1, 1) := by decide +kernel
theorem dX10_remembers_11 : decode cX10_remembers 11 = .ok (.iload_n 1, 1) := by decide +kernel
theorem dX10_remembers_12 : decode cX10_remembers 12 = .ok (.sipush 414, 3) := by decide +kernel
theorem dX10_remembers_15 : decode cX10_remembers 15 = .ok (.if_icmp .ge 24, 3) := by decide +kernel
theorem dX10_remembers_18 : decode cX10_remembers 18 = .ok (.aload_n 0, 1) := by decide +kernel
theorem dX10_remembers_19 : decode cX10_remembers 19 = .ok (.getfield 22, 3) := by decide +kernel
theorem dX10_remembers_22 : decode cX10_remembers 22 = .ok (.iload_n 1, 1) := by decide +kernel
theorem dX10_remembers_23 : decode cX10_remembers 23 = .ok (.aload_n 0, 1) := by decide +kernel
theorem dX10_remembers_24 : decode cX10_remembers 24 = .ok (.getfield 22, 3) := by decide +kernel
theorem dX10_remembers_27 : decode cX10_remembers 27 = .ok (.iload_n 1, 1) := by decide +kernel
theorem dX10_remembers_28 : decode cX10_remembers 28 = .ok (.bipush 46, 2) := by decide +kernel
theorem dX10_remembers_30 : decode cX10_remembers 30 = .ok (.iadd, 1) := by decide +kernel
theorem dX10_remembers_31 : decode cX10_remembers 31 = .ok (.iaload, 1) := by decide +kernel
theorem dX10_remembers_32 : decode cX10_remembers 32 = .ok (.iastore, 1) := by decide +kernel
theorem dX10_remembers_33 : decode cX10_remembers 33 = .ok (.iinc 1 1, 3) := by decide +kernel
theorem dX10_remembers_36 : decode cX10_remembers 36 = .ok (.goto (-25), 3) := by decide +kernel
theorem dX10_remembers_39 : decode cX10_remembers 39 = .ok (.aload_n 0, 1) := by decide +kernel
theorem dX10_remembers_40 : decode cX10_remembers 40 = .ok (.dup, 1) := by decide +kernel
theorem dX10_remembers_41 : decode cX10_remembers 41 = .ok (.getfield 128, 3) := by decide +kernel
theorem dX10_remembers_44 : decode cX10_remembers 44 = .ok (.iconst 1, 1) := by decide +kernel
theorem dX10_remembers_45 : decode cX10_remembers 45 = .ok (.isub, 1) := by decide +kernel
theorem dX10_remembers_46 : decode cX10_remembers 46 = .ok (.putfield 128, 3) := by decide +kernel
theorem dX10_remembers_49 : decode cX10_remembers 49 = .ok (.aload_n 0, 1) := by decide +kernel
theorem dX10_remembers_50 : decode cX10_remembers 50 = .ok (.getfield 22, 3) := by decide +kernel
theorem dX10_remembers_53 : decode cX10_remembers 53 = .ok (.bipush 46, 2) := by decide +kernel
theorem dX10_remembers_55 : decode cX10_remembers 55 = .ok (.aload_n 0, 1) := by decide +kernel
theorem dX10_remembers_56 : decode cX10_remembers 56 = .ok (.getfield 128, 3) := by decide +kernel
theorem dX10_remembers_59 : decode cX10_remembers 59 = .ok (.imul, 1) := by decide +kernel
theorem dX10_remembers_60 : decode cX10_remembers 60 = .ok (.aload_n 0, 1) := by decide +kernel
theorem dX10_remembers_61 : decode cX10_remembers 61 = .ok (.getfield 19, 3) := by decide +kernel
theorem dX10_remembers_64 : decode cX10_remembers 64 = .ok (.iconst 0, 1) := by decide +kernel
theorem dX10_remembers_65 : decode cX10_remembers 65 = .ok (.invokestatic 124, 3) := by decide +kernel
theorem dX10_remembers_68 : decode cX10_remembers 68 = .ok (.aload_n 0, 1) := by decide +kernel
theorem dX10_remembers_69 : decode cX10_remembers 69 = .ok (.dup, 1) := by decide +kernel
theorem dX10_remembers_70 : decode cX10_remembers 70 = .ok (.getfield 128, 3) := by decide +kernel
theorem dX10_remembers_73 : decode cX10_remembers 73 = .ok (.iconst 1, 1) := by decide +kernel
theorem dX10_remembers_74 : decode cX10_remembers 74 = .ok (.iadd, 1) := by decide +kernel
theorem dX10_remembers_75 : decode cX10_remembers 75 = .ok (.putfield 128, 3) := by decide +kernel
theorem dX10_remembers_78 : decode cX10_remembers 78 = .ok (.return_, 1) := by decide +kernel
def r_X10_remembers : Room := { frames := 1, cells := 0, slots := 0, locals := 24 }
def f_X10_remembers_J49 (P : PH) (x0 : Nat) : Option PH :=
  ((f_X10_copy 460 46 P (P.2.2 x0 6) ((46 : Int32) * (P.1 x0 7)) (P.2.2 x0 5) (0 : Int32)).bind fun q3 => some (sI q3 x0 7 ((q3.1 x0 7) + (1 : Int32))))
theorem w_X10_remembers_J49 {x : Fx} {E : Ev} (S : ZS x E r_X10_remembers cX10_remembers 2 RX10 none) (M : ZM x E) (P : PH) (x0 : Nat) (h_x0 : ok x0 8 0) (r : PH) (hf : f_X10_remembers_J49 P x0 = some r) : Wz x E 2 (QV E x r) P 49 [(0, .ref (ad E x0))] [] := by
  unfold f_X10_remembers_J49 at hf
  refine z_aload_n S 0 dX10_remembers_49 rfl rfl ?_
  refine z_getR (K' := 9) (n' := 460) S cf_8 h_x0 6 (by decide) rfl rfl rfl wd673 dX10_remembers_50 (fun h1 => ?_)
  refine z_bipush (v := 46) S dX10_remembers_53 (by decide) ?_
  refine z_aload_n S 0 dX10_remembers_55 rfl rfl ?_
  refine z_getI S cf_8 h_x0 7 (by decide) rfl wd674 dX10_remembers_56 ?_
  refine z_imul S dX10_remembers_59 ?_
  refine z_aload_n S 0 dX10_remembers_60 rfl rfl ?_
  refine z_getR (K' := 9) (n' := 46) S cf_8 h_x0 5 (by decide) rfl rfl rfl wd672 dX10_remembers_61 (fun h2 => ?_)
  refine z_iconst (v := 0) S dX10_remembers_64 (by decide) ?_
  refine z_callSV (rc := r_X10_copy) [.ref (ad E (P.2.2 x0 6)), .int ((46 : Int32) * (P.1 x0 7)), .ref (ad E (P.2.2 x0 5)), .int (0 : Int32)] S mo_X10_copy wd807 wd806 rfl rfl (by decide) (z_room0 S M (by rfl) (by rfl)) rfl (Nat.le_of_ble_eq_true rfl) rfl dX10_remembers_65  (fun q => q) (fun q hq => m_X10_copy (xl x) E _ _ _ _ _ _ _ h1 h2 q hq) hf (fun q3 hf => ?_)
  refine z_aload_n S 0 dX10_remembers_68 rfl rfl ?_
  refine z_dup S dX10_remembers_69 rfl ?_
  refine z_getI S cf_8 h_x0 7 (by decide) rfl wd674 dX10_remembers_70 ?_
  refine z_iconst (v := 1) S dX10_remembers_73 (by decide) ?_
  refine z_iadd S dX10_remembers_74 ?_
  refine z_putI S cf_8 h_x0 7 (by decide) rfl rfl rfl rfl wd674 dX10_remembers_75 ?_
  exact z_vretI S M rfl dX10_remembers_78 hf
def f_X10_remembers_L11 (K : PH → Option PH) (x0 : Nat) : Nat → PH → Int32 → Option PH
  | 0, _, _ => none
  | n + 1, P, x1 =>
    (if (414 : Int32) ≤ x1 then K P else (if ((x1 + (46 : Int32)) < 0 ∨ 460 ≤ (x1 + (46 : Int32)).toNatClampNeg) then none else (if (x1 < 0 ∨ 460 ≤ x1.toNatClampNeg) then none else ((some (sI P (P.2.2 x0 6) x1.toNatClampNeg (P.1 (P.2.2 x0 6) (x1 + (46 : Int32)).toNatClampNeg))).bind fun P6 => f_X10_remembers_L11 K x0 n P6 (x1 + (1 : Int32))))))
theorem w_X10_remembers_L11 {x : Fx} {E : Ev} (S : ZS x E r_X10_remembers cX10_remembers 2 RX10 none) (M : ZM x E) {K : PH → Option PH} (x0 : Nat) (h_x0 : ok x0 8 0) (r : PH) (hK : ∀ (P1 : PH) , K P1 = some r → Wz x E 2 (QV E x r) P1 39 [(0, .ref (ad E x0))] []) : ∀ (n : Nat) (P : PH) (x1 : Int32), f_X10_remembers_L11 K x0 n P x1 = some r → Wz x E 2 (QV E x r) P 11 [(0, .ref (ad E x0)), (1, .int x1)] [] := by
  intro n
  induction n with
  | zero => intro P x1 hf; cases hf
  | succ n ih =>
    intro P x1 hf
    unfold f_X10_remembers_L11 at hf
    refine z_iload_n S 1 dX10_remembers_11 rfl rfl ?_
    refine z_sipush (v := 414) S dX10_remembers_12 (by decide) ?_
    refine z_icmp_ge (tgt := 39) S dX10_remembers_15 (by decide) hf (fun hf => ?_) (fun hf => ?_)
    · refine z_sub [0] rfl ?_
      exact hK P hf
    · refine z_aload_n S 0 dX10_remembers_18 rfl rfl ?_
      refine z_getR (K' := 9) (n' := 460) S cf_8 h_x0 6 (by decide) rfl rfl rfl wd673 dX10_remembers_19 (fun h4 => ?_)
      refine z_iload_n S 1 dX10_remembers_22 rfl rfl ?_
      refine z_aload_n S 0 dX10_remembers_23 rfl rfl ?_
      refine z_getR (K' := 9) (n' := 460) S cf_8 h_x0 6 (by decide) rfl rfl rfl wd673 dX10_remembers_24 (fun h5 => ?_)
      refine z_iload_n S 1 dX10_remembers_27 rfl rfl ?_
      refine z_bipush (v := 46) S dX10_remembers_28 (by decide) ?_
      refine z_iadd S dX10_remembers_30 ?_
      refine z_iald S h5 dX10_remembers_31 hf (fun hf => ?_)
      refine z_iast S h4 dX10_remembers_32 hf (fun hf => ?_)
      refine z_nmP hf (fun P6 hf => ?_)
      refine z_iinc (v := (x1 + (1 : Int32))) (lv' := [(1, .int (x1 + (1 : Int32))), (0, .ref (ad E x0))]) S 1 dX10_remembers_33 rfl (by rfl) (by decide) rfl ?_
      refine z_goto (tgt := 11) S dX10_remembers_36 (by decide) ?_
      refine z_sub [1, 0] rfl ?_
      exact ih P6 (x1 + (1 : Int32)) hf
def f_X10_remembers (P : PH) (x0 : Nat) : Option PH :=
  (if (P.1 x0 7) = (10 : Int32) then f_X10_remembers_L11 (fun P7 => f_X10_remembers_J49 (sI P7 x0 7 ((P7.1 x0 7) - (1 : Int32))) x0) x0 1000 P (0 : Int32) else f_X10_remembers_J49 P x0)
theorem w_X10_remembers {x : Fx} {E : Ev} (S : ZS x E r_X10_remembers cX10_remembers 2 RX10 none) (M : ZM x E) (P : PH) (x0 : Nat) (h_x0 : ok x0 8 0) (r : PH) (hf : f_X10_remembers P x0 = some r) : Wz x E 2 (QV E x r) P 0 [(0, .ref (ad E x0))] [] := by
  unfold f_X10_remembers at hf
  refine z_aload_n S 0 dX10_remembers_0 rfl rfl ?_
  refine z_getI S cf_8 h_x0 7 (by decide) rfl wd674 dX10_remembers_1 ?_
  refine z_bipush (v := 10) S dX10_remembers_4 (by decide) ?_
  refine z_icmp_ne (tgt := 49) S dX10_remembers_6 (by decide) hf (fun hf => ?_) (fun hf => ?_)
  · refine z_iconst (v := 0) S dX10_remembers_9 (by decide) ?_
    refine z_istore_n (lv' := [(1, .int (0 : Int32)), (0, .ref (ad E x0))]) S dX10_remembers_10 rfl (by decide) rfl ?_
    refine z_sub [1, 0] rfl ?_
    refine w_X10_remembers_L11 S M x0 h_x0 r (fun P7 hf => ?_) 1000 P (0 : Int32) hf
    refine z_aload_n S 0 dX10_remembers_39 rfl rfl ?_
    refine z_dup S dX10_remembers_40 rfl ?_
    refine z_getI S cf_8 h_x0 7 (by decide) rfl wd674 dX10_remembers_41 ?_
    refine z_iconst (v := 1) S dX10_remembers_44 (by decide) ?_
    refine z_isub S dX10_remembers_45 ?_
    refine z_putI S cf_8 h_x0 7 (by decide) rfl rfl rfl rfl wd674 dX10_remembers_46 ?_
    exact w_X10_remembers_J49 S M (sI P7 x0 7 ((P7.1 x0 7) - (1 : Int32))) x0 h_x0 r hf
  · exact w_X10_remembers_J49 S M P x0 h_x0 r hf
theorem m_X10_remembers (l : Launch) (E : Ev) (P : PH) (x0 : Nat) (h_x0 : ok x0 8 0) (r : PH) (hf : f_X10_remembers P x0 = some r) : CtV l E yX10_remembers cX10_remembers 2 none r_X10_remembers [.ref (ad E x0)] P r :=
  z_body (own := RX10) (by decide +kernel) rfl (Nat.le_of_ble_eq_true rfl) rfl (fun x _ S M => w_X10_remembers S M P x0 h_x0 r hf)
-- yX10_day
theorem dX10_day_0 : decode cX10_day 0 = .ok (.aload_n 0, 1) := by decide +kernel
theorem dX10_day_1 : decode cX10_day 1 = .ok (.getfield 19, 3) := by decide +kernel
theorem dX10_day_4 : decode cX10_day 4 = .ok (.iconst 0, 1) := by decide +kernel
theorem dX10_day_5 : decode cX10_day 5 = .ok (.iaload, 1) := by decide +kernel
theorem dX10_day_6 : decode cX10_day 6 = .ok (.bipush 99, 2) := by decide +kernel
theorem dX10_day_8 : decode cX10_day 8 = .ok (.if_icmp .ne 6, 3) := by decide +kernel
theorem dX10_day_11 : decode cX10_day 11 = .ok (.bipush (-2), 2) := by decide +kernel
theorem dX10_day_13 : decode cX10_day 13 = .ok (.ireturn, 1) := by decide +kernel
theorem dX10_day_14 : decode cX10_day 14 = .ok (.aload_n 0, 1) := by decide +kernel
theorem dX10_day_15 : decode cX10_day 15 = .ok (.invokevirtual 179, 3) := by decide +kernel
theorem dX10_day_18 : decode cX10_day 18 = .ok (.aload_n 0, 1) := by decide +kernel
theorem dX10_day_19 : decode cX10_day 19 = .ok (.getfield 19, 3) := by decide +kernel
theorem dX10_day_22 : decode cX10_day 22 = .ok (.iconst 0, 1) := by decide +kernel
theorem dX10_day_23 : decode cX10_day 23 = .ok (.dup2, 1) := by decide +kernel
theorem dX10_day_24 : decode cX10_day 24 = .ok (.iaload, 1) := by decide +kernel
theorem dX10_day_25 : decode cX10_day 25 = .ok (.iconst 1, 1) := by decide +kernel
theorem dX10_day_26 : decode cX10_day 26 = .ok (.iadd, 1) := by decide +kernel
theorem dX10_day_27 : decode cX10_day 27 = .ok (.iastore, 1) := by decide +kernel
theorem dX10_day_28 : decode cX10_day 28 = .ok (.aload_n 0, 1) := by decide +kernel
theorem dX10_day_29 : decode cX10_day 29 = .ok (.getfield 19, 3) := by decide +kernel
theorem dX10_day_32 : decode cX10_day 32 = .ok (.iconst 0, 1) := by decide +kernel
theorem dX10_day_33 : decode cX10_day 33 = .ok (.iaload, 1) := by decide +kernel
theorem dX10_day_34 : decode cX10_day 34 = .ok (.ireturn, 1) := by decide +kernel
def r_X10_day : Room := { frames := 2, cells := 0, slots := 0, locals := 45 }
def f_X10_day (P : PH) (x0 : Nat) : Option (Int32 × PH) :=
  (if ((0 : Int32) < 0 ∨ 46 ≤ (0 : Int32).toNatClampNeg) then none else (if (P.1 (P.2.2 x0 5) (0 : Int32).toNatClampNeg) = (99 : Int32) then some ((-2 : Int32), P) else ((f_X10_remembers P x0).bind fun q2 => (if ((0 : Int32) < 0 ∨ 46 ≤ (0 : Int32).toNatClampNeg) then none else (if ((0 : Int32) < 0 ∨ 46 ≤ (0 : Int32).toNatClampNeg) then none else ((some (sI q2 (q2.2.2 x0 5) (0 : Int32).toNatClampNeg ((q2.1 (q2.2.2 x0 5) (0 : Int32).toNatClampNeg) + (1 : Int32)))).bind fun P4 => (if ((0 : Int32) < 0 ∨ 46 ≤ (0 : Int32).toNatClampNeg) then none else some ((P4.1 (P4.2.2 x0 5) (0 : Int32).toNatClampNeg), P4))))))))
theorem w_X10_day {x : Fx} {E : Ev} (S : ZS x E r_X10_day cX10_day 1 RX10 (some .int)) (M : ZM x E) (P : PH) (x0 : Nat) (h_x0 : ok x0 8 0) (r : (Int32 × PH)) (hf : f_X10_day P x0 = some r) : Wz x E 1 (QI E x r.1 r.2) P 0 [(0, .ref (ad E x0))] [] := by
  unfold f_X10_day at hf
  refine z_aload_n S 0 dX10_day_0 rfl rfl ?_
  refine z_getR (K' := 9) (n' := 46) S cf_8 h_x0 5 (by decide) rfl rfl rfl wd672 dX10_day_1 (fun h1 => ?_)
  refine z_iconst (v := 0) S dX10_day_4 (by decide) ?_
  refine z_iald S h1 dX10_day_5 hf (fun hf => ?_)
  refine z_bipush (v := 99) S dX10_day_6 (by decide) ?_
  refine z_icmp_ne (tgt := 14) S dX10_day_8 (by decide) hf (fun hf => ?_) (fun hf => ?_)
  · refine z_bipush (v := (-2 : Int32)) S dX10_day_11 (by decide) ?_
    exact z_iretI (v := (-2 : Int32)) S M rfl dX10_day_13 hf
  · refine z_aload_n S 0 dX10_day_14 rfl rfl ?_
    refine z_callVV (rc := r_X10_remembers) [] S mo_X10_remembers wd882 wd28 wd880 h_x0 (by decide) cl_8 rfl rfl (by decide) (z_room0 S M (by rfl) (by rfl)) rfl (Nat.le_of_ble_eq_true rfl) rfl dX10_day_15  (fun q => q) (fun q hq => m_X10_remembers (xl x) E _ _ h_x0 q hq) hf (fun q2 hf => ?_)
    refine z_aload_n S 0 dX10_day_18 rfl rfl ?_
    refine z_getR (K' := 9) (n' := 46) S cf_8 h_x0 5 (by decide) rfl rfl rfl wd672 dX10_day_19 (fun h3 => ?_)
    refine z_iconst (v := 0) S dX10_day_22 (by decide) ?_
    refine z_dup2 S dX10_day_23 rfl rfl ?_
    refine z_iald S h3 dX10_day_24 hf (fun hf => ?_)
    refine z_iconst (v := 1) S dX10_day_25 (by decide) ?_
    refine z_iadd S dX10_day_26 ?_
    refine z_iast S h3 dX10_day_27 hf (fun hf => ?_)
    refine z_nmP hf (fun P4 hf => ?_)
    refine z_aload_n S 0 dX10_day_28 rfl rfl ?_
    refine z_getR (K' := 9) (n' := 46) S cf_8 h_x0 5 (by decide) rfl rfl rfl wd672 dX10_day_29 (fun h5 => ?_)
    refine z_iconst (v := 0) S dX10_day_32 (by decide) ?_
    refine z_iald S h5 dX10_day_33 hf (fun hf => ?_)
    exact z_iretI (v := (P4.1 (P4.2.2 x0 5) (0 : Int32).toNatClampNeg)) S M rfl dX10_day_34 hf
theorem m_X10_day (l : Launch) (E : Ev) (P : PH) (x0 : Nat) (h_x0 : ok x0 8 0) (r : (Int32 × PH)) (hf : f_X10_day P x0 = some r) : CtI l E yX10_day cX10_day 1 (some .int) r_X10_day [.ref (ad E x0)] P r.1 r.2 :=
  z_body (own := RX10) (by decide +kernel) rfl (Nat.le_of_ble_eq_true rfl) rfl (fun x _ S M => w_X10_day S M P x0 h_x0 r hf)
-- yX10_dies
theorem dX10_dies_0 : decode cX10_dies 0 = .ok (.aload_n 0, 1) := by decide +kernel
theorem dX10_dies_1 : decode cX10_dies 1 = .ok (.iload_n 1, 1) := by decide +kernel
theorem dX10_dies_2 : decode cX10_dies 2 = .ok (.invokevirtual 134, 3) := by decide +kernel
theorem dX10_dies_5 : decode cX10_dies 5 = .ok (.ifCond .ne 5, 3) := by decide +kernel
theorem dX10_dies_8 : decode cX10_dies 8 = .ok (.iconst (-1), 1) := by decide +kernel
theorem dX10_dies_9 : decode cX10_dies 9 = .ok (.ireturn, 1) := by decide +kernel
theorem dX10_dies_10 : decode cX10_dies 10 = .ok (.aload_n 0, 1) := by decide +kernel
theorem dX10_dies_11 : decode cX10_dies 11 = .ok (.getfield 19, 3) := by decide +kernel
theorem dX10_dies_14 : decode cX10_dies 14 = .ok (.iconst 1, 1) := by decide +kernel
theorem dX10_dies_15 : decode cX10_dies 15 = .ok (.iaload, 1) := by decide +kernel
theorem dX10_dies_16 : decode cX10_dies 16 = .ok (.iload_n 1, 1) := by decide +kernel
theorem dX10_dies_17 : decode cX10_dies 17 = .ok (.invokestatic 137, 3) := by decide +kernel
theorem dX10_dies_20 : decode cX10_dies 20 = .ok (.ifCond .ne 6, 3) := by decide +kernel
theorem dX10_dies_23 : decode cX10_dies 23 = .ok (.bipush (-2), 2) := by decide +kernel
theorem dX10_dies_25 : decode cX10_dies 25 = .ok (.ireturn, 1) := by decide +kernel
theorem dX10_dies_26 : decode cX10_dies 26 = .ok (.aload_n 0, 1) := by decide +kernel
theorem dX10_dies_27 : decode cX10_dies 27 = .ok (.invokevirtual 179, 3) := by decide +kernel
theorem dX10_dies_30 : decode cX10_dies 30 = .ok (.aload_n 0, 1) := by decide +kernel
theorem dX10_dies_31 : decode cX10_dies 31 = .ok (.getfield 19, 3) := by decide +kernel
theorem dX10_dies_34 : decode cX10_dies 34 = .ok (.iconst 1, 1) := by decide +kernel
theorem dX10_dies_35 : decode cX10_dies 35 = .ok (.dup2, 1) := by decide +kernel
theorem dX10_dies_36 : decode cX10_dies 36 = .ok (.iaload, 1) := by decide +kernel
theorem dX10_dies_37 : decode cX10_dies 37 = .ok (.iconst 1, 1) := by decide +kernel
theorem dX10_dies_38 : decode cX10_dies 38 = .ok (.iload_n 1, 1) := by decide +kernel
theorem dX10_dies_39 : decode cX10_dies 39 = .ok (.ishl, 1) := by decide +kernel
theorem dX10_dies_40 : decode cX10_dies 40 = .ok (.isub, 1) := by decide +kernel
theorem dX10_dies_41 : decode cX10_dies 41 = .ok (.iastore, 1) := by decide +kernel
theorem dX10_dies_42 : decode cX10_dies 42 = .ok (.aload_n 0, 1) := by decide +kernel
theorem dX10_dies_43 : decode cX10_dies 43 = .ok (.getfield 19, 3) := by decide +kernel
theorem dX10_dies_46 : decode cX10_dies 46 = .ok (.iconst 1, 1) := by decide +kernel
theorem dX10_dies_47 : decode cX10_dies 47 = .ok (.iaload, 1) := by decide +kernel
theorem dX10_dies_48 : decode cX10_dies 48 = .ok (.invokestatic 182, 3) := by decide +kernel
theorem dX10_dies_51 : decode cX10_dies 51 = .ok (.ireturn, 1) := by decide +kernel
def r_X10_dies : Room := { frames := 2, cells := 0, slots := 0, locals := 45 }
def f_X10_dies (P : PH) (x0 : Nat) (x1 : Int32) : Option (Int32 × PH) :=
  ((f_X10_isPerson P x0 x1).bind fun q1 => (if (b2i q1) = 0 then some ((-1 : Int32), P) else (if ((1 : Int32) < 0 ∨ 46 ≤ (1 : Int32).toNatClampNeg) then none else ((f_X10_has P (P.1 (P.2.2 x0 5) (1 : Int32).toNatClampNeg) x1).bind fun q3 => (if (b2i q3) = 0 then some ((-2 : Int32), P) else ((f_X10_remembers P x0).bind fun q4 => (if ((1 : Int32) < 0 ∨ 46 ≤ (1 : Int32).toNatClampNeg) then none else (if ((1 : Int32) < 0 ∨ 46 ≤ (1 : Int32).toNatClampNeg) then none else ((some (sI q4 (q4.2.2 x0 5) (1 : Int32).toNatClampNeg ((q4.1 (q4.2.2 x0 5) (1 : Int32).toNatClampNeg) - ((1 : Int32) <<< (x1 &&& 31))))).bind fun P6 => (if ((1 : Int32) < 0 ∨ 46 ≤ (1 : Int32).toNatClampNeg) then none else ((f_X10_bits P6 (P6.1 (P6.2.2 x0 5) (1 : Int32).toNatClampNeg)).bind fun q8 => some (q8, P6))))))))))))
theorem w_X10_dies {x : Fx} {E : Ev} (S : ZS x E r_X10_dies cX10_dies 2 RX10 (some .int)) (M : ZM x E) (P : PH) (x0 : Nat) (x1 : Int32) (h_x0 : ok x0 8 0) (r : (Int32 × PH)) (hf : f_X10_dies P x0 x1 = some r) : Wz x E 2 (QI E x r.1 r.2) P 0 [(0, .ref (ad E x0)), (1, .int x1)] [] := by
  unfold f_X10_dies at hf
  refine z_aload_n S 0 dX10_dies_0 rfl rfl ?_
  refine z_iload_n S 1 dX10_dies_1 rfl rfl ?_
  refine z_callVI (rc := r_X10_isPerson) [.int x1] S mo_X10_isPerson wd815 wd16 wd813 h_x0 (by decide) cl_8 rfl rfl (by decide) (z_room0 S M (by rfl) (by rfl)) rfl (Nat.le_of_ble_eq_true rfl) rfl dX10_dies_2 (fun q => b2i q) (fun _ => P) (fun q hq => m_X10_isPerson (xl x) E _ _ _ h_x0 q hq) hf (fun q1 hf => ?_)
  refine z_if_ne (tgt := 10) S dX10_dies_5 (by decide) hf (fun hf => ?_) (fun hf => ?_)
  · refine z_iconst (v := (-1 : Int32)) S dX10_dies_8 (by decide) ?_
    exact z_iretI (v := (-1 : Int32)) S M rfl dX10_dies_9 hf
  · refine z_aload_n S 0 dX10_dies_10 rfl rfl ?_
    refine z_getR (K' := 9) (n' := 46) S cf_8 h_x0 5 (by decide) rfl rfl rfl wd672 dX10_dies_11 (fun h2 => ?_)
    refine z_iconst (v := 1) S dX10_dies_14 (by decide) ?_
    refine z_iald S h2 dX10_dies_15 hf (fun hf => ?_)
    refine z_iload_n S 1 dX10_dies_16 rfl rfl ?_
    refine z_callSI (rc := r_X10_has) [.int (P.1 (P.2.2 x0 5) (1 : Int32).toNatClampNeg), .int x1] S mo_X10_has wd834 wd833 rfl rfl (by decide) (z_room0 S M (by rfl) (by rfl)) rfl (Nat.le_of_ble_eq_true rfl) rfl dX10_dies_17 (fun q => b2i q) (fun _ => P) (fun q hq => m_X10_has (xl x) E _ _ _  q hq) hf (fun q3 hf => ?_)
    refine z_if_ne (tgt := 26) S dX10_dies_20 (by decide) hf (fun hf => ?_) (fun hf => ?_)
    · refine z_bipush (v := (-2 : Int32)) S dX10_dies_23 (by decide) ?_
      exact z_iretI (v := (-2 : Int32)) S M rfl dX10_dies_25 hf
    · refine z_aload_n S 0 dX10_dies_26 rfl rfl ?_
      refine z_callVV (rc := r_X10_remembers) [] S mo_X10_remembers wd882 wd28 wd880 h_x0 (by decide) cl_8 rfl rfl (by decide) (z_room0 S M (by rfl) (by rfl)) rfl (Nat.le_of_ble_eq_true rfl) rfl dX10_dies_27  (fun q => q) (fun q hq => m_X10_remembers (xl x) E _ _ h_x0 q hq) hf (fun q4 hf => ?_)
      refine z_aload_n S 0 dX10_dies_30 rfl rfl ?_
      refine z_getR (K' := 9) (n' := 46) S cf_8 h_x0 5 (by decide) rfl rfl rfl wd672 dX10_dies_31 (fun h5 => ?_)
      refine z_iconst (v := 1) S dX10_dies_34 (by decide) ?_
      refine z_dup2 S dX10_dies_35 rfl rfl ?_
      refine z_iald S h5 dX10_dies_36 hf (fun hf => ?_)
      refine z_iconst (v := 1) S dX10_dies_37 (by decide) ?_
      refine z_iload_n S 1 dX10_dies_38 rfl rfl ?_
      refine z_ishl S dX10_dies_39 ?_
      refine z_isub S dX10_dies_40 ?_
      refine z_iast S h5 dX10_dies_41 hf (fun hf => ?_)
      refine z_nmP hf (fun P6 hf => ?_)
      refine z_aload_n S 0 dX10_dies_42 rfl rfl ?_
      refine z_getR (K' := 9) (n' := 46) S cf_8 h_x0 5 (by decide) rfl rfl rfl wd672 dX10_dies_43 (fun h7 => ?_)
      refine z_iconst (v := 1) S dX10_dies_46 (by decide) ?_
      refine z_iald S h7 dX10_dies_47 hf (fun hf => ?_)
      refine z_callSI (rc := r_X10_bits) [.int (P6.1 (P6.2.2 x0 5) (1 : Int32).toNatClampNeg)] S mo_X10_bits wd889 wd888 rfl rfl (by decide) (z_room0 S M (by rfl) (by rfl)) rfl (Nat.le_of_ble_eq_true rfl) rfl dX10_dies_48 (fun q => q) (fun _ => P6) (fun q hq => m_X10_bits (xl x) E _ _  q hq) hf (fun q8 hf => ?_)
      exact z_iretI (v := q8) S M rfl dX10_dies_51 hf
theorem m_X10_dies (l : Launch) (E : Ev) (P : PH) (x0 : Nat) (x1 : Int32) (h_x0 : ok x0 8 0) (r : (Int32 × PH)) (hf : f_X10_dies P x0 x1 = some r) : CtI l E yX10_dies cX10_dies 2 (some .int) r_X10_dies [.ref (ad E x0), .int x1] P r.1 r.2 :=
  z_body (own := RX10) (by decide +kernel) rfl (Nat.le_of_ble_eq_true rfl) rfl (fun x _ S M => w_X10_dies S M P x0 x1 h_x0 r hf)
-- yX10_grants
theorem dX10_grants_0 : decode cX10_grants 0 = .ok (.aload_n 0, 1) := by decide +kernel
theorem dX10_grants_1 : decode cX10_grants 1 = .ok (.iload_n 1, 1) := by decide +kernel
theorem dX10_grants_2 : decode cX10_grants 2 = .ok (.invokevirtual 134, 3) := by decide +kernel
theorem dX10_grants_5 : decode cX10_grants 5 = .ok (.ifCond .eq 21, 3) := by decide +kernel
theorem dX10_grants_8 : decode cX10_grants 8 = .ok (.aload_n 0, 1) := by decide +kernel
theorem dX10_grants_9 : decode cX10_grants 9 = .ok (.iload_n 2, 1) := by decide +kernel
theorem dX10_grants_10 : decode cX10_grants 10 = .ok (.invokevirtual 169, 3) := by decide +kernel
theorem dX10_grants_13 : decode cX10_grants 13 = .ok (.ifCond .eq 13, 3) := by decide +kernel
theorem dX10_grants_16 : decode cX10_grants 16 = .ok (.iload_n 3, 1) := by decide +kernel
theorem dX10_grants_17 : decode cX10_grants 17 = .ok (.iconst 0, 1) := by decide +kernel
theorem dX10_grants_18 : decode cX10_grants 18 = .ok (.bipush 99, 2) := by decide +kernel
theorem dX10_grants_20 : decode cX10_grants 20 = .ok (.invokestatic 57, 3) := by decide +kernel
theorem dX10_grants_23 : decode cX10_grants 23 = .ok (.ifCond .ne 5, 3) := by decide +kernel
theorem dX10_grants_26 : decode cX10_grants 26 = .ok (.iconst (-1), 1) := by decide +kernel
theorem dX10_grants_27 : decode cX10_grants 27 = .ok (.ireturn, 1) := by decide +kernel
theorem dX10_grants_28 : decode cX10_grants 28 = .ok (.aload_n 0, 1) := by decide +kernel
theorem dX10_grants_29 : decode cX10_grants 29 = .ok (.getfield 19, 3) := by decide +kernel
theorem dX10_grants_32 : decode cX10_grants 32 = .ok (.bipush 15, 2) := by decide +kernel
theorem dX10_grants_34 : decode cX10_grants 34 = .ok (.iaload, 1) := by decide +kernel
theorem dX10_grants_35 : decode cX10_grants 35 = .ok (.bipush 10, 2) := by decide +kernel
theorem dX10_grants_37 : decode cX10_grants 37 = .ok (.if_icmp .ne 6, 3) := by decide +kernel
theorem dX10_grants_40 : decode cX10_grants 40 = .ok (.bipush (-3), 2) := by decide +kernel
theorem dX10_grants_42 : decode cX10_grants 42 = .ok (.ireturn, 1) := by decide +kernel
theorem dX10_grants_43 : decode cX10_grants 43 = .ok (.aload_n 0, 1) := by decide +kernel
theorem dX10_grants_44 : decode cX10_grants 44 = .ok (.invokevirtual 179, 3) := by decide +kernel
theorem dX10_grants_47 : decode cX10_grants 47 = .ok (.aload_n 0, 1) := by decide +kernel
theorem dX10_grants_48 : decode cX10_grants 48 = .ok (.getfield 19, 3) := by decide +kernel
theorem dX10_grants_51 : decode cX10_grants 51 = .ok (.iload_n 1, 1) := by decide +kernel
theorem dX10_grants_52 : decode cX10_grants 52 = .ok (.iload_n 2, 1) := by decide +kernel
theorem dX10_grants_53 : decode cX10_grants 53 = .ok (.iload_n 3, 1) := by decide +kernel
theorem dX10_grants_54 : decode cX10_grants 54 = .ok (.invokestatic 104, 3) := by decide +kernel
theorem dX10_grants_57 : decode cX10_grants 57 = .ok (.aload_n 0, 1) := by decide +kernel
theorem dX10_grants_58 : decode cX10_grants 58 = .ok (.getfield 19, 3) := by decide +kernel
theorem dX10_grants_61 : decode cX10_grants 61 = .ok (.bipush 15, 2) := by decide +kernel
theorem dX10_grants_63 : decode cX10_grants 63 = .ok (.iaload, 1) := by decide +kernel
theorem dX10_grants_64 : decode cX10_grants 64 = .ok (.ireturn, 1) := by decide +kernel
def r_X10_grants : Room := { frames := 2, cells := 0, slots := 0, locals := 45 }
def f_X10_grants (P : PH) (x0 : Nat) (x1 : Int32) (x2 : Int32) (x3 : Int32) : Option (Int32 × PH) :=
  ((f_X10_isPerson P x0 x1).bind fun q1 => (if (b2i q1) = 0 then some ((-1 : Int32), P) else ((f_X10_isRoom P x0 x2).bind fun q2 => (if (b2i q2) = 0 then some ((-1 : Int32), P) else ((f_X10_in P x3 (0 : Int32) (99 : Int32)).bind fun q3 => (if (b2i q3) = 0 then some ((-1 : Int32), P) else (if ((15 : Int32) < 0 ∨ 46 ≤ (15 : Int32).toNatClampNeg) then none else (if (P.1 (P.2.2 x0 5) (15 : Int32).toNatClampNeg) = (10 : Int32) then some ((-3 : Int32), P) else ((f_X10_remembers P x0).bind fun q5 => ((f_X10_grantsIn 46 q5 (q5.2.2 x0 5) x1 x2 x3).bind fun q7 => (if ((15 : Int32) < 0 ∨ 46 ≤ (15 : Int32).toNatClampNeg) then none else some ((q7.1 (q7.2.2 x0 5) (15 : Int32).toNatClampNeg), q7))))))))))))
theorem w_X10_grants {x : Fx} {E : Ev} (S : ZS x E r_X10_grants cX10_grants 4 RX10 (some .int)) (M : ZM x E) (P : PH) (x0 : Nat) (x1 : Int32) (x2 : Int32) (x3 : Int32) (h_x0 : ok x0 8 0) (r : (Int32 × PH)) (hf : f_X10_grants P x0 x1 x2 x3 = some r) : Wz x E 4 (QI E x r.1 r.2) P 0 [(0, .ref (ad E x0)), (1, .int x1), (2, .int x2), (3, .int x3)] [] := by
  unfold f_X10_grants at hf
  refine z_aload_n S 0 dX10_grants_0 rfl rfl ?_
  refine z_iload_n S 1 dX10_grants_1 rfl rfl ?_
  refine z_callVI (rc := r_X10_isPerson) [.int x1] S mo_X10_isPerson wd815 wd16 wd813 h_x0 (by decide) cl_8 rfl rfl (by decide) (z_room0 S M (by rfl) (by rfl)) rfl (Nat.le_of_ble_eq_true rfl) rfl dX10_grants_2 (fun q => b2i q) (fun _ => P) (fun q hq => m_X10_isPerson (xl x) E _ _ _ h_x0 q hq) hf (fun q1 hf => ?_)
  refine z_if_eq (tgt := 26) S dX10_grants_5 (by decide) hf (fun hf => ?_) (fun hf => ?_)
  · refine z_iconst (v := (-1 : Int32)) S dX10_grants_26 (by decide) ?_
    exact z_iretI (v := (-1 : Int32)) S M rfl dX10_grants_27 hf
  · refine z_aload_n S 0 dX10_grants_8 rfl rfl ?_
    refine z_iload_n S 2 dX10_grants_9 rfl rfl ?_
    refine z_callVI (rc := r_X10_isRoom) [.int x2] S mo_X10_isRoom wd858 wd25 wd856 h_x0 (by decide) cl_8 rfl rfl (by decide) (z_room0 S M (by rfl) (by rfl)) rfl (Nat.le_of_ble_eq_true rfl) rfl dX10_grants_10 (fun q => b2i q) (fun _ => P) (fun q hq => m_X10_isRoom (xl x) E _ _ _ h_x0 q hq) hf (fun q2 hf => ?_)
    refine z_if_eq (tgt := 26) S dX10_grants_13 (by decide) hf (fun hf => ?_) (fun hf => ?_)
    · refine z_iconst (v := (-1 : Int32)) S dX10_grants_26 (by decide) ?_
      exact z_iretI (v := (-1 : Int32)) S M rfl dX10_grants_27 hf
    · refine z_iload_n S 3 dX10_grants_16 rfl rfl ?_
      refine z_iconst (v := 0) S dX10_grants_17 (by decide) ?_
      refine z_bipush (v := 99) S dX10_grants_18 (by decide) ?_
      refine z_callSI (rc := r_X10_in) [.int x3, .int (0 : Int32), .int (99 : Int32)] S mo_X10_in wd758 wd757 rfl rfl (by decide) (z_room0 S M (by rfl) (by rfl)) rfl (Nat.le_of_ble_eq_true rfl) rfl dX10_grants_20 (fun q => b2i q) (fun _ => P) (fun q hq => m_X10_in (xl x) E _ _ _ _  q hq) hf (fun q3 hf => ?_)
      refine z_if_ne (tgt := 28) S dX10_grants_23 (by decide) hf (fun hf => ?_) (fun hf => ?_)
      · refine z_iconst (v := (-1 : Int32)) S dX10_grants_26 (by decide) ?_
        exact z_iretI (v := (-1 : Int32)) S M rfl dX10_grants_27 hf
      · refine z_aload_n S 0 dX10_grants_28 rfl rfl ?_
        refine z_getR (K' := 9) (n' := 46) S cf_8 h_x0 5 (by decide) rfl rfl rfl wd672 dX10_grants_29 (fun h4 => ?_)
        refine z_bipush (v := 15) S dX10_grants_32 (by decide) ?_
        refine z_iald S h4 dX10_grants_34 hf (fun hf => ?_)
        refine z_bipush (v := 10) S dX10_grants_35 (by decide) ?_
        refine z_icmp_ne (tgt := 43) S dX10_grants_37 (by decide) hf (fun hf => ?_) (fun hf => ?_)
        · refine z_bipush (v := (-3 : Int32)) S dX10_grants_40 (by decide) ?_
          exact z_iretI (v := (-3 : Int32)) S M rfl dX10_grants_42 hf
        · refine z_aload_n S 0 dX10_grants_43 rfl rfl ?_
          refine z_callVV (rc := r_X10_remembers) [] S mo_X10_remembers wd882 wd28 wd880 h_x0 (by decide) cl_8 rfl rfl (by decide) (z_room0 S M (by rfl) (by rfl)) rfl (Nat.le_of_ble_eq_true rfl) rfl dX10_grants_44  (fun q => q) (fun q hq => m_X10_remembers (xl x) E _ _ h_x0 q hq) hf (fun q5 hf => ?_)
          refine z_aload_n S 0 dX10_grants_47 rfl rfl ?_
          refine z_getR (K' := 9) (n' := 46) S cf_8 h_x0 5 (by decide) rfl rfl rfl wd672 dX10_grants_48 (fun h6 => ?_)
          refine z_iload_n S 1 dX10_grants_51 rfl rfl ?_
          refine z_iload_n S 2 dX10_grants_52 rfl rfl ?_
          refine z_iload_n S 3 dX10_grants_53 rfl rfl ?_
          refine z_callSV (rc := r_X10_grantsIn) [.ref (ad E (q5.2.2 x0 5)), .int x1, .int x2, .int x3] S mo_X10_grantsIn wd804 wd803 rfl rfl (by decide) (z_room0 S M (by rfl) (by rfl)) rfl (Nat.le_of_ble_eq_true rfl) rfl dX10_grants_54  (fun q => q) (fun q hq => m_X10_grantsIn (xl x) E _ _ _ _ _ _ h6 q hq) hf (fun q7 hf => ?_)
          refine z_aload_n S 0 dX10_grants_57 rfl rfl ?_
          refine z_getR (K' := 9) (n' := 46) S cf_8 h_x0 5 (by decide) rfl rfl rfl wd672 dX10_grants_58 (fun h8 => ?_)
          refine z_bipush (v := 15) S dX10_grants_61 (by decide) ?_
          refine z_iald S h8 dX10_grants_63 hf (fun hf => ?_)
          exact z_iretI (v := (q7.1 (q7.2.2 x0 5) (15 : Int32).toNatClampNeg)) S M rfl dX10_grants_64 hf
theorem m_X10_grants (l : Launch) (E : Ev) (P : PH) (x0 : Nat) (x1 : Int32) (x2 : Int32) (x3 : Int32) (h_x0 : ok x0 8 0) (r : (Int32 × PH)) (hf : f_X10_grants P x0 x1 x2 x3 = some r) : CtI l E yX10_grants cX10_grants 4 (some .int) r_X10_grants [.ref (ad E x0), .int x1, .int x2, .int x3] P r.1 r.2 :=
  z_body (own := RX10) (by decide +kernel) rfl (Nat.le_of_ble_eq_true rfl) rfl (fun x _ S M => w_X10_grants S M P x0 x1 x2 x3 h_x0 r hf)
-- yX10_swap
theorem dX10_swap_0 : decode cX10_swap 0 = .ok (.aload_n 0, 1) := by decide +kernel
theorem dX10_swap_1 : decode cX10_swap 1 = .ok (.iload_n 1, 1) := by decide +kernel
theorem dX10_swap_2 : decode cX10_swap 2 = .ok (.iaload, 1) := by decide +kernel
theorem dX10_swap_3 : decode cX10_swap 3 = .ok (.istore_n 3, 1) := by decide +kernel
theorem dX10_swap_4 : decode cX10_swap 4 = .ok (.aload_n 0, 1) := by decide +kernel
theorem dX10_swap_5 : decode cX10_swap 5 = .ok (.iload_n 1, 1) := by decide +kernel
theorem dX10_swap_6 : decode cX10_swap 6 = .ok (.aload_n 0, 1) := by decide +kernel
theorem dX10_swap_7 : decode cX10_swap 7 = .ok (.iload_n 2, 1) := by decide +kernel
theorem dX10_swap_8 : decode cX10_swap 8 = .ok (.iaload, 1) := by decide +kernel
theorem dX10_swap_9 : decode cX10_swap 9 = .ok (.iastore, 1) := by decide +kernel
theorem dX10_swap_10 : decode cX10_swap 10 = .ok (.aload_n 0, 1) := by decide +kernel
theorem dX10_swap_11 : decode cX10_swap 11 = .ok (.iload_n 2, 1) := by decide +kernel
theorem dX10_swap_12 : decode cX10_swap 12 = .ok (.iload_n 3, 1) := by decide +kernel
theorem dX10_swap_13 : decode cX10_swap 13 = .ok (.iastore, 1) := by decide +kernel
theorem dX10_swap_14 : decode cX10_swap 14 = .ok (.return_, 1) := by decide +kernel
def r_X10_swap : Room := { frames := 0, cells := 0, slots := 0, locals := 0 }
def f_X10_swap (n0 : Nat) (P : PH) (x0 : Nat) (x1 : Int32) (x2 : Int32) : Option PH :=
  (if (x1 < 0 ∨ n0 ≤ x1.toNatClampNeg) then none else (if (x2 < 0 ∨ n0 ≤ x2.toNatClampNeg) then none else (if (x1 < 0 ∨ n0 ≤ x1.toNatClampNeg) then none else ((some (sI P x0 x1.toNatClampNeg (P.1 x0 x2.toNatClampNeg))).bind fun P1 => (if (x2 < 0 ∨ n0 ≤ x2.toNatClampNeg) then none else ((some (sI P1 x0 x2.toNatClampNeg (P.1 x0 x1.toNatClampNeg))).bind fun P2 => some P2))))))
theorem w_X10_swap {x : Fx} {E : Ev} (S : ZS x E r_X10_swap cX10_swap 4 RX10 none) (M : ZM x E) (n0 : Nat) (P : PH) (x0 : Nat) (x1 : Int32) (x2 : Int32) (h_x0 : ok x0 9 n0) (r : PH) (hf : f_X10_swap n0 P x0 x1 x2 = some r) : Wz x E 4 (QV E x r) P 0 [(0, .ref (ad E x0)), (1, .int x1), (2, .int x2)] [] := by
  unfold f_X10_swap at hf
  refine z_aload_n S 0 dX10_swap_0 rfl rfl ?_
  refine z_iload_n S 1 dX10_swap_1 rfl rfl ?_
  refine z_iald S h_x0 dX10_swap_2 hf (fun hf => ?_)
  refine z_istore_n (lv' := [(3, .int (P.1 x0 x1.toNatClampNeg)), (0, .ref (ad E x0)), (1, .int x1), (2, .int x2)]) S dX10_swap_3 rfl (by decide) rfl ?_
  refine z_aload_n S 1 dX10_swap_4 rfl rfl ?_
  refine z_iload_n S 2 dX10_swap_5 rfl rfl ?_
  refine z_aload_n S 1 dX10_swap_6 rfl rfl ?_
  refine z_iload_n S 3 dX10_swap_7 rfl rfl ?_
  refine z_iald S h_x0 dX10_swap_8 hf (fun hf => ?_)
  refine z_iast S h_x0 dX10_swap_9 hf (fun hf => ?_)
  refine z_nmP hf (fun P1 hf => ?_)
  refine z_aload_n S 1 dX10_swap_10 rfl rfl ?_
  refine z_iload_n S 3 dX10_swap_11 rfl rfl ?_
  refine z_iload_n S 0 dX10_swap_12 rfl rfl ?_
  refine z_iast S h_x0 dX10_swap_13 hf (fun hf => ?_)
  refine z_nmP hf (fun P2 hf => ?_)
  exact z_vretI S M rfl dX10_swap_14 hf
theorem m_X10_swap (l : Launch) (E : Ev) (n0 : Nat) (P : PH) (x0 : Nat) (x1 : Int32) (x2 : Int32) (h_x0 : ok x0 9 n0) (r : PH) (hf : f_X10_swap n0 P x0 x1 x2 = some r) : CtV l E yX10_swap cX10_swap 4 none r_X10_swap [.ref (ad E x0), .int x1, .int x2] P r :=
  z_body (own := RX10) (by decide +kernel) rfl (Nat.le_of_ble_eq_true rfl) rfl (fun x _ S M => w_X10_swap S M n0 P x0 x1 x2 h_x0 r hf)
-- yX10_exchanges
theorem dX10_exchanges_0 : decode cX10_exchanges 0 = .ok (.aload_n 0, 1) := by decide +kernel
theorem dX10_exchanges_1 : decode cX10_exchanges 1 = .ok (.iload_n 1, 1) := by decide +kernel
theorem dX10_exchanges_2 : decode cX10_exchanges 2 = .ok (.invokevirtual 169, 3) := by decide +kernel
theorem dX10_exchanges_5 : decode cX10_exchanges 5 = .ok (.ifCond .eq 16, 3) := by decide +kernel
theorem dX10_exchanges_8 : decode cX10_exchanges 8 = .ok (.aload_n 0, 1) := by decide +kernel
theorem dX10_exchanges_9 : decode cX10_exchanges 9 = .ok (.iload_n 2, 1) := by decide +kernel
theorem dX10_exchanges_10 : decode cX10_exchanges 10 = .ok (.invokevirtual 169, 3) := by decide +kernel
theorem dX10_exchanges_13 : decode cX10_exchanges 13 = .ok (.ifCond .eq 8, 3) := by decide +kernel
theorem dX10_exchanges_16 : decode cX10_exchanges 16 = .ok (.iload_n 1, 1) := by decide +kernel
theorem dX10_exchanges_17 : decode cX10_exchanges 17 = .ok (.iload_n 2, 1) := by decide +kernel
theorem dX10_exchanges_18 : decode cX10_exchanges 18 = .ok (.if_icmp .ne 5, 3) := by decide +kernel
theorem dX10_exchanges_21 : decode cX10_exchanges 21 = .ok (.iconst (-1), 1) := by decide +kernel
theorem dX10_exchanges_22 : decode cX10_exchanges 22 = .ok (.ireturn, 1) := by decide +kernel
theorem dX10_exchanges_23 : decode cX10_exchanges 23 = .ok (.aload_n 0, 1) := by decide +kernel
theorem dX10_exchanges_24 : decode cX10_exchanges 24 = .ok (.invokevirtual 179, 3) := by decide +kernel
theorem dX10_exchanges_27 : decode cX10_exchanges 27 = .ok (.aload_n 0, 1) := by decide +kernel
theorem dX10_exchanges_28 : decode cX10_exchanges 28 = .ok (.getfield 19, 3) := by decide +kernel
theorem dX10_exchanges_31 : decode cX10_exchanges 31 = .ok (.bipush 8, 2) := by decide +kernel
theorem dX10_exchanges_33 : decode cX10_exchanges 33 = .ok (.iload_n 1, 1) := by decide +kernel
theorem dX10_exchanges_34 : decode cX10_exchanges 34 = .ok (.iadd, 1) := by decide +kernel
theorem dX10_exchanges_35 : decode cX10_exchanges 35 = .ok (.bipush 8, 2) := by decide +kernel
theorem dX10_exchanges_37 : decode cX10_exchanges 37 = .ok (.iload_n 2, 1) := by decide +kernel
theorem dX10_exchanges_38 : decode cX10_exchanges 38 = .ok (.iadd, 1) := by decide +kernel
theorem dX10_exchanges_39 : decode cX10_exchanges 39 = .ok (.invokestatic 185, 3) := by decide +kernel
theorem dX10_exchanges_42 : decode cX10_exchanges 42 = .ok (.aload_n 0, 1) := by decide +kernel
theorem dX10_exchanges_43 : decode cX10_exchanges 43 = .ok (.getfield 19, 3) := by decide +kernel
theorem dX10_exchanges_46 : decode cX10_exchanges 46 = .ok (.bipush 8, 2) := by decide +kernel
theorem dX10_exchanges_48 : decode cX10_exchanges 48 = .ok (.iload_n 1, 1) := by decide +kernel
theorem dX10_exchanges_49 : decode cX10_exchanges 49 = .ok (.iadd, 1) := by decide +kernel
theorem dX10_exchanges_50 : decode cX10_exchanges 50 = .ok (.iaload, 1) := by decide +kernel
theorem dX10_exchanges_51 : decode cX10_exchanges 51 = .ok (.ireturn, 1) := by decide +kernel
def r_X10_exchanges : Room := { frames := 2, cells := 0, slots := 0, locals := 45 }
def f_X10_exchanges (P : PH) (x0 : Nat) (x1 : Int32) (x2 : Int32) : Option (Int32 × PH) :=
  ((f_X10_isRoom P x0 x1).bind fun q1 => (if (b2i q1) = 0 then some ((-1 : Int32), P) else ((f_X10_isRoom P x0 x2).bind fun q2 => (if (b2i q2) = 0 then some ((-1 : Int32), P) else (if x1 = x2 then some ((-1 : Int32), P) else ((f_X10_remembers P x0).bind fun q3 => ((f_X10_swap 46 q3 (q3.2.2 x0 5) ((8 : Int32) + x1) ((8 : Int32) + x2)).bind fun q5 => (if (((8 : Int32) + x1) < 0 ∨ 46 ≤ ((8 : Int32) + x1).toNatClampNeg) then none else some ((q5.1 (q5.2.2 x0 5) ((8 : Int32) + x1).toNatClampNeg), q5)))))))))
theorem w_X10_exchanges {x : Fx} {E : Ev} (S : ZS x E r_X10_exchanges cX10_exchanges 3 RX10 (some .int)) (M : ZM x E) (P : PH) (x0 : Nat) (x1 : Int32) (x2 : Int32) (h_x0 : ok x0 8 0) (r : (Int32 × PH)) (hf : f_X10_exchanges P x0 x1 x2 = some r) : Wz x E 3 (QI E x r.1 r.2) P 0 [(0, .ref (ad E x0)), (1, .int x1), (2, .int x2)] [] := by
  unfold f_X10_exchanges at hf
  refine z_aload_n S 0 dX10_exchanges_0 rfl rfl ?_
  refine z_iload_n S 1 dX10_exchanges_1 rfl rfl ?_
  refine z_callVI (rc := r_X10_isRoom) [.int x1] S mo_X10_isRoom wd858 wd25 wd856 h_x0 (by decide) cl_8 rfl rfl (by decide) (z_room0 S M (by rfl) (by rfl)) rfl (Nat.le_of_ble_eq_true rfl) rfl dX10_exchanges_2 (fun q => b2i q) (fun _ => P) (fun q hq => m_X10_isRoom (xl x) E _ _ _ h_x0 q hq) hf (fun q1 hf => ?_)
  refine z_if_eq (tgt := 21) S dX10_exchanges_5 (by decide) hf (fun hf => ?_) (fun hf => ?_)
  · refine z_iconst (v := (-1 : Int32)) S dX10_exchanges_21 (by decide) ?_
    exact z_iretI (v := (-1 : Int32)) S M rfl dX10_exchanges_22 hf
  · refine z_aload_n S 0 dX10_exchanges_8 rfl rfl ?_
    refine z_iload_n S 2 dX10_exchanges_9 rfl rfl ?_
    refine z_callVI (rc := r_X10_isRoom) [.int x2] S mo_X10_isRoom wd858 wd25 wd856 h_x0 (by decide) cl_8 rfl rfl (by decide) (z_room0 S M (by rfl) (by rfl)) rfl (Nat.le_of_ble_eq_true rfl) rfl dX10_exchanges_10 (fun q => b2i q) (fun _ => P) (fun q hq => m_X10_isRoom (xl x) E _ _ _ h_x0 q hq) hf (fun q2 hf => ?_)
    refine z_if_eq (tgt := 21) S dX10_exchanges_13 (by decide) hf (fun hf => ?_) (fun hf => ?_)
    · refine z_iconst (v := (-1 : Int32)) S dX10_exchanges_21 (by decide) ?_
      exact z_iretI (v := (-1 : Int32)) S M rfl dX10_exchanges_22 hf
    · refine z_iload_n S 1 dX10_exchanges_16 rfl rfl ?_
      refine z_iload_n S 2 dX10_exchanges_17 rfl rfl ?_
      refine z_icmp_ne (tgt := 23) S dX10_exchanges_18 (by decide) hf (fun hf => ?_) (fun hf => ?_)
      · refine z_iconst (v := (-1 : Int32)) S dX10_exchanges_21 (by decide) ?_
        exact z_iretI (v := (-1 : Int32)) S M rfl dX10_exchanges_22 hf
      · refine z_aload_n S 0 dX10_exchanges_23 rfl rfl ?_
        refine z_callVV (rc := r_X10_remembers) [] S mo_X10_remembers wd882 wd28 wd880 h_x0 (by decide) cl_8 rfl rfl (by decide) (z_room0 S M (by rfl) (by rfl)) rfl (Nat.le_of_ble_eq_true rfl) rfl dX10_exchanges_24  (fun q => q) (fun q hq => m_X10_remembers (xl x) E _ _ h_x0 q hq) hf (fun q3 hf => ?_)
        refine z_aload_n S 0 dX10_exchanges_27 rfl rfl ?_
        refine z_getR (K' := 9) (n' := 46) S cf_8 h_x0 5 (by decide) rfl rfl rfl wd672 dX10_exchanges_28 (fun h4 => ?_)
        refine z_bipush (v := 8) S dX10_exchanges_31 (by decide) ?_
        refine z_iload_n S 1 dX10_exchanges_33 rfl rfl ?_
        refine z_iadd S dX10_exchanges_34 ?_
        refine z_bipush (v := 8) S dX10_exchanges_35 (by decide) ?_
        refine z_iload_n S 2 dX10_exchanges_37 rfl rfl ?_
        refine z_iadd S dX10_exchanges_38 ?_
        refine z_callSV (rc := r_X10_swap) [.ref (ad E (q3.2.2 x0 5)), .int ((8 : Int32) + x1), .int ((8 : Int32) + x2)] S mo_X10_swap wd900 wd899 rfl rfl (by decide) (z_room0 S M (by rfl) (by rfl)) rfl (Nat.le_of_ble_eq_true rfl) rfl dX10_exchanges_39  (fun q => q) (fun q hq => m_X10_swap (xl x) E _ _ _ _ _ h4 q hq) hf (fun q5 hf => ?_)
        refine z_aload_n S 0 dX10_exchanges_42 rfl rfl ?_
        refine z_getR (K' := 9) (n' := 46) S cf_8 h_x0 5 (by decide) rfl rfl rfl wd672 dX10_exchanges_43 (fun h6 => ?_)
        refine z_bipush (v := 8) S dX10_exchanges_46 (by decide) ?_
        refine z_iload_n S 1 dX10_exchanges_48 rfl rfl ?_
        refine z_iadd S dX10_exchanges_49 ?_
        refine z_iald S h6 dX10_exchanges_50 hf (fun hf => ?_)
        exact z_iretI (v := (q5.1 (q5.2.2 x0 5) ((8 : Int32) + x1).toNatClampNeg)) S M rfl dX10_exchanges_51 hf
theorem m_X10_exchanges (l : Launch) (E : Ev) (P : PH) (x0 : Nat) (x1 : Int32) (x2 : Int32) (h_x0 : ok x0 8 0) (r : (Int32 × PH)) (hf : f_X10_exchanges P x0 x1 x2 = some r) : CtI l E yX10_exchanges cX10_exchanges 3 (some .int) r_X10_exchanges [.ref (ad E x0), .int x1, .int x2] P r.1 r.2 :=
  z_body (own := RX10) (by decide +kernel) rfl (Nat.le_of_ble_eq_true rfl) rfl (fun x _ S M => w_X10_exchanges S M P x0 x1 x2 h_x0 r hf)
-- yX10_wills
theorem dX10_wills_0 : decode cX10_wills 0 = .ok (.aload_n 0, 1) := by decide +kernel
theorem dX10_wills_1 : decode cX10_wills 1 = .ok (.iload_n 1, 1) := by decide +kernel
theorem dX10_wills_2 : decode cX10_wills 2 = .ok (.invokevirtual 134, 3) := by decide +kernel
theorem dX10_wills_5 : decode cX10_wills 5 = .ok (.ifCond .eq 18, 3) := by decide +kernel
theorem dX10_wills_8 : decode cX10_wills 8 = .ok (.iload_n 2, 1) := by decide +kernel
theorem dX10_wills_9 : decode cX10_wills 9 = .ok (.iconst 0, 1) := by decide +kernel
theorem dX10_wills_10 : decode cX10_wills 10 = .ok (.iconst 5, 1) := by decide +kernel
theorem dX10_wills_11 : decode cX10_wills 11 = .ok (.invokestatic 57, 3) := by decide +kernel
theorem dX10_wills_14 : decode cX10_wills 14 = .ok (.ifCond .ne 11, 3) := by decide +kernel
theorem dX10_wills_17 : decode cX10_wills 17 = .ok (.iload_n 2, 1) := by decide +kernel
theorem dX10_wills_18 : decode cX10_wills 18 = .ok (.bipush 9, 2) := by decide +kernel
theorem dX10_wills_20 : decode cX10_wills 20 = .ok (.if_icmp .eq 5, 3) := by decide +kernel
theorem dX10_wills_23 : decode cX10_wills 23 = .ok (.iconst (-1), 1) := by decide +kernel
theorem dX10_wills_24 : decode cX10_wills 24 = .ok (.ireturn, 1) := by decide +kernel
theorem dX10_wills_25 : decode cX10_wills 25 = .ok (.aload_n 0, 1) := by decide +kernel
theorem dX10_wills_26 : decode cX10_wills 26 = .ok (.invokevirtual 179, 3) := by decide +kernel
theorem dX10_wills_29 : decode cX10_wills 29 = .ok (.aload_n 0, 1) := by decide +kernel
theorem dX10_wills_30 : decode cX10_wills 30 = .ok (.getfield 19, 3) := by decide +kernel
theorem dX10_wills_33 : decode cX10_wills 33 = .ok (.iconst 2, 1) := by decide +kernel
theorem dX10_wills_34 : decode cX10_wills 34 = .ok (.iload_n 1, 1) := by decide +kernel
theorem dX10_wills_35 : decode cX10_wills 35 = .ok (.iadd, 1) := by decide +kernel
theorem dX10_wills_36 : decode cX10_wills 36 = .ok (.iaload, 1) := by decide +kernel
theorem dX10_wills_37 : decode cX10_wills 37 = .ok (.istore_n 3, 1) := by decide +kernel
theorem dX10_wills_38 : decode cX10_wills 38 = .ok (.aload_n 0, 1) := by decide +kernel
theorem dX10_wills_39 : decode cX10_wills 39 = .ok (.getfield 19, 3) := by decide +kernel
theorem dX10_wills_42 : decode cX10_wills 42 = .ok (.iconst 2, 1) := by decide +kernel
theorem dX10_wills_43 : decode cX10_wills 43 = .ok (.iload_n 1, 1) := by decide +kernel
theorem dX10_wills_44 : decode cX10_wills 44 = .ok (.iadd, 1) := by decide +kernel
theorem dX10_wills_45 : decode cX10_wills 45 = .ok (.iload_n 2, 1) := by decide +kernel
theorem dX10_wills_46 : decode cX10_wills 46 = .ok (.iastore, 1) := by decide +kernel
theorem dX10_wills_47 : decode cX10_wills 47 = .ok (.iload_n 3, 1) := by decide +kernel
theorem dX10_wills_48 : decode cX10_wills 48 = .ok (.ireturn, 1) := by decide +kernel
def r_X10_wills : Room := { frames := 2, cells := 0, slots := 0, locals := 45 }
def f_X10_wills_J25 (P : PH) (x0 : Nat) (x1 : Int32) (x2 : Int32) : Option (Int32 × PH) :=
  ((f_X10_remembers P x0).bind fun q1 => (if (((2 : Int32) + x1) < 0 ∨ 46 ≤ ((2 : Int32) + x1).toNatClampNeg) then none else (if (((2 : Int32) + x1) < 0 ∨ 46 ≤ ((2 : Int32) + x1).toNatClampNeg) then none else ((some (sI q1 (q1.2.2 x0 5) ((2 : Int32) + x1).toNatClampNeg x2)).bind fun P4 => some ((q1.1 (q1.2.2 x0 5) ((2 : Int32) + x1).toNatClampNeg), P4)))))
theorem w_X10_wills_J25 {x : Fx} {E : Ev} (S : ZS x E r_X10_wills cX10_wills 4 RX10 (some .int)) (M : ZM x E) (P : PH) (x0 : Nat) (x1 : Int32) (x2 : Int32) (h_x0 : ok x0 8 0) (r : (Int32 × PH)) (hf : f_X10_wills_J25 P x0 x1 x2 = some r) : Wz x E 4 (QI E x r.1 r.2) P 25 [(0, .ref (ad E x0)), (1, .int x1), (2, .int x2)] [] := by
  unfold f_X10_wills_J25 at hf
  refine z_aload_n S 0 dX10_wills_25 rfl rfl ?_
  refine z_callVV (rc := r_X10_remembers) [] S mo_X10_remembers wd882 wd28 wd880 h_x0 (by decide) cl_8 rfl rfl (by decide) (z_room0 S M (by rfl) (by rfl)) rfl (Nat.le_of_ble_eq_true rfl) rfl dX10_wills_26  (fun q => q) (fun q hq => m_X10_remembers (xl x) E _ _ h_x0 q hq) hf (fun q1 hf => ?_)
  refine z_aload_n S 0 dX10_wills_29 rfl rfl ?_
  refine z_getR (K' := 9) (n' := 46) S cf_8 h_x0 5 (by decide) rfl rfl rfl wd672 dX10_wills_30 (fun h2 => ?_)
  refine z_iconst (v := 2) S dX10_wills_33 (by decide) ?_
  refine z_iload_n S 1 dX10_wills_34 rfl rfl ?_
  refine z_iadd S dX10_wills_35 ?_
  refine z_iald S h2 dX10_wills_36 hf (fun hf => ?_)
  refine z_istore_n (lv' := [(3, .int (q1.1 (q1.2.2 x0 5) ((2 : Int32) + x1).toNatClampNeg)), (0, .ref (ad E x0)), (1, .int x1), (2, .int x2)]) S dX10_wills_37 rfl (by decide) rfl ?_
  refine z_aload_n S 1 dX10_wills_38 rfl rfl ?_
  refine z_getR (K' := 9) (n' := 46) S cf_8 h_x0 5 (by decide) rfl rfl rfl wd672 dX10_wills_39 (fun h3 => ?_)
  refine z_iconst (v := 2) S dX10_wills_42 (by decide) ?_
  refine z_iload_n S 2 dX10_wills_43 rfl rfl ?_
  refine z_iadd S dX10_wills_44 ?_
  refine z_iload_n S 3 dX10_wills_45 rfl rfl ?_
  refine z_iast S h3 dX10_wills_46 hf (fun hf => ?_)
  refine z_nmP hf (fun P4 hf => ?_)
  refine z_iload_n S 0 dX10_wills_47 rfl rfl ?_
  exact z_iretI (v := (q1.1 (q1.2.2 x0 5) ((2 : Int32) + x1).toNatClampNeg)) S M rfl dX10_wills_48 hf
def f_X10_wills (P : PH) (x0 : Nat) (x1 : Int32) (x2 : Int32) : Option (Int32 × PH) :=
  ((f_X10_isPerson P x0 x1).bind fun q5 => (if (b2i q5) = 0 then some ((-1 : Int32), P) else ((f_X10_in P x2 (0 : Int32) (5 : Int32)).bind fun q6 => (if (b2i q6) = 0 then (if x2 = (9 : Int32) then f_X10_wills_J25 P x0 x1 x2 else some ((-1 : Int32), P)) else f_X10_wills_J25 P x0 x1 x2))))
theorem w_X10_wills {x : Fx} {E : Ev} (S : ZS x E r_X10_wills cX10_wills 4 RX10 (some .int)) (M : ZM x E) (P : PH) (x0 : Nat) (x1 : Int32) (x2 : Int32) (h_x0 : ok x0 8 0) (r : (Int32 × PH)) (hf : f_X10_wills P x0 x1 x2 = some r) : Wz x E 4 (QI E x r.1 r.2) P 0 [(0, .ref (ad E x0)), (1, .int x1), (2, .int x2)] [] := by
  unfold f_X10_wills at hf
  refine z_aload_n S 0 dX10_wills_0 rfl rfl ?_
  refine z_iload_n S 1 dX10_wills_1 rfl rfl ?_
  refine z_callVI (rc := r_X10_isPerson) [.int x1] S mo_X10_isPerson wd815 wd16 wd813 h_x0 (by decide) cl_8 rfl rfl (by decide) (z_room0 S M (by rfl) (by rfl)) rfl (Nat.le_of_ble_eq_true rfl) rfl dX10_wills_2 (fun q => b2i q) (fun _ => P) (fun q hq => m_X10_isPerson (xl x) E _ _ _ h_x0 q hq) hf (fun q5 hf => ?_)
  refine z_if_eq (tgt := 23) S dX10_wills_5 (by decide) hf (fun hf => ?_) (fun hf => ?_)
  · refine z_iconst (v := (-1 : Int32)) S dX10_wills_23 (by decide) ?_
    exact z_iretI (v := (-1 : Int32)) S M rfl dX10_wills_24 hf
  · refine z_iload_n S 2 dX10_wills_8 rfl rfl ?_
    refine z_iconst (v := 0) S dX10_wills_9 (by decide) ?_
    refine z_iconst (v := 5) S dX10_wills_10 (by decide) ?_
    refine z_callSI (rc := r_X10_in) [.int x2, .int (0 : Int32), .int (5 : Int32)] S mo_X10_in wd758 wd757 rfl rfl (by decide) (z_room0 S M (by rfl) (by rfl)) rfl (Nat.le_of_ble_eq_true rfl) rfl dX10_wills_11 (fun q => b2i q) (fun _ => P) (fun q hq => m_X10_in (xl x) E _ _ _ _  q hq) hf (fun q6 hf => ?_)
    refine z_if_ne (tgt := 25) S dX10_wills_14 (by decide) hf (fun hf => ?_) (fun hf => ?_)
    · refine z_iload_n S 2 dX10_wills_17 rfl rfl ?_
      refine z_bipush (v := 9) S dX10_wills_18 (by decide) ?_
      refine z_icmp_eq (tgt := 25) S dX10_wills_20 (by decide) hf (fun hf => ?_) (fun hf => ?_)
      · exact w_X10_wills_J25 S M P x0 x1 x2 h_x0 r hf
      · refine z_iconst (v := (-1 : Int32)) S dX10_wills_23 (by decide) ?_
        exact z_iretI (v := (-1 : Int32)) S M rfl dX10_wills_24 hf
    · exact w_X10_wills_J25 S M P x0 x1 x2 h_x0 r hf
theorem m_X10_wills (l : Launch) (E : Ev) (P : PH) (x0 : Nat) (x1 : Int32) (x2 : Int32) (h_x0 : ok x0 8 0) (r : (Int32 × PH)) (hf : f_X10_wills P x0 x1 x2 = some r) : CtI l E yX10_wills cX10_wills 4 (some .int) r_X10_wills [.ref (ad E x0), .int x1, .int x2] P r.1 r.2 :=
  z_body (own := RX10) (by decide +kernel) rfl (Nat.le_of_ble_eq_true rfl) rfl (fun x _ S M => w_X10_wills S M P x0 x1 x2 h_x0 r hf)
-- yX10_undo
theorem dX10_undo_0 : decode cX10_undo 0 = .ok (.aload_n 0, 1) := by decide +kernel
theorem dX10_undo_1 : decode cX10_undo 1 = .ok (.getfield 128, 3) := by decide +kernel
theorem dX10_undo_4 : decode cX10_undo 4 = .ok (.ifCond .ne 6, 3) := by decide +kernel
theorem dX10_undo_7 : decode cX10_undo 7 = .ok (.bipush (-2), 2) := by decide +kernel
theorem dX10_undo_9 : decode cX10_undo 9 = .ok (.ireturn, 1) := by decide +kernel
theorem dX10_undo_10 : decode cX10_undo 10 = .ok (.aload_n 0, 1) := by decide +kernel
theorem dX10_undo_11 : decode cX10_undo 11 = .ok (.dup, 1) := by decide +kernel
theorem dX10_undo_12 : decode cX10_undo 12 = .ok (.getfield 128, 3) := by decide +kernel
theorem dX10_undo_15 : decode cX10_undo 15 = .ok (.iconst 1, 1) := by decide +kernel
theorem dX10_undo_16 : decode cX10_undo 16 = .ok (.isub, 1) := by decide +kernel
theorem dX10_undo_17 : decode cX10_undo 17 = .ok (.putfield 128, 3) := by decide +kernel
theorem dX10_undo_20 : decode cX10_undo 20 = .ok (.aload_n 0, 1) := by decide +kernel
theorem dX10_undo_21 : decode cX10_undo 21 = .ok (.getfield 19, 3) := by decide +kernel
theorem dX10_undo_24 : decode cX10_undo 24 = .ok (.iconst 0, 1) := by decide +kernel
theorem dX10_undo_25 : decode cX10_undo 25 = .ok (.aload_n 0, 1) := by decide +kernel
theorem dX10_undo_26 : decode cX10_undo 26 = .ok (.getfield 22, 3) := by decide +kernel
theorem dX10_undo_29 : decode cX10_undo 29 = .ok (.bipush 46, 2) := by decide +kernel
theorem dX10_undo_31 : decode cX10_undo 31 = .ok (.aload_n 0, 1) := by decide +kernel
theorem dX10_undo_32 : decode cX10_undo 32 = .ok (.getfield 128, 3) := by decide +kernel
theorem dX10_undo_35 : decode cX10_undo 35 = .ok (.imul, 1) := by decide +kernel
theorem dX10_undo_36 : decode cX10_undo 36 = .ok (.invokestatic 124, 3) := by decide +kernel
theorem dX10_undo_39 : decode cX10_undo 39 = .ok (.aload_n 0, 1) := by decide +kernel
theorem dX10_undo_40 : decode cX10_undo 40 = .ok (.getfield 128, 3) := by decide +kernel
theorem dX10_undo_43 : decode cX10_undo 43 = .ok (.ireturn, 1) := by decide +kernel
def r_X10_undo : Room := { frames := 1, cells := 0, slots := 0, locals := 24 }
def f_X10_undo (P : PH) (x0 : Nat) : Option (Int32 × PH) :=
  (if (P.1 x0 7) = 0 then some ((-2 : Int32), P) else ((f_X10_copy 46 460 (sI P x0 7 ((P.1 x0 7) - (1 : Int32))) ((sI P x0 7 ((P.1 x0 7) - (1 : Int32))).2.2 x0 5) (0 : Int32) ((sI P x0 7 ((P.1 x0 7) - (1 : Int32))).2.2 x0 6) ((46 : Int32) * ((sI P x0 7 ((P.1 x0 7) - (1 : Int32))).1 x0 7))).bind fun q3 => some ((q3.1 x0 7), q3)))
theorem w_X10_undo {x : Fx} {E : Ev} (S : ZS x E r_X10_undo cX10_undo 1 RX10 (some .int)) (M : ZM x E) (P : PH) (x0 : Nat) (h_x0 : ok x0 8 0) (r : (Int32 × PH)) (hf : f_X10_undo P x0 = some r) : Wz x E 1 (QI E x r.1 r.2) P 0 [(0, .ref (ad E x0))] [] := by
  unfold f_X10_undo at hf
  refine z_aload_n S 0 dX10_undo_0 rfl rfl ?_
  refine z_getI S cf_8 h_x0 7 (by decide) rfl wd674 dX10_undo_1 ?_
  refine z_if_ne (tgt := 10) S dX10_undo_4 (by decide) hf (fun hf => ?_) (fun hf => ?_)
  · refine z_bipush (v := (-2 : Int32)) S dX10_undo_7 (by decide) ?_
    exact z_iretI (v := (-2 : Int32)) S M rfl dX10_undo_9 hf
  · refine z_aload_n S 0 dX10_undo_10 rfl rfl ?_
    refine z_dup S dX10_undo_11 rfl ?_
    refine z_getI S cf_8 h_x0 7 (by decide) rfl wd674 dX10_undo_12 ?_
    refine z_iconst (v := 1) S dX10_undo_15 (by decide) ?_
    refine z_isub S dX10_undo_16 ?_
    refine z_putI S cf_8 h_x0 7 (by decide) rfl rfl rfl rfl wd674 dX10_undo_17 ?_
    refine z_aload_n S 0 dX10_undo_20 rfl rfl ?_
    refine z_getR (K' := 9) (n' := 46) S cf_8 h_x0 5 (by decide) rfl rfl rfl wd672 dX10_undo_21 (fun h1 => ?_)
    refine z_iconst (v := 0) S dX10_undo_24 (by decide) ?_
    refine z_aload_n S 0 dX10_undo_25 rfl rfl ?_
    refine z_getR (K' := 9) (n' := 460) S cf_8 h_x0 6 (by decide) rfl rfl rfl wd673 dX10_undo_26 (fun h2 => ?_)
    refine z_bipush (v := 46) S dX10_undo_29 (by decide) ?_
    refine z_aload_n S 0 dX10_undo_31 rfl rfl ?_
    refine z_getI S cf_8 h_x0 7 (by decide) rfl wd674 dX10_undo_32 ?_
    refine z_imul S dX10_undo_35 ?_
    refine z_callSV (rc := r_X10_copy) [.ref (ad E ((sI P x0 7 ((P.1 x0 7) - (1 : Int32))).2.2 x0 5)), .int (0 : Int32), .ref (ad E ((sI P x0 7 ((P.1 x0 7) - (1 : Int32))).2.2 x0 6)), .int ((46 : Int32) * ((sI P x0 7 ((P.1 x0 7) - (1 : Int32))).1 x0 7))] S mo_X10_copy wd807 wd806 rfl rfl (by decide) (z_room0 S M (by rfl) (by rfl)) rfl (Nat.le_of_ble_eq_true rfl) rfl dX10_undo_36  (fun q => q) (fun q hq => m_X10_copy (xl x) E _ _ _ _ _ _ _ h1 h2 q hq) hf (fun q3 hf => ?_)
    refine z_aload_n S 0 dX10_undo_39 rfl rfl ?_
    refine z_getI S cf_8 h_x0 7 (by decide) rfl wd674 dX10_undo_40 ?_
    exact z_iretI (v := (q3.1 x0 7)) S M rfl dX10_undo_43 hf
theorem m_X10_undo (l : Launch) (E : Ev) (P : PH) (x0 : Nat) (h_x0 : ok x0 8 0) (r : (Int32 × PH)) (hf : f_X10_undo P x0 = some r) : CtI l E yX10_undo cX10_undo 1 (some .int) r_X10_undo [.ref (ad E x0)] P r.1 r.2 :=
  z_body (own := RX10) (by decide +kernel) rfl (Nat.le_of_ble_eq_true rfl) rfl (fun x _ S M => w_X10_undo S M P x0 h_x0 r hf)
-- yX10_fromWhen
theorem dX10_fromWhen_0 : decode cX10_fromWhen 0 = .ok (.aload_n 0, 1) := by decide +kernel
theorem dX10_fromWhen_1 : decode cX10_fromWhen 1 = .ok (.iload_n 1, 1) := by decide +kernel
theorem dX10_fromWhen_2 : decode cX10_fromWhen 2 = .ok (.invokevirtual 134, 3) := by decide +kernel
theorem dX10_fromWhen_5 : decode cX10_fromWhen 5 = .ok (.ifCond .ne 5, 3) := by decide +kernel
theorem dX10_fromWhen_8 : decode cX10_fromWhen 8 = .ok (.iconst (-1), 1) := by decide +kernel
theorem dX10_fromWhen_9 : decode cX10_fromWhen 9 = .ok (.ireturn, 1) := by decide +kernel
theorem dX10_fromWhen_10 : decode cX10_fromWhen 10 = .ok (.aload_n 0, 1) := by decide +kernel
theorem dX10_fromWhen_11 : decode cX10_fromWhen 11 = .ok (.invokevirtual 166, 3) := by decide +kernel
theorem dX10_fromWhen_14 : decode cX10_fromWhen 14 = .ok (.aload_n 0, 1) := by decide +kernel
theorem dX10_fromWhen_15 : decode cX10_fromWhen 15 = .ok (.getfield 50, 3) := by decide +kernel
theorem dX10_fromWhen_18 : decode cX10_fromWhen 18 = .ok (.iconst 0, 1) := by decide +kernel
theorem dX10_fromWhen_19 : decode cX10_fromWhen 19 = .ok (.iaload, 1) := by decide +kernel
theorem dX10_fromWhen_20 : decode cX10_fromWhen 20 = .ok (.bipush 99, 2) := by decide +kernel
theorem dX10_fromWhen_22 : decode cX10_fromWhen 22 = .ok (.if_icmp .gt 31, 3) := by decide +kernel
theorem dX10_fromWhen_25 : decode cX10_fromWhen 25 = .ok (.aload_n 0, 1) := by decide +kernel
theorem dX10_fromWhen_26 : decode cX10_fromWhen 26 = .ok (.iload_n 1, 1) := by decide +kernel
theorem dX10_fromWhen_27 : decode cX10_fromWhen 27 = .ok (.invokevirtual 163, 3) := by decide +kernel
theorem dX10_fromWhen_30 : decode cX10_fromWhen 30 = .ok (.ifCond .eq 10, 3) := by decide +kernel
theorem dX10_fromWhen_33 : decode cX10_fromWhen 33 = .ok (.aload_n 0, 1) := by decide +kernel
theorem dX10_fromWhen_34 : decode cX10_fromWhen 34 = .ok (.getfield 50, 3) := by decide +kernel
theorem dX10_fromWhen_37 : decode cX10_fromWhen 37 = .ok (.iconst 0, 1) := by decide +kernel
theorem dX10_fromWhen_38 : decode cX10_fromWhen 38 = .ok (.iaload, 1) := by decide +kernel
theorem dX10_fromWhen_39 : decode cX10_fromWhen 39 = .ok (.ireturn, 1) := by decide +kernel
theorem dX10_fromWhen_40 : decode cX10_fromWhen 40 = .ok (.aload_n 0, 1) := by decide +kernel
theorem dX10_fromWhen_41 : decode cX10_fromWhen 41 = .ok (.getfield 50, 3) := by decide +kernel
theorem dX10_fromWhen_44 : decode cX10_fromWhen 44 = .ok (.iconst 0, 1) := by decide +kernel
theorem dX10_fromWhen_45 : decode cX10_fromWhen 45 = .ok (.dup2, 1) := by decide +kernel
theorem dX10_fromWhen_46 : decode cX10_fromWhen 46 = .ok (.iaload, 1) := by decide +kernel
theorem dX10_fromWhen_47 : decode cX10_fromWhen 47 = .ok (.iconst 1, 1) := by decide +kernel
theorem dX10_fromWhen_48 : decode cX10_fromWhen 48 = .ok (.iadd, 1) := by decide +kernel
theorem dX10_fromWhen_49 : decode cX10_fromWhen 49 = .ok (.iastore, 1) := by decide +kernel
theorem dX10_fromWhen_50 : decode cX10_fromWhen 50 = .ok (.goto (-36), 3) := by decide +kernel
theorem dX10_fromWhen_53 : decode cX10_fromWhen 53 = .ok (.bipush (-9), 2) := by decide +kernel
theorem dX10_fromWhen_55 : decode cX10_fromWhen 55 = .ok (.ireturn, 1) := by decide +kernel
def r_X10_fromWhen : Room := { frames := 7, cells := 0, slots := 0, locals := 155 }
def f_X10_fromWhen_L14 (K0 : PH → Option (Int32 × PH)) (K1 : PH → Option (Int32 × PH)) (x0 : Nat) (x1 : Int32) : Nat → PH → Option (Int32 × PH)
  | 0, _ => none
  | n + 1, P =>
    (if ((0 : Int32) < 0 ∨ 46 ≤ (0 : Int32).toNatClampNeg) then none else (if (99 : Int32) < (P.1 (P.2.2 x0 26) (0 : Int32).toNatClampNeg) then K1 P else ((f_X10_isCutOff P x0 x1).bind fun q2 => (if (b2i q2.1) = 0 then (if ((0 : Int32) < 0 ∨ 46 ≤ (0 : Int32).toNatClampNeg) then none else (if ((0 : Int32) < 0 ∨ 46 ≤ (0 : Int32).toNatClampNeg) then none else ((some (sI q2.2 (q2.2.2.2 x0 26) (0 : Int32).toNatClampNeg ((q2.2.1 (q2.2.2.2 x0 26) (0 : Int32).toNatClampNeg) + (1 : Int32)))).bind fun P4 => f_X10_fromWhen_L14 K0 K1 x0 x1 n P4))) else K0 q2.2))))
theorem w_X10_fromWhen_L14 {x : Fx} {E : Ev} (S : ZS x E r_X10_fromWhen cX10_fromWhen 2 RX10 (some .int)) (M : ZM x E) {K0 : PH → Option (Int32 × PH)} {K1 : PH → Option (Int32 × PH)} (x0 : Nat) (x1 : Int32) (h_x0 : ok x0 8 0) (r : (Int32 × PH)) (hK0 : ∀ (P1 : PH) , K0 P1 = some r → Wz x E 2 (QI E x r.1 r.2) P1 33 [(0, .ref (ad E x0))] []) (hK1 : ∀ (P1 : PH) , K1 P1 = some r → Wz x E 2 (QI E x r.1 r.2) P1 53 [] []) : ∀ (n : Nat) (P : PH), f_X10_fromWhen_L14 K0 K1 x0 x1 n P = some r → Wz x E 2 (QI E x r.1 r.2) P 14 [(0, .ref (ad E x0)), (1, .int x1)] [] := by
  intro n
  induction n with
  | zero => intro P hf; cases hf
  | succ n ih =>
    intro P hf
    unfold f_X10_fromWhen_L14 at hf
    refine z_aload_n S 0 dX10_fromWhen_14 rfl rfl ?_
    refine z_getR (K' := 9) (n' := 46) S cf_8 h_x0 26 (by decide) rfl rfl rfl wd693 dX10_fromWhen_15 (fun h1 => ?_)
    refine z_iconst (v := 0) S dX10_fromWhen_18 (by decide) ?_
    refine z_iald S h1 dX10_fromWhen_19 hf (fun hf => ?_)
    refine z_bipush (v := 99) S dX10_fromWhen_20 (by decide) ?_
    refine z_icmp_gt (tgt := 53) S dX10_fromWhen_22 (by decide) hf (fun hf => ?_) (fun hf => ?_)
    · refine z_sub [] rfl ?_
      exact hK1 P hf
    · refine z_aload_n S 0 dX10_fromWhen_25 rfl rfl ?_
      refine z_iload_n S 1 dX10_fromWhen_26 rfl rfl ?_
      refine z_callVI (rc := r_X10_isCutOff) [.int x1] S mo_X10_isCutOff wd846 wd23 wd844 h_x0 (by decide) cl_8 rfl rfl (by decide) (z_room0 S M (by rfl) (by rfl)) rfl (Nat.le_of_ble_eq_true rfl) rfl dX10_fromWhen_27 (fun q => b2i q.1) (fun q => q.2) (fun q hq => m_X10_isCutOff (xl x) E _ _ _ h_x0 q hq) hf (fun q2 hf => ?_)
      refine z_if_eq (tgt := 40) S dX10_fromWhen_30 (by decide) hf (fun hf => ?_) (fun hf => ?_)
      · refine z_aload_n S 0 dX10_fromWhen_40 rfl rfl ?_
        refine z_getR (K' := 9) (n' := 46) S cf_8 h_x0 26 (by decide) rfl rfl rfl wd693 dX10_fromWhen_41 (fun h3 => ?_)
        refine z_iconst (v := 0) S dX10_fromWhen_44 (by decide) ?_
        refine z_dup2 S dX10_fromWhen_45 rfl rfl ?_
        refine z_iald S h3 dX10_fromWhen_46 hf (fun hf => ?_)
        refine z_iconst (v := 1) S dX10_fromWhen_47 (by decide) ?_
        refine z_iadd S dX10_fromWhen_48 ?_
        refine z_iast S h3 dX10_fromWhen_49 hf (fun hf => ?_)
        refine z_nmP hf (fun P4 hf => ?_)
        refine z_goto (tgt := 14) S dX10_fromWhen_50 (by decide) ?_
        exact ih P4 hf
      · refine z_sub [0] rfl ?_
        exact hK0 q2.2 hf
def f_X10_fromWhen (P : PH) (x0 : Nat) (x1 : Int32) : Option (Int32 × PH) :=
  ((f_X10_isPerson P x0 x1).bind fun q5 => (if (b2i q5) = 0 then some ((-1 : Int32), P) else ((f_X10_asItIs P x0).bind fun q6 => f_X10_fromWhen_L14 (fun P7 => (if ((0 : Int32) < 0 ∨ 46 ≤ (0 : Int32).toNatClampNeg) then none else some ((P7.1 (P7.2.2 x0 26) (0 : Int32).toNatClampNeg), P7))) (fun P9 => some ((-9 : Int32), P9)) x0 x1 1000 q6)))
theorem w_X10_fromWhen {x : Fx} {E : Ev} (S : ZS x E r_X10_fromWhen cX10_fromWhen 2 RX10 (some .int)) (M : ZM x E) (P : PH) (x0 : Nat) (x1 : Int32) (h_x0 : ok x0 8 0) (r : (Int32 × PH)) (hf : f_X10_fromWhen P x0 x1 = some r) : Wz x E 2 (QI E x r.1 r.2) P 0 [(0, .ref (ad E x0)), (1, .int x1)] [] := by
  unfold f_X10_fromWhen at hf
  refine z_aload_n S 0 dX10_fromWhen_0 rfl rfl ?_
  refine z_iload_n S 1 dX10_fromWhen_1 rfl rfl ?_
  refine z_callVI (rc := r_X10_isPerson) [.int x1] S mo_X10_isPerson wd815 wd16 wd813 h_x0 (by decide) cl_8 rfl rfl (by decide) (z_room0 S M (by rfl) (by rfl)) rfl (Nat.le_of_ble_eq_true rfl) rfl dX10_fromWhen_2 (fun q => b2i q) (fun _ => P) (fun q hq => m_X10_isPerson (xl x) E _ _ _ h_x0 q hq) hf (fun q5 hf => ?_)
  refine z_if_ne (tgt := 10) S dX10_fromWhen_5 (by decide) hf (fun hf => ?_) (fun hf => ?_)
  · refine z_iconst (v := (-1 : Int32)) S dX10_fromWhen_8 (by decide) ?_
    exact z_iretI (v := (-1 : Int32)) S M rfl dX10_fromWhen_9 hf
  · refine z_aload_n S 0 dX10_fromWhen_10 rfl rfl ?_
    refine z_callVV (rc := r_X10_asItIs) [] S mo_X10_asItIs wd819 wd17 wd817 h_x0 (by decide) cl_8 rfl rfl (by decide) (z_room0 S M (by rfl) (by rfl)) rfl (Nat.le_of_ble_eq_true rfl) rfl dX10_fromWhen_11  (fun q => q) (fun q hq => m_X10_asItIs (xl x) E _ _ h_x0 q hq) hf (fun q6 hf => ?_)
    refine w_X10_fromWhen_L14 S M x0 x1 h_x0 r (fun P7 hf => ?_) (fun P9 hf => ?_) 1000 q6 hf
    · refine z_aload_n S 0 dX10_fromWhen_33 rfl rfl ?_
      refine z_getR (K' := 9) (n' := 46) S cf_8 h_x0 26 (by decide) rfl rfl rfl wd693 dX10_fromWhen_34 (fun h8 => ?_)
      refine z_iconst (v := 0) S dX10_fromWhen_37 (by decide) ?_
      refine z_iald S h8 dX10_fromWhen_38 hf (fun hf => ?_)
      exact z_iretI (v := (P7.1 (P7.2.2 x0 26) (0 : Int32).toNatClampNeg)) S M rfl dX10_fromWhen_39 hf
    · refine z_bipush (v := (-9 : Int32)) S dX10_fromWhen_53 (by decide) ?_
      exact z_iretI (v := (-9 : Int32)) S M rfl dX10_fromWhen_55 hf
theorem m_X10_fromWhen (l : Launch) (E : Ev) (P : PH) (x0 : Nat) (x1 : Int32) (h_x0 : ok x0 8 0) (r : (Int32 × PH)) (hf : f_X10_fromWhen P x0 x1 = some r) : CtI l E yX10_fromWhen cX10_fromWhen 2 (some .int) r_X10_fromWhen [.ref (ad E x0), .int x1] P r.1 r.2 :=
  z_body (own := RX10) (by decide +kernel) rfl (Nat.le_of_ble_eq_true rfl) rfl (fun x _ S M => w_X10_fromWhen S M P x0 x1 h_x0 r hf)
-- yX10_refused
theorem dX10_refused_0 : decode cX10_refused 0 = .ok (.aload_n 0, 1) := by decide +kernel
theorem dX10_refused_1 : decode cX10_refused 1 = .ok (.iload_n 1, 1) := by decide +kernel
theorem dX10_refused_2 : decode cX10_refused 2 = .ok (.invokevirtual 134, 3) := by decide +kernel
theorem dX10_refused_5 : decode cX10_refused 5 = .ok (.ifCond .eq 7, 3) := by decide +kernel
theorem dX10_refused_8 : decode cX10_refused 8 = .ok (.iload_n 2, 1) := by decide +kernel
theorem dX10_refused_9 : decode cX10_refused 9 = .ok (.ifCond .ne 7, 3) := by decide +kernel
theorem dX10_refused_12 : decode cX10_refused 12 = .ok (.iconst (-1), 1) := by decide +kernel
theorem dX10_refused_13 : decode cX10_refused 13 = .ok (.goto 22, 3) := by decide +kernel
theorem dX10_refused_16 : decode cX10_refused 16 = .ok (.aload_n 0, 1) := by decide +kernel
theorem dX10_refused_17 : decode cX10_refused 17 = .ok (.getfield 19, 3) := by decide +kernel
theorem dX10_refused_20 : decode cX10_refused 20 = .ok (.iconst 1, 1) := by decide +kernel
theorem dX10_refused_21 : decode cX10_refused 21 = .ok (.iaload, 1) := by decide +kernel
theorem dX10_refused_22 : decode cX10_refused 22 = .ok (.iload_n 1, 1) := by decide +kernel
theorem dX10_refused_23 : decode cX10_refused 23 = .ok (.invokestatic 137, 3) := by decide +kernel
theorem dX10_refused_26 : decode cX10_refused 26 = .ok (.ifCond .eq 7, 3) := by decide +kernel
theorem dX10_refused_29 : decode cX10_refused 29 = .ok (.iconst 0, 1) := by decide +kernel
theorem dX10_refused_30 : decode cX10_refused 30 = .ok (.goto 5, 3) := by decide +kernel
theorem dX10_refused_33 : decode cX10_refused 33 = .ok (.bipush (-2), 2) := by decide +kernel
theorem dX10_refused_35 : decode cX10_refused 35 = .ok (.ireturn, 1) := by decide +kernel
def r_X10_refused : Room := { frames := 2, cells := 0, slots := 0, locals := 43 }
def f_X10_refused (P : PH) (x0 : Nat) (x1 : Int32) (x2 : Int32) : Option Int32 :=
  ((f_X10_isPerson P x0 x1).bind fun q1 => (if (b2i q1) = 0 then some (-1 : Int32) else (if x2 = 0 then some (-1 : Int32) else (if ((1 : Int32) < 0 ∨ 46 ≤ (1 : Int32).toNatClampNeg) then none else ((f_X10_has P (P.1 (P.2.2 x0 5) (1 : Int32).toNatClampNeg) x1).bind fun q3 => (if (b2i q3) = 0 then some (-2 : Int32) else some (0 : Int32)))))))
theorem w_X10_refused {x : Fx} {E : Ev} (S : ZS x E r_X10_refused cX10_refused 3 RX10 (some .int)) (M : ZM x E) (P : PH) (x0 : Nat) (x1 : Int32) (x2 : Int32) (h_x0 : ok x0 8 0) (r : Int32) (hf : f_X10_refused P x0 x1 x2 = some r) : Wz x E 3 (QI E x r P) P 0 [(0, .ref (ad E x0)), (1, .int x1), (2, .int x2)] [] := by
  unfold f_X10_refused at hf
  refine z_aload_n S 0 dX10_refused_0 rfl rfl ?_
  refine z_iload_n S 1 dX10_refused_1 rfl rfl ?_
  refine z_callVI (rc := r_X10_isPerson) [.int x1] S mo_X10_isPerson wd815 wd16 wd813 h_x0 (by decide) cl_8 rfl rfl (by decide) (z_room0 S M (by rfl) (by rfl)) rfl (Nat.le_of_ble_eq_true rfl) rfl dX10_refused_2 (fun q => b2i q) (fun _ => P) (fun q hq => m_X10_isPerson (xl x) E _ _ _ h_x0 q hq) hf (fun q1 hf => ?_)
  refine z_if_eq (tgt := 12) S dX10_refused_5 (by decide) hf (fun hf => ?_) (fun hf => ?_)
  · refine z_iconst (v := (-1 : Int32)) S dX10_refused_12 (by decide) ?_
    refine z_goto (tgt := 35) S dX10_refused_13 (by decide) ?_
    exact z_iretP (v := (-1 : Int32)) S M rfl dX10_refused_35 hf
  · refine z_iload_n S 2 dX10_refused_8 rfl rfl ?_
    refine z_if_ne (tgt := 16) S dX10_refused_9 (by decide) hf (fun hf => ?_) (fun hf => ?_)
    · refine z_iconst (v := (-1 : Int32)) S dX10_refused_12 (by decide) ?_
      refine z_goto (tgt := 35) S dX10_refused_13 (by decide) ?_
      exact z_iretP (v := (-1 : Int32)) S M rfl dX10_refused_35 hf
    · refine z_aload_n S 0 dX10_refused_16 rfl rfl ?_
      refine z_getR (K' := 9) (n' := 46) S cf_8 h_x0 5 (by decide) rfl rfl rfl wd672 dX10_refused_17 (fun h2 => ?_)
      refine z_iconst (v := 1) S dX10_refused_20 (by decide) ?_
      refine z_iald S h2 dX10_refused_21 hf (fun hf => ?_)
      refine z_iload_n S 1 dX10_refused_22 rfl rfl ?_
      refine z_callSI (rc := r_X10_has) [.int (P.1 (P.2.2 x0 5) (1 : Int32).toNatClampNeg), .int x1] S mo_X10_has wd834 wd833 rfl rfl (by decide) (z_room0 S M (by rfl) (by rfl)) rfl (Nat.le_of_ble_eq_true rfl) rfl dX10_refused_23 (fun q => b2i q) (fun _ => P) (fun q hq => m_X10_has (xl x) E _ _ _  q hq) hf (fun q3 hf => ?_)
      refine z_if_eq (tgt := 33) S dX10_refused_26 (by decide) hf (fun hf => ?_) (fun hf => ?_)
      · refine z_bipush (v := (-2 : Int32)) S dX10_refused_33 (by decide) ?_
        exact z_iretP (v := (-2 : Int32)) S M rfl dX10_refused_35 hf
      · refine z_iconst (v := 0) S dX10_refused_29 (by decide) ?_
        refine z_goto (tgt := 35) S dX10_refused_30 (by decide) ?_
        exact z_iretP (v := (0 : Int32)) S M rfl dX10_refused_35 hf
theorem m_X10_refused (l : Launch) (E : Ev) (P : PH) (x0 : Nat) (x1 : Int32) (x2 : Int32) (h_x0 : ok x0 8 0) (r : Int32) (hf : f_X10_refused P x0 x1 x2 = some r) : CtI l E yX10_refused cX10_refused 3 (some .int) r_X10_refused [.ref (ad E x0), .int x1, .int x2] P r P :=
  z_body (own := RX10) (by decide +kernel) rfl (Nat.le_of_ble_eq_true rfl) rfl (fun x _ S M => w_X10_refused S M P x0 x1 x2 h_x0 r hf)
-- yX10_needs
theorem dX10_needs_0 : decode cX10_needs 0 = .ok (.aload_n 0, 1) := by decide +kernel
theorem dX10_needs_1 : decode cX10_needs 1 = .ok (.iload_n 1, 1) := by decide +kernel
theorem dX10_needs_2 : decode cX10_needs 2 = .ok (.iconst 1, 1) := by decide +kernel
theorem dX10_needs_3 : decode cX10_needs 3 = .ok (.invokevirtual 189, 3) := by decide +kernel
theorem dX10_needs_6 : decode cX10_needs 6 = .ok (.istore_n 2, 1) := by decide +kernel
theorem dX10_needs_7 : decode cX10_needs 7 = .ok (.iload_n 2, 1) := by decide +kernel
theorem dX10_needs_8 : decode cX10_needs 8 = .ok (.ifCond .ge 5, 3) := by decide +kernel
theorem dX10_needs_11 : decode cX10_needs 11 = .ok (.iload_n 2, 1) := by decide +kernel
theorem dX10_needs_12 : decode cX10_needs 12 = .ok (.ireturn, 1) := by decide +kernel
theorem dX10_needs_13 : decode cX10_needs 13 = .ok (.aload_n 0, 1) := by decide +kernel
theorem dX10_needs_14 : decode cX10_needs 14 = .ok (.invokevirtual 166, 3) := by decide +kernel
theorem dX10_needs_17 : decode cX10_needs 17 = .ok (.aload_n 0, 1) := by decide +kernel
theorem dX10_needs_18 : decode cX10_needs 18 = .ok (.iload_n 1, 1) := by decide +kernel
theorem dX10_needs_19 : decode cX10_needs 19 = .ok (.invokevirtual 157, 3) := by decide +kernel
theorem dX10_needs_22 : decode cX10_needs 22 = .ok (.istore_n 3, 1) := by decide +kernel
theorem dX10_needs_23 : decode cX10_needs 23 = .ok (.bipush (-9), 2) := by decide +kernel
theorem dX10_needs_25 : decode cX10_needs 25 = .ok (.istore 4, 2) := by decide +kernel
theorem dX10_needs_27 : decode cX10_needs 27 = .ok (.iconst 0, 1) := by decide +kernel
theorem dX10_needs_28 : decode cX10_needs 28 = .ok (.istore 5, 2) := by decide +kernel
theorem dX10_needs_30 : decode cX10_needs 30 = .ok (.iload 5, 2) := by decide +kernel
theorem dX10_needs_32 : decode cX10_needs 32 = .ok (.iconst 1, 1) := by decide +kernel
theorem dX10_needs_33 : decode cX10_needs 33 = .ok (.aload_n 0, 1) := by decide +kernel
theorem dX10_needs_34 : decode cX10_needs 34 = .ok (.getfield 61, 3) := by decide +kernel
theorem dX10_needs_37 : decode cX10_needs 37 = .ok (.ishl, 1) := by decide +kernel
theorem dX10_needs_38 : decode cX10_needs 38 = .ok (.if_icmp .ge 60, 3) := by decide +kernel
theorem dX10_needs_41 : decode cX10_needs 41 = .ok (.aload_n 0, 1) := by decide +kernel
theorem dX10_needs_42 : decode cX10_needs 42 = .ok (.iload_n 1, 1) := by decide +kernel
theorem dX10_needs_43 : decode cX10_needs 43 = .ok (.iload_n 3, 1) := by decide +kernel
theorem dX10_needs_44 : decode cX10_needs 44 = .ok (.iload 5, 2) := by decide +kernel
theorem dX10_needs_46 : decode cX10_needs 46 = .ok (.ior, 1) := by decide +kernel
theorem dX10_needs_47 : decode cX10_needs 47 = .ok (.invokevirtual 160, 3) := by decide +kernel
theorem dX10_needs_50 : decode cX10_needs 50 = .ok (.ifCond .ne 25, 3) := by decide +kernel
theorem dX10_needs_53 : decode cX10_needs 53 = .ok (.iload 4, 2) := by decide +kernel
theorem dX10_needs_55 : decode cX10_needs 55 = .ok (.ifCond .lt 16, 3) := by decide +kernel
theorem dX10_needs_58 : decode cX10_needs 58 = .ok (.iload 5, 2) := by decide +kernel
theorem dX10_needs_60 : decode cX10_needs 60 = .ok (.invokestatic 182, 3) := by decide +kernel
theorem dX10_needs_63 : decode cX10_needs 63 = .ok (.iload 4, 2) := by decide +kernel
theorem dX10_needs_65 : decode cX10_needs 65 = .ok (.invokestatic 182, 3) := by decide +kernel
theorem dX10_needs_68 : decode cX10_needs 68 = .ok (.if_icmp .ge 7, 3) := by decide +kernel
theorem dX10_needs_71 : decode cX10_needs 71 = .ok (.iconst 1, 1) := by decide +kernel
theorem dX10_needs_72 : decode cX10_needs 72 = .ok (.goto 4, 3) := by decide +kernel
theorem dX10_needs_75 : decode cX10_needs 75 = .ok (.iconst 0, 1) := by decide +kernel
theorem dX10_needs_76 : decode cX10_needs 76 = .ok (.istore 6, 2) := by decide +kernel
theorem dX10_needs_78 : decode cX10_needs 78 = .ok (.iload 6, 2) := by decide +kernel
theorem dX10_needs_80 : decode cX10_needs 80 = .ok (.ifCond .eq 8, 3) := by decide +kernel
theorem dX10_needs_83 : decode cX10_needs 83 = .ok (.iload 5, 2) := by decide +kernel
theorem dX10_needs_85 : decode cX10_needs 85 = .ok (.goto 5, 3) := by decide +kernel
theorem dX10_needs_88 : decode cX10_needs 88 = .ok (.iload 4, 2) := by decide +kernel
theorem dX10_needs_90 : decode cX10_needs 90 = .ok (.istore 4, 2) := by decide +kernel
theorem dX10_needs_92 : decode cX10_needs 92 = .ok (.iinc 5 1, 3) := by decide +kernel
theorem dX10_needs_95 : decode cX10_needs 95 = .ok (.goto (-65), 3) := by decide +kernel
theorem dX10_needs_98 : decode cX10_needs 98 = .ok (.iload 4, 2) := by decide +kernel
theorem dX10_needs_100 : decode cX10_needs 100 = .ok (.ireturn, 1) := by decide +kernel
def r_X10_needs : Room := { frames := 6, cells := 0, slots := 0, locals := 134 }
def f_X10_needs_L30 (K : Int32 → Option (Int32 × PH)) (P : PH) (x0 : Nat) (x1 : Int32) (x3 : Int32) : Nat → Int32 → Int32 → Option (Int32 × PH)
  | 0, _, _ => none
  | n + 1, x4, x5 =>
    (if ((1 : Int32) <<< ((P.1 x0 1) &&& 31)) ≤ x5 then K x4 else ((f_X10_isCutOffBy P x0 x1 (x3 ||| x5)).bind fun q1 => (if (b2i q1) = 0 then (if x4 < 0 then (if (1 : Int32) = 0 then f_X10_needs_L30 K P x0 x1 x3 n x4 (x5 + (1 : Int32)) else f_X10_needs_L30 K P x0 x1 x3 n x5 (x5 + (1 : Int32))) else ((f_X10_bits P x5).bind fun q2 => ((f_X10_bits P x4).bind fun q3 => (if q3 ≤ q2 then (if (0 : Int32) = 0 then f_X10_needs_L30 K P x0 x1 x3 n x4 (x5 + (1 : Int32)) else f_X10_needs_L30 K P x0 x1 x3 n x5 (x5 + (1 : Int32))) else (if (1 : Int32) = 0 then f_X10_needs_L30 K P x0 x1 x3 n x4 (x5 + (1 : Int32)) else f_X10_needs_L30 K P x0 x1 x3 n x5 (x5 + (1 : Int32))))))) else (if (0 : Int32) = 0 then f_X10_needs_L30 K P x0 x1 x3 n x4 (x5 + (1 : Int32)) else f_X10_needs_L30 K P x0 x1 x3 n x5 (x5 + (1 : Int32))))))
theorem w_X10_needs_L30 {x : Fx} {E : Ev} (S : ZS x E r_X10_needs cX10_needs 7 RX10 (some .int)) (M : ZM x E) {K : Int32 → Option (Int32 × PH)} (P : PH) (x0 : Nat) (x1 : Int32) (x3 : Int32) (h_x0 : ok x0 8 0) (r : (Int32 × PH)) (hK : ∀ (y4 : Int32), K y4 = some r → Wz x E 7 (QI E x r.1 r.2) P 98 [(4, .int y4)] []) : ∀ (n : Nat) (x4 : Int32) (x5 : Int32), f_X10_needs_L30 K P x0 x1 x3 n x4 x5 = some r → Wz x E 7 (QI E x r.1 r.2) P 30 [(0, .ref (ad E x0)), (1, .int x1), (3, .int x3), (4, .int x4), (5, .int x5)] [] := by
  intro n
  induction n with
  | zero => intro x4 x5 hf; cases hf
  | succ n ih =>
    intro x4 x5 hf
    unfold f_X10_needs_L30 at hf
    refine z_iload S 4 dX10_needs_30 rfl ?_
    refine z_iconst (v := 1) S dX10_needs_32 (by decide) ?_
    refine z_aload_n S 0 dX10_needs_33 rfl rfl ?_
    refine z_getI S cf_8 h_x0 1 (by decide) rfl wd668 dX10_needs_34 ?_
    refine z_ishl S dX10_needs_37 ?_
    refine z_icmp_ge (tgt := 98) S dX10_needs_38 (by decide) hf (fun hf => ?_) (fun hf => ?_)
    · refine z_sub [3] rfl ?_
      exact hK x4 hf
    · refine z_aload_n S 0 dX10_needs_41 rfl rfl ?_
      refine z_iload_n S 1 dX10_needs_42 rfl rfl ?_
      refine z_iload_n S 2 dX10_needs_43 rfl rfl ?_
      refine z_iload S 4 dX10_needs_44 rfl ?_
      refine z_ior S dX10_needs_46 ?_
      refine z_callVI (rc := r_X10_isCutOffBy) [.int x1, .int (x3 ||| x5)] S mo_X10_isCutOffBy wd850 wd24 wd848 h_x0 (by decide) cl_8 rfl rfl (by decide) (z_room0 S M (by rfl) (by rfl)) rfl (Nat.le_of_ble_eq_true rfl) rfl dX10_needs_47 (fun q => b2i q) (fun _ => P) (fun q hq => m_X10_isCutOffBy (xl x) E _ _ _ _ h_x0 q hq) hf (fun q1 hf => ?_)
      refine z_if_ne (tgt := 75) S dX10_needs_50 (by decide) hf (fun hf => ?_) (fun hf => ?_)
      · refine z_iload S 3 dX10_needs_53 rfl ?_
        refine z_if_lt (tgt := 71) S dX10_needs_55 (by decide) hf (fun hf => ?_) (fun hf => ?_)
        · refine z_iconst (v := 1) S dX10_needs_71 (by decide) ?_
          refine z_goto (tgt := 76) S dX10_needs_72 (by decide) ?_
          refine z_istore (lv' := [(6, .int (1 : Int32)), (0, .ref (ad E x0)), (1, .int x1), (3, .int x3), (4, .int x4), (5, .int x5)]) S dX10_needs_76 (by decide) rfl ?_
          refine z_iload S 0 dX10_needs_78 rfl ?_
          refine z_if_eq (tgt := 88) S dX10_needs_80 (by decide) hf (fun hf => ?_) (fun hf => ?_)
          · refine z_iload S 4 dX10_needs_88 rfl ?_
            refine z_istore (lv' := [(4, .int x4), (6, .int (1 : Int32)), (0, .ref (ad E x0)), (1, .int x1), (3, .int x3), (5, .int x5)]) S dX10_needs_90 (by decide) rfl ?_
            refine z_iinc (v := (x5 + (1 : Int32))) (lv' := [(5, .int (x5 + (1 : Int32))), (4, .int x4), (6, .int (1 : Int32)), (0, .ref (ad E x0)), (1, .int x1), (3, .int x3)]) S 5 dX10_needs_92 rfl (by rfl) (by decide) rfl ?_
            refine z_goto (tgt := 30) S dX10_needs_95 (by decide) ?_
            refine z_sub [3, 4, 5, 1, 0] rfl ?_
            exact ih x4 (x5 + (1 : Int32)) hf
          · refine z_iload S 5 dX10_needs_83 rfl ?_
            refine z_goto (tgt := 90) S dX10_needs_85 (by decide) ?_
            refine z_istore (lv' := [(4, .int x5), (6, .int (1 : Int32)), (0, .ref (ad E x0)), (1, .int x1), (3, .int x3), (5, .int x5)]) S dX10_needs_90 (by decide) rfl ?_
            refine z_iinc (v := (x5 + (1 : Int32))) (lv' := [(5, .int (x5 + (1 : Int32))), (4, .int x5), (6, .int (1 : Int32)), (0, .ref (ad E x0)), (1, .int x1), (3, .int x3)]) S 5 dX10_needs_92 rfl (by rfl) (by decide) rfl ?_
            refine z_goto (tgt := 30) S dX10_needs_95 (by decide) ?_
            refine z_sub [3, 4, 5, 1, 0] rfl ?_
            exact ih x5 (x5 + (1 : Int32)) hf
        · refine z_iload S 4 dX10_needs_58 rfl ?_
          refine z_callSI (rc := r_X10_bits) [.int x5] S mo_X10_bits wd889 wd888 rfl rfl (by decide) (z_room0 S M (by rfl) (by rfl)) rfl (Nat.le_of_ble_eq_true rfl) rfl dX10_needs_60 (fun q => q) (fun _ => P) (fun q hq => m_X10_bits (xl x) E _ _  q hq) hf (fun q2 hf => ?_)
          refine z_iload S 3 dX10_needs_63 rfl ?_
          refine z_callSI (rc := r_X10_bits) [.int x4] S mo_X10_bits wd889 wd888 rfl rfl (by decide) (z_room0 S M (by rfl) (by rfl)) rfl (Nat.le_of_ble_eq_true rfl) rfl dX10_needs_65 (fun q => q) (fun _ => P) (fun q hq => m_X10_bits (xl x) E _ _  q hq) hf (fun q3 hf => ?_)
          refine z_icmp_ge (tgt := 75) S dX10_needs_68 (by decide) hf (fun hf => ?_) (fun hf => ?_)
          · refine z_iconst (v := 0) S dX10_needs_75 (by decide) ?_
            refine z_istore (lv' := [(6, .int (0 : Int32)), (0, .ref (ad E x0)), (1, .int x1), (3, .int x3), (4, .int x4), (5, .int x5)]) S dX10_needs_76 (by decide) rfl ?_
            refine z_iload S 0 dX10_needs_78 rfl ?_
            refine z_if_eq (tgt := 88) S dX10_needs_80 (by decide) hf (fun hf => ?_) (fun hf => ?_)
            · refine z_iload S 4 dX10_needs_88 rfl ?_
              refine z_istore (lv' := [(4, .int x4), (6, .int (0 : Int32)), (0, .ref (ad E x0)), (1, .int x1), (3, .int x3), (5, .int x5)]) S dX10_needs_90 (by decide) rfl ?_
              refine z_iinc (v := (x5 + (1 : Int32))) (lv' := [(5, .int (x5 + (1 : Int32))), (4, .int x4), (6, .int (0 : Int32)), (0, .ref (ad E x0)), (1, .int x1), (3, .int x3)]) S 5 dX10_needs_92 rfl (by rfl) (by decide) rfl ?_
              refine z_goto (tgt := 30) S dX10_needs_95 (by decide) ?_
              refine z_sub [3, 4, 5, 1, 0] rfl ?_
              exact ih x4 (x5 + (1 : Int32)) hf
            · refine z_iload S 5 dX10_needs_83 rfl ?_
              refine z_goto (tgt := 90) S dX10_needs_85 (by decide) ?_
              refine z_istore (lv' := [(4, .int x5), (6, .int (0 : Int32)), (0, .ref (ad E x0)), (1, .int x1), (3, .int x3), (5, .int x5)]) S dX10_needs_90 (by decide) rfl ?_
              refine z_iinc (v := (x5 + (1 : Int32))) (lv' := [(5, .int (x5 + (1 : Int32))), (4, .int x5), (6, .int (0 : Int32)), (0, .ref (ad E x0)), (1, .int x1), (3, .int x3)]) S 5 dX10_needs_92 rfl (by rfl) (by decide) rfl ?_
              refine z_goto (tgt := 30) S dX10_needs_95 (by decide) ?_
              refine z_sub [3, 4, 5, 1, 0] rfl ?_
              exact ih x5 (x5 + (1 : Int32)) hf
          · refine z_iconst (v := 1) S dX10_needs_71 (by decide) ?_
            refine z_goto (tgt := 76) S dX10_needs_72 (by decide) ?_
            refine z_istore (lv' := [(6, .int (1 : Int32)), (0, .ref (ad E x0)), (1, .int x1), (3, .int x3), (4, .int x4), (5, .int x5)]) S dX10_needs_76 (by decide) rfl ?_
            refine z_iload S 0 dX10_needs_78 rfl ?_
            refine z_if_eq (tgt := 88) S dX10_needs_80 (by decide) hf (fun hf => ?_) (fun hf => ?_)
            · refine z_iload S 4 dX10_needs_88 rfl ?_
              refine z_istore (lv' := [(4, .int x4), (6, .int (1 : Int32)), (0, .ref (ad E x0)), (1, .int x1), (3, .int x3), (5, .int x5)]) S dX10_needs_90 (by decide) rfl ?_
              refine z_iinc (v := (x5 + (1 : Int32))) (lv' := [(5, .int (x5 + (1 : Int32))), (4, .int x4), (6, .int (1 : Int32)), (0, .ref (ad E x0)), (1, .int x1), (3, .int x3)]) S 5 dX10_needs_92 rfl (by rfl) (by decide) rfl ?_
              refine z_goto (tgt := 30) S dX10_needs_95 (by decide) ?_
              refine z_sub [3, 4, 5, 1, 0] rfl ?_
              exact ih x4 (x5 + (1 : Int32)) hf
            · refine z_iload S 5 dX10_needs_83 rfl ?_
              refine z_goto (tgt := 90) S dX10_needs_85 (by decide) ?_
              refine z_istore (lv' := [(4, .int x5), (6, .int (1 : Int32)), (0, .ref (ad E x0)), (1, .int x1), (3, .int x3), (5, .int x5)]) S dX10_needs_90 (by decide) rfl ?_
              refine z_iinc (v := (x5 + (1 : Int32))) (lv' := [(5, .int (x5 + (1 : Int32))), (4, .int x5), (6, .int (1 : Int32)), (0, .ref (ad E x0)), (1, .int x1), (3, .int x3)]) S 5 dX10_needs_92 rfl (by rfl) (by decide) rfl ?_
              refine z_goto (tgt := 30) S dX10_needs_95 (by decide) ?_
              refine z_sub [3, 4, 5, 1, 0] rfl ?_
              exact ih x5 (x5 + (1 : Int32)) hf
      · refine z_iconst (v := 0) S dX10_needs_75 (by decide) ?_
        refine z_istore (lv' := [(6, .int (0 : Int32)), (0, .ref (ad E x0)), (1, .int x1), (3, .int x3), (4, .int x4), (5, .int x5)]) S dX10_needs_76 (by decide) rfl ?_
        refine z_iload S 0 dX10_needs_78 rfl ?_
        refine z_if_eq (tgt := 88) S dX10_needs_80 (by decide) hf (fun hf => ?_) (fun hf => ?_)
        · refine z_iload S 4 dX10_needs_88 rfl ?_
          refine z_istore (lv' := [(4, .int x4), (6, .int (0 : Int32)), (0, .ref (ad E x0)), (1, .int x1), (3, .int x3), (5, .int x5)]) S dX10_needs_90 (by decide) rfl ?_
          refine z_iinc (v := (x5 + (1 : Int32))) (lv' := [(5, .int (x5 + (1 : Int32))), (4, .int x4), (6, .int (0 : Int32)), (0, .ref (ad E x0)), (1, .int x1), (3, .int x3)]) S 5 dX10_needs_92 rfl (by rfl) (by decide) rfl ?_
          refine z_goto (tgt := 30) S dX10_needs_95 (by decide) ?_
          refine z_sub [3, 4, 5, 1, 0] rfl ?_
          exact ih x4 (x5 + (1 : Int32)) hf
        · refine z_iload S 5 dX10_needs_83 rfl ?_
          refine z_goto (tgt := 90) S dX10_needs_85 (by decide) ?_
          refine z_istore (lv' := [(4, .int x5), (6, .int (0 : Int32)), (0, .ref (ad E x0)), (1, .int x1), (3, .int x3), (5, .int x5)]) S dX10_needs_90 (by decide) rfl ?_
          refine z_iinc (v := (x5 + (1 : Int32))) (lv' := [(5, .int (x5 + (1 : Int32))), (4, .int x5), (6, .int (0 : Int32)), (0, .ref (ad E x0)), (1, .int x1), (3, .int x3)]) S 5 dX10_needs_92 rfl (by rfl) (by decide) rfl ?_
          refine z_goto (tgt := 30) S dX10_needs_95 (by decide) ?_
          refine z_sub [3, 4, 5, 1, 0] rfl ?_
          exact ih x5 (x5 + (1 : Int32)) hf
def f_X10_needs (P : PH) (x0 : Nat) (x1 : Int32) : Option (Int32 × PH) :=
  ((f_X10_refused P x0 x1 (1 : Int32)).bind fun q4 => (if 0 ≤ q4 then ((f_X10_asItIs P x0).bind fun q5 => ((f_X10_mayIn q5 x0 x1).bind fun q6 => f_X10_needs_L30 (fun v7 => some (v7, q6.2)) q6.2 x0 x1 q6.1 1000 (-9 : Int32) (0 : Int32))) else some (q4, P)))
theorem w_X10_needs {x : Fx} {E : Ev} (S : ZS x E r_X10_needs cX10_needs 7 RX10 (some .int)) (M : ZM x E) (P : PH) (x0 : Nat) (x1 : Int32) (h_x0 : ok x0 8 0) (r : (Int32 × PH)) (hf : f_X10_needs P x0 x1 = some r) : Wz x E 7 (QI E x r.1 r.2) P 0 [(0, .ref (ad E x0)), (1, .int x1)] [] := by
  unfold f_X10_needs at hf
  refine z_aload_n S 0 dX10_needs_0 rfl rfl ?_
  refine z_iload_n S 1 dX10_needs_1 rfl rfl ?_
  refine z_iconst (v := 1) S dX10_needs_2 (by decide) ?_
  refine z_callVI (rc := r_X10_refused) [.int x1, .int (1 : Int32)] S mo_X10_refused wd920 wd29 wd918 h_x0 (by decide) cl_8 rfl rfl (by decide) (z_room0 S M (by rfl) (by rfl)) rfl (Nat.le_of_ble_eq_true rfl) rfl dX10_needs_3 (fun q => q) (fun _ => P) (fun q hq => m_X10_refused (xl x) E _ _ _ _ h_x0 q hq) hf (fun q4 hf => ?_)
  refine z_istore_n (lv' := [(2, .int q4), (0, .ref (ad E x0)), (1, .int x1)]) S dX10_needs_6 rfl (by decide) rfl ?_
  refine z_iload_n S 0 dX10_needs_7 rfl rfl ?_
  refine z_if_ge (tgt := 13) S dX10_needs_8 (by decide) hf (fun hf => ?_) (fun hf => ?_)
  · refine z_aload_n S 1 dX10_needs_13 rfl rfl ?_
    refine z_callVV (rc := r_X10_asItIs) [] S mo_X10_asItIs wd819 wd17 wd817 h_x0 (by decide) cl_8 rfl rfl (by decide) (z_room0 S M (by rfl) (by rfl)) rfl (Nat.le_of_ble_eq_true rfl) rfl dX10_needs_14  (fun q => q) (fun q hq => m_X10_asItIs (xl x) E _ _ h_x0 q hq) hf (fun q5 hf => ?_)
    refine z_aload_n S 1 dX10_needs_17 rfl rfl ?_
    refine z_iload_n S 2 dX10_needs_18 rfl rfl ?_
    refine z_callVI (rc := r_X10_mayIn) [.int x1] S mo_X10_mayIn wd823 wd18 wd821 h_x0 (by decide) cl_8 rfl rfl (by decide) (z_room0 S M (by rfl) (by rfl)) rfl (Nat.le_of_ble_eq_true rfl) rfl dX10_needs_19 (fun q => q.1) (fun q => q.2) (fun q hq => m_X10_mayIn (xl x) E _ _ _ h_x0 q hq) hf (fun q6 hf => ?_)
    refine z_istore_n (lv' := [(3, .int q6.1), (2, .int q4), (0, .ref (ad E x0)), (1, .int x1)]) S dX10_needs_22 rfl (by decide) rfl ?_
    refine z_bipush (v := (-9 : Int32)) S dX10_needs_23 (by decide) ?_
    refine z_istore (lv' := [(4, .int (-9 : Int32)), (3, .int q6.1), (2, .int q4), (0, .ref (ad E x0)), (1, .int x1)]) S dX10_needs_25 (by decide) rfl ?_
    refine z_iconst (v := 0) S dX10_needs_27 (by decide) ?_
    refine z_istore (lv' := [(5, .int (0 : Int32)), (4, .int (-9 : Int32)), (3, .int q6.1), (2, .int q4), (0, .ref (ad E x0)), (1, .int x1)]) S dX10_needs_28 (by decide) rfl ?_
    refine z_sub [4, 5, 2, 1, 0] rfl ?_
    refine w_X10_needs_L30 S M _ x0 x1 q6.1 h_x0 r (fun v7 hf => ?_) 1000 (-9 : Int32) (0 : Int32) hf
    refine z_iload S 0 dX10_needs_98 rfl ?_
    exact z_iretI (v := v7) S M rfl dX10_needs_100 hf
  · refine z_iload_n S 0 dX10_needs_11 rfl rfl ?_
    exact z_iretI (v := q4) S M rfl dX10_needs_12 hf
theorem m_X10_needs (l : Launch) (E : Ev) (P : PH) (x0 : Nat) (x1 : Int32) (h_x0 : ok x0 8 0) (r : (Int32 × PH)) (hf : f_X10_needs P x0 x1 = some r) : CtI l E yX10_needs cX10_needs 7 (some .int) r_X10_needs [.ref (ad E x0), .int x1] P r.1 r.2 :=
  z_body (own := RX10) (by decide +kernel) rfl (Nat.le_of_ble_eq_true rfl) rfl (fun x _ S M => w_X10_needs S M P x0 x1 h_x0 r hf)
-- yX10_opens
theorem dX10_opens_0 : decode cX10_opens 0 = .ok (.aload_n 0, 1) := by decide +kernel
theorem dX10_opens_1 : decode cX10_opens 1 = .ok (.iload_n 1, 1) := by decide +kernel
theorem dX10_opens_2 : decode cX10_opens 2 = .ok (.iconst 1, 1) := by decide +kernel
theorem dX10_opens_3 : decode cX10_opens 3 = .ok (.invokevirtual 189, 3) := by decide +kernel
theorem dX10_opens_6 : decode cX10_opens 6 = .ok (.istore_n 2, 1) := by decide +kernel
theorem dX10_opens_7 : decode cX10_opens 7 = .ok (.iload_n 2, 1) := by decide +kernel
theorem dX10_opens_8 : decode cX10_opens 8 = .ok (.ifCond .ge 5, 3) := by decide +kernel
theorem dX10_opens_11 : decode cX10_opens 11 = .ok (.iload_n 2, 1) := by decide +kernel
theorem dX10_opens_12 : decode cX10_opens 12 = .ok (.ireturn, 1) := by decide +kernel
theorem dX10_opens_13 : decode cX10_opens 13 = .ok (.aload_n 0, 1) := by decide +kernel
theorem dX10_opens_14 : decode cX10_opens 14 = .ok (.invokevirtual 166, 3) := by decide +kernel
theorem dX10_opens_17 : decode cX10_opens 17 = .ok (.iconst 0, 1) := by decide +kernel
theorem dX10_opens_18 : decode cX10_opens 18 = .ok (.istore_n 3, 1) := by decide +kernel
theorem dX10_opens_19 : decode cX10_opens 19 = .ok (.aload_n 0, 1) := by decide +kernel
theorem dX10_opens_20 : decode cX10_opens 20 = .ok (.iload_n 1, 1) := by decide +kernel
theorem dX10_opens_21 : decode cX10_opens 21 = .ok (.invokevirtual 163, 3) := by decide +kernel
theorem dX10_opens_24 : decode cX10_opens 24 = .ok (.ifCond .eq 77, 3) := by decide +kernel
theorem dX10_opens_27 : decode cX10_opens 27 = .ok (.iconst 0, 1) := by decide +kernel
theorem dX10_opens_28 : decode cX10_opens 28 = .ok (.istore 4, 2) := by decide +kernel
theorem dX10_opens_30 : decode cX10_opens 30 = .ok (.iload 4, 2) := by decide +kernel
theorem dX10_opens_32 : decode cX10_opens 32 = .ok (.aload_n 0, 1) := by decide +kernel
theorem dX10_opens_33 : decode cX10_opens 33 = .ok (.getfield 53, 3) := by decide +kernel
theorem dX10_opens_36 : decode cX10_opens 36 = .ok (.if_icmp .ge 65, 3) := by decide +kernel
theorem dX10_opens_39 : decode cX10_opens 39 = .ok (.iload 4, 2) := by decide +kernel
theorem dX10_opens_41 : decode cX10_opens 41 = .ok (.iload_n 1, 1) := by decide +kernel
theorem dX10_opens_42 : decode cX10_opens 42 = .ok (.if_icmp .eq 53, 3) := by decide +kernel
theorem dX10_opens_45 : decode cX10_opens 45 = .ok (.aload_n 0, 1) := by decide +kernel
theorem dX10_opens_46 : decode cX10_opens 46 = .ok (.getfield 19, 3) := by decide +kernel
theorem dX10_opens_49 : decode cX10_opens 49 = .ok (.iconst 1, 1) := by decide +kernel
theorem dX10_opens_50 : decode cX10_opens 50 = .ok (.iaload, 1) := by decide +kernel
theorem dX10_opens_51 : decode cX10_opens 51 = .ok (.iload 4, 2) := by decide +kernel
theorem dX10_opens_53 : decode cX10_opens 53 = .ok (.invokestatic 137, 3) := by decide +kernel
theorem dX10_opens_56 : decode cX10_opens 56 = .ok (.ifCond .eq 39, 3) := by decide +kernel
theorem dX10_opens_59 : decode cX10_opens 59 = .ok (.aload_n 0, 1) := by decide +kernel
theorem dX10_opens_60 : decode cX10_opens 60 = .ok (.getfield 50, 3) := by decide +kernel
theorem dX10_opens_63 : decode cX10_opens 63 = .ok (.iconst 1, 1) := by decide +kernel
theorem dX10_opens_64 : decode cX10_opens 64 = .ok (.aload_n 0, 1) := by decide +kernel
theorem dX10_opens_65 : decode cX10_opens 65 = .ok (.getfield 19, 3) := by decide +kernel
theorem dX10_opens_68 : decode cX10_opens 68 = .ok (.iconst 1, 1) := by decide +kernel
theorem dX10_opens_69 : decode cX10_opens 69 = .ok (.iaload, 1) := by decide +kernel
theorem dX10_opens_70 : decode cX10_opens 70 = .ok (.iconst 1, 1) := by decide +kernel
theorem dX10_opens_71 : decode cX10_opens 71 = .ok (.iload 4, 2) := by decide +kernel
theorem dX10_opens_73 : decode cX10_opens 73 = .ok (.ishl, 1) := by decide +kernel
theorem dX10_opens_74 : decode cX10_opens 74 = .ok (.isub, 1) := by decide +kernel
theorem dX10_opens_75 : decode cX10_opens 75 = .ok (.iastore, 1) := by decide +kernel
theorem dX10_opens_76 : decode cX10_opens 76 = .ok (.iload_n 3, 1) := by decide +kernel
theorem dX10_opens_77 : decode cX10_opens 77 = .ok (.aload_n 0, 1) := by decide +kernel
theorem dX10_opens_78 : decode cX10_opens 78 = .ok (.iload_n 1, 1) := by decide +kernel
theorem dX10_opens_79 : decode cX10_opens 79 = .ok (.invokevirtual 163, 3) := by decide +kernel
theorem dX10_opens_82 : decode cX10_opens 82 = .ok (.ifCond .eq 7, 3) := by decide +kernel
theorem dX10_opens_85 : decode cX10_opens 85 = .ok (.iconst 0, 1) := by decide +kernel
theorem dX10_opens_86 : decode cX10_opens 86 = .ok (.goto 7, 3) := by decide +kernel
theorem dX10_opens_89 : decode cX10_opens 89 = .ok (.iconst 1, 1) := by decide +kernel
theorem dX10_opens_90 : decode cX10_opens 90 = .ok (.iload 4, 2) := by decide +kernel
theorem dX10_opens_92 : decode cX10_opens 92 = .ok (.ishl, 1) := by decide +kernel
theorem dX10_opens_93 : decode cX10_opens 93 = .ok (.ior, 1) := by decide +kernel
theorem dX10_opens_94 : decode cX10_opens 94 = .ok (.istore_n 3, 1) := by decide +kernel
theorem dX10_opens_95 : decode cX10_opens 95 = .ok (.iinc 4 1, 3) := by decide +kernel
theorem dX10_opens_98 : decode cX10_opens 98 = .ok (.goto (-68), 3) := by decide +kernel
theorem dX10_opens_101 : decode cX10_opens 101 = .ok (.iload_n 3, 1) := by decide +kernel
theorem dX10_opens_102 : decode cX10_opens 102 = .ok (.ireturn, 1) := by decide +kernel
def r_X10_opens : Room := { frames := 7, cells := 0, slots := 0, locals := 155 }
def f_X10_opens_L30 (K : PH → Int32 → Option (Int32 × PH)) (x0 : Nat) (x1 : Int32) : Nat → PH → Int32 → Int32 → Option (Int32 × PH)
  | 0, _, _, _ => none
  | n + 1, P, x3, x4 =>
    (if (P.1 x0 0) ≤ x4 then K P x3 else (if x4 = x1 then f_X10_opens_L30 K x0 x1 n P x3 (x4 + (1 : Int32)) else (if ((1 : Int32) < 0 ∨ 46 ≤ (1 : Int32).toNatClampNeg) then none else ((f_X10_has P (P.1 (P.2.2 x0 5) (1 : Int32).toNatClampNeg) x4).bind fun q2 => (if (b2i q2) = 0 then f_X10_opens_L30 K x0 x1 n P x3 (x4 + (1 : Int32)) else (if ((1 : Int32) < 0 ∨ 46 ≤ (1 : Int32).toNatClampNeg) then none else (if ((1 : Int32) < 0 ∨ 46 ≤ (1 : Int32).toNatClampNeg) then none else ((some (sI P (P.2.2 x0 26) (1 : Int32).toNatClampNeg ((P.1 (P.2.2 x0 5) (1 : Int32).toNatClampNeg) - ((1 : Int32) <<< (x4 &&& 31))))).bind fun P5 => ((f_X10_isCutOff P5 x0 x1).bind fun q6 => (if (b2i q6.1) = 0 then f_X10_opens_L30 K x0 x1 n q6.2 (x3 ||| ((1 : Int32) <<< (x4 &&& 31))) (x4 + (1 : Int32)) else f_X10_opens_L30 K x0 x1 n q6.2 (x3 ||| (0 : Int32)) (x4 + (1 : Int32))))))))))))
theorem w_X10_opens_L30 {x : Fx} {E : Ev} (S : ZS x E r_X10_opens cX10_opens 5 RX10 (some .int)) (M : ZM x E) {K : PH → Int32 → Option (Int32 × PH)} (x0 : Nat) (x1 : Int32) (h_x0 : ok x0 8 0) (r : (Int32 × PH)) (hK : ∀ (P1 : PH) (y3 : Int32), K P1 y3 = some r → Wz x E 5 (QI E x r.1 r.2) P1 101 [(3, .int y3)] []) : ∀ (n : Nat) (P : PH) (x3 : Int32) (x4 : Int32), f_X10_opens_L30 K x0 x1 n P x3 x4 = some r → Wz x E 5 (QI E x r.1 r.2) P 30 [(0, .ref (ad E x0)), (1, .int x1), (3, .int x3), (4, .int x4)] [] := by
  intro n
  induction n with
  | zero => intro P x3 x4 hf; cases hf
  | succ n ih =>
    intro P x3 x4 hf
    unfold f_X10_opens_L30 at hf
    refine z_iload S 3 dX10_opens_30 rfl ?_
    refine z_aload_n S 0 dX10_opens_32 rfl rfl ?_
    refine z_getI S cf_8 h_x0 0 (by decide) rfl wd667 dX10_opens_33 ?_
    refine z_icmp_ge (tgt := 101) S dX10_opens_36 (by decide) hf (fun hf => ?_) (fun hf => ?_)
    · refine z_sub [2] rfl ?_
      exact hK P x3 hf
    · refine z_iload S 3 dX10_opens_39 rfl ?_
      refine z_iload_n S 1 dX10_opens_41 rfl rfl ?_
      refine z_icmp_eq (tgt := 95) S dX10_opens_42 (by decide) hf (fun hf => ?_) (fun hf => ?_)
      · refine z_iinc (v := (x4 + (1 : Int32))) (lv' := [(4, .int (x4 + (1 : Int32))), (0, .ref (ad E x0)), (1, .int x1), (3, .int x3)]) S 3 dX10_opens_95 rfl (by rfl) (by decide) rfl ?_
        refine z_goto (tgt := 30) S dX10_opens_98 (by decide) ?_
        refine z_sub [1, 2, 3, 0] rfl ?_
        exact ih P x3 (x4 + (1 : Int32)) hf
      · refine z_aload_n S 0 dX10_opens_45 rfl rfl ?_
        refine z_getR (K' := 9) (n' := 46) S cf_8 h_x0 5 (by decide) rfl rfl rfl wd672 dX10_opens_46 (fun h1 => ?_)
        refine z_iconst (v := 1) S dX10_opens_49 (by decide) ?_
        refine z_iald S h1 dX10_opens_50 hf (fun hf => ?_)
        refine z_iload S 3 dX10_opens_51 rfl ?_
        refine z_callSI (rc := r_X10_has) [.int (P.1 (P.2.2 x0 5) (1 : Int32).toNatClampNeg), .int x4] S mo_X10_has wd834 wd833 rfl rfl (by decide) (z_room0 S M (by rfl) (by rfl)) rfl (Nat.le_of_ble_eq_true rfl) rfl dX10_opens_53 (fun q => b2i q) (fun _ => P) (fun q hq => m_X10_has (xl x) E _ _ _  q hq) hf (fun q2 hf => ?_)
        refine z_if_eq (tgt := 95) S dX10_opens_56 (by decide) hf (fun hf => ?_) (fun hf => ?_)
        · refine z_iinc (v := (x4 + (1 : Int32))) (lv' := [(4, .int (x4 + (1 : Int32))), (0, .ref (ad E x0)), (1, .int x1), (3, .int x3)]) S 3 dX10_opens_95 rfl (by rfl) (by decide) rfl ?_
          refine z_goto (tgt := 30) S dX10_opens_98 (by decide) ?_
          refine z_sub [1, 2, 3, 0] rfl ?_
          exact ih P x3 (x4 + (1 : Int32)) hf
        · refine z_aload_n S 0 dX10_opens_59 rfl rfl ?_
          refine z_getR (K' := 9) (n' := 46) S cf_8 h_x0 26 (by decide) rfl rfl rfl wd693 dX10_opens_60 (fun h3 => ?_)
          refine z_iconst (v := 1) S dX10_opens_63 (by decide) ?_
          refine z_aload_n S 0 dX10_opens_64 rfl rfl ?_
          refine z_getR (K' := 9) (n' := 46) S cf_8 h_x0 5 (by decide) rfl rfl rfl wd672 dX10_opens_65 (fun h4 => ?_)
          refine z_iconst (v := 1) S dX10_opens_68 (by decide) ?_
          refine z_iald S h4 dX10_opens_69 hf (fun hf => ?_)
          refine z_iconst (v := 1) S dX10_opens_70 (by decide) ?_
          refine z_iload S 3 dX10_opens_71 rfl ?_
          refine z_ishl S dX10_opens_73 ?_
          refine z_isub S dX10_opens_74 ?_
          refine z_iast S h3 dX10_opens_75 hf (fun hf => ?_)
          refine z_nmP hf (fun P5 hf => ?_)
          refine z_iload_n S 2 dX10_opens_76 rfl rfl ?_
          refine z_aload_n S 0 dX10_opens_77 rfl rfl ?_
          refine z_iload_n S 1 dX10_opens_78 rfl rfl ?_
          refine z_callVI (rc := r_X10_isCutOff) [.int x1] S mo_X10_isCutOff wd846 wd23 wd844 h_x0 (by decide) cl_8 rfl rfl (by decide) (z_room0 S M (by rfl) (by rfl)) rfl (Nat.le_of_ble_eq_true rfl) rfl dX10_opens_79 (fun q => b2i q.1) (fun q => q.2) (fun q hq => m_X10_isCutOff (xl x) E _ _ _ h_x0 q hq) hf (fun q6 hf => ?_)
          refine z_if_eq (tgt := 89) S dX10_opens_82 (by decide) hf (fun hf => ?_) (fun hf => ?_)
          · refine z_iconst (v := 1) S dX10_opens_89 (by decide) ?_
            refine z_iload S 3 dX10_opens_90 rfl ?_
            refine z_ishl S dX10_opens_92 ?_
            refine z_ior S dX10_opens_93 ?_
            refine z_istore_n (lv' := [(3, .int (x3 ||| ((1 : Int32) <<< (x4 &&& 31)))), (0, .ref (ad E x0)), (1, .int x1), (4, .int x4)]) S dX10_opens_94 rfl (by decide) rfl ?_
            refine z_iinc (v := (x4 + (1 : Int32))) (lv' := [(4, .int (x4 + (1 : Int32))), (3, .int (x3 ||| ((1 : Int32) <<< (x4 &&& 31)))), (0, .ref (ad E x0)), (1, .int x1)]) S 3 dX10_opens_95 rfl (by rfl) (by decide) rfl ?_
            refine z_goto (tgt := 30) S dX10_opens_98 (by decide) ?_
            refine z_sub [2, 3, 1, 0] rfl ?_
            exact ih q6.2 (x3 ||| ((1 : Int32) <<< (x4 &&& 31))) (x4 + (1 : Int32)) hf
          · refine z_iconst (v := 0) S dX10_opens_85 (by decide) ?_
            refine z_goto (tgt := 93) S dX10_opens_86 (by decide) ?_
            refine z_ior S dX10_opens_93 ?_
            refine z_istore_n (lv' := [(3, .int (x3 ||| (0 : Int32))), (0, .ref (ad E x0)), (1, .int x1), (4, .int x4)]) S dX10_opens_94 rfl (by decide) rfl ?_
            refine z_iinc (v := (x4 + (1 : Int32))) (lv' := [(4, .int (x4 + (1 : Int32))), (3, .int (x3 ||| (0 : Int32))), (0, .ref (ad E x0)), (1, .int x1)]) S 3 dX10_opens_95 rfl (by rfl) (by decide) rfl ?_
            refine z_goto (tgt := 30) S dX10_opens_98 (by decide) ?_
            refine z_sub [2, 3, 1, 0] rfl ?_
            exact ih q6.2 (x3 ||| (0 : Int32)) (x4 + (1 : Int32)) hf
def f_X10_opens (P : PH) (x0 : Nat) (x1 : Int32) : Option (Int32 × PH) :=
  ((f_X10_refused P x0 x1 (1 : Int32)).bind fun q7 => (if 0 ≤ q7 then ((f_X10_asItIs P x0).bind fun q8 => ((f_X10_isCutOff q8 x0 x1).bind fun q9 => (if (b2i q9.1) = 0 then some ((0 : Int32), q9.2) else f_X10_opens_L30 (fun P11 v10 => some (v10, P11)) x0 x1 1000 q9.2 (0 : Int32) (0 : Int32)))) else some (q7, P)))
theorem w_X10_opens {x : Fx} {E : Ev} (S : ZS x E r_X10_opens cX10_opens 5 RX10 (some .int)) (M : ZM x E) (P : PH) (x0 : Nat) (x1 : Int32) (h_x0 : ok x0 8 0) (r : (Int32 × PH)) (hf : f_X10_opens P x0 x1 = some r) : Wz x E 5 (QI E x r.1 r.2) P 0 [(0, .ref (ad E x0)), (1, .int x1)] [] := by
  unfold f_X10_opens at hf
  refine z_aload_n S 0 dX10_opens_0 rfl rfl ?_
  refine z_iload_n S 1 dX10_opens_1 rfl rfl ?_
  refine z_iconst (v := 1) S dX10_opens_2 (by decide) ?_
  refine z_callVI (rc := r_X10_refused) [.int x1, .int (1 : Int32)] S mo_X10_refused wd920 wd29 wd918 h_x0 (by decide) cl_8 rfl rfl (by decide) (z_room0 S M (by rfl) (by rfl)) rfl (Nat.le_of_ble_eq_true rfl) rfl dX10_opens_3 (fun q => q) (fun _ => P) (fun q hq => m_X10_refused (xl x) E _ _ _ _ h_x0 q hq) hf (fun q7 hf => ?_)
  refine z_istore_n (lv' := [(2, .int q7), (0, .ref (ad E x0)), (1, .int x1)]) S dX10_opens_6 rfl (by decide) rfl ?_
  refine z_iload_n S 0 dX10_opens_7 rfl rfl ?_
  refine z_if_ge (tgt := 13) S dX10_opens_8 (by decide) hf (fun hf => ?_) (fun hf => ?_)
  · refine z_aload_n S 1 dX10_opens_13 rfl rfl ?_
    refine z_callVV (rc := r_X10_asItIs) [] S mo_X10_asItIs wd819 wd17 wd817 h_x0 (by decide) cl_8 rfl rfl (by decide) (z_room0 S M (by rfl) (by rfl)) rfl (Nat.le_of_ble_eq_true rfl) rfl dX10_opens_14  (fun q => q) (fun q hq => m_X10_asItIs (xl x) E _ _ h_x0 q hq) hf (fun q8 hf => ?_)
    refine z_iconst (v := 0) S dX10_opens_17 (by decide) ?_
    refine z_istore_n (lv' := [(3, .int (0 : Int32)), (2, .int q7), (0, .ref (ad E x0)), (1, .int x1)]) S dX10_opens_18 rfl (by decide) rfl ?_
    refine z_aload_n S 2 dX10_opens_19 rfl rfl ?_
    refine z_iload_n S 3 dX10_opens_20 rfl rfl ?_
    refine z_callVI (rc := r_X10_isCutOff) [.int x1] S mo_X10_isCutOff wd846 wd23 wd844 h_x0 (by decide) cl_8 rfl rfl (by decide) (z_room0 S M (by rfl) (by rfl)) rfl (Nat.le_of_ble_eq_true rfl) rfl dX10_opens_21 (fun q => b2i q.1) (fun q => q.2) (fun q hq => m_X10_isCutOff (xl x) E _ _ _ h_x0 q hq) hf (fun q9 hf => ?_)
    refine z_if_eq (tgt := 101) S dX10_opens_24 (by decide) hf (fun hf => ?_) (fun hf => ?_)
    · refine z_iload_n S 0 dX10_opens_101 rfl rfl ?_
      exact z_iretI (v := (0 : Int32)) S M rfl dX10_opens_102 hf
    · refine z_iconst (v := 0) S dX10_opens_27 (by decide) ?_
      refine z_istore (lv' := [(4, .int (0 : Int32)), (3, .int (0 : Int32)), (2, .int q7), (0, .ref (ad E x0)), (1, .int x1)]) S dX10_opens_28 (by decide) rfl ?_
      refine z_sub [3, 4, 1, 0] rfl ?_
      refine w_X10_opens_L30 S M x0 x1 h_x0 r (fun P11 v10 hf => ?_) 1000 q9.2 (0 : Int32) (0 : Int32) hf
      refine z_iload_n S 0 dX10_opens_101 rfl rfl ?_
      exact z_iretI (v := v10) S M rfl dX10_opens_102 hf
  · refine z_iload_n S 0 dX10_opens_11 rfl rfl ?_
    exact z_iretI (v := q7) S M rfl dX10_opens_12 hf
theorem m_X10_opens (l : Launch) (E : Ev) (P : PH) (x0 : Nat) (x1 : Int32) (h_x0 : ok x0 8 0) (r : (Int32 × PH)) (hf : f_X10_opens P x0 x1 = some r) : CtI l E yX10_opens cX10_opens 5 (some .int) r_X10_opens [.ref (ad E x0), .int x1] P r.1 r.2 :=
  z_body (own := RX10) (by decide +kernel) rfl (Nat.le_of_ble_eq_true rfl) rfl (fun x _ S M => w_X10_opens S M P x0 x1 h_x0 r hf)
-- yX10_exchange
theorem dX10_exchange_0 : decode cX10_exchange 0 = .ok (.aload_n 0, 1) := by decide +kernel
theorem dX10_exchange_1 : decode cX10_exchange 1 = .ok (.invokevirtual 166, 3) := by decide +kernel
theorem dX10_exchange_4 : decode cX10_exchange 4 = .ok (.aload_n 0, 1) := by decide +kernel
theorem dX10_exchange_5 : decode cX10_exchange 5 = .ok (.invokevirtual 175, 3) := by decide +kernel
theorem dX10_exchange_8 : decode cX10_exchange 8 = .ok (.invokestatic 182, 3) := by decide +kernel
theorem dX10_exchange_11 : decode cX10_exchange 11 = .ok (.istore_n 1, 1) := by decide +kernel
theorem dX10_exchange_12 : decode cX10_exchange 12 = .ok (.bipush (-9), 2) := by decide +kernel
theorem dX10_exchange_14 : decode cX10_exchange 14 = .ok (.istore_n 2, 1) := by decide +kernel
theorem dX10_exchange_15 : decode cX10_exchange 15 = .ok (.iconst 0, 1) := by decide +kernel
theorem dX10_exchange_16 : decode cX10_exchange 16 = .ok (.istore_n 3, 1) := by decide +kernel
theorem dX10_exchange_17 : decode cX10_exchange 17 = .ok (.iload_n 3, 1) := by decide +kernel
theorem dX10_exchange_18 : decode cX10_exchange 18 = .ok (.aload_n 0, 1) := by decide +kernel
theorem dX10_exchange_19 : decode cX10_exchange 19 = .ok (.getfield 61, 3) := by decide +kernel
theorem dX10_exchange_22 : decode cX10_exchange 22 = .ok (.if_icmp .ge 89, 3) := by decide +kernel
theorem dX10_exchange_25 : decode cX10_exchange 25 = .ok (.iload_n 3, 1) := by decide +kernel
theorem dX10_exchange_26 : decode cX10_exchange 26 = .ok (.iconst 1, 1) := by decide +kernel
theorem dX10_exchange_27 : decode cX10_exchange 27 = .ok (.iadd, 1) := by decide +kernel
theorem dX10_exchange_28 : decode cX10_exchange 28 = .ok (.istore 4, 2) := by decide +kernel
theorem dX10_exchange_30 : decode cX10_exchange 30 = .ok (.iload 4, 2) := by decide +kernel
theorem dX10_exchange_32 : decode cX10_exchange 32 = .ok (.aload_n 0, 1) := by decide +kernel
theorem dX10_exchange_33 : decode cX10_exchange 33 = .ok (.getfield 61, 3) := by decide +kernel
theorem dX10_exchange_36 : decode cX10_exchange 36 = .ok (.if_icmp .ge 69, 3) := by decide +kernel
theorem dX10_exchange_39 : decode cX10_exchange 39 = .ok (.aload_n 0, 1) := by decide +kernel
theorem dX10_exchange_40 : decode cX10_exchange 40 = .ok (.invokevirtual 166, 3) := by decide +kernel
theorem dX10_exchange_43 : decode cX10_exchange 43 = .ok (.aload_n 0, 1) := by decide +kernel
theorem dX10_exchange_44 : decode cX10_exchange 44 = .ok (.getfield 50, 3) := by decide +kernel
theorem dX10_exchange_47 : decode cX10_exchange 47 = .ok (.bipush 8, 2) := by decide +kernel
theorem dX10_exchange_49 : decode cX10_exchange 49 = .ok (.iload_n 3, 1) := by decide +kernel
theorem dX10_exchange_50 : decode cX10_exchange 50 = .ok (.iadd, 1) := by decide +kernel
theorem dX10_exchange_51 : decode cX10_exchange 51 = .ok (.bipush 8, 2) := by decide +kernel
theorem dX10_exchange_53 : decode cX10_exchange 53 = .ok (.iload 4, 2) := by decide +kernel
theorem dX10_exchange_55 : decode cX10_exchange 55 = .ok (.iadd, 1) := by decide +kernel
theorem dX10_exchange_56 : decode cX10_exchange 56 = .ok (.invokestatic 185, 3) := by decide +kernel
theorem dX10_exchange_59 : decode cX10_exchange 59 = .ok (.aload_n 0, 1) := by decide +kernel
theorem dX10_exchange_60 : decode cX10_exchange 60 = .ok (.invokevirtual 175, 3) := by decide +kernel
theorem dX10_exchange_63 : decode cX10_exchange 63 = .ok (.invokestatic 182, 3) := by decide +kernel
theorem dX10_exchange_66 : decode cX10_exchange 66 = .ok (.istore 5, 2) := by decide +kernel
theorem dX10_exchange_68 : decode cX10_exchange 68 = .ok (.iload 5, 2) := by decide +kernel
theorem dX10_exchange_70 : decode cX10_exchange 70 = .ok (.iload_n 1, 1) := by decide +kernel
theorem dX10_exchange_71 : decode cX10_exchange 71 = .ok (.if_icmp .ge 13, 3) := by decide +kernel
theorem dX10_exchange_74 : decode cX10_exchange 74 = .ok (.bipush 10, 2) := by decide +kernel
theorem dX10_exchange_76 : decode cX10_exchange 76 = .ok (.iload_n 3, 1) := by decide +kernel
theorem dX10_exchange_77 : decode cX10_exchange 77 = .ok (.imul, 1) := by decide +kernel
theorem dX10_exchange_78 : decode cX10_exchange 78 = .ok (.iload 4, 2) := by decide +kernel
theorem dX10_exchange_80 : decode cX10_exchange 80 = .ok (.iadd, 1) := by decide +kernel
theorem dX10_exchange_81 : decode cX10_exchange 81 = .ok (.goto 4, 3) := by decide +kernel
theorem dX10_exchange_84 : decode cX10_exchange 84 = .ok (.iload_n 2, 1) := by decide +kernel
theorem dX10_exchange_85 : decode cX10_exchange 85 = .ok (.istore_n 2, 1) := by decide +kernel
theorem dX10_exchange_86 : decode cX10_exchange 86 = .ok (.iload 5, 2) := by decide +kernel
theorem dX10_exchange_88 : decode cX10_exchange 88 = .ok (.iload_n 1, 1) := by decide +kernel
theorem dX10_exchange_89 : decode cX10_exchange 89 = .ok (.if_icmp .ge 8, 3) := by decide +kernel
theorem dX10_exchange_92 : decode cX10_exchange 92 = .ok (.iload 5, 2) := by decide +kernel
theorem dX10_exchange_94 : decode cX10_exchange 94 = .ok (.goto 4, 3) := by decide +kernel
theorem dX10_exchange_97 : decode cX10_exchange 97 = .ok (.iload_n 1, 1) := by decide +kernel
theorem dX10_exchange_98 : decode cX10_exchange 98 = .ok (.istore_n 1, 1) := by decide +kernel
theorem dX10_exchange_99 : decode cX10_exchange 99 = .ok (.iinc 4 1, 3) := by decide +kernel
theorem dX10_exchange_102 : decode cX10_exchange 102 = .ok (.goto (-72), 3) := by decide +kernel
theorem dX10_exchange_105 : decode cX10_exchange 105 = .ok (.iinc 3 1, 3) := by decide +kernel
theorem dX10_exchange_108 : decode cX10_exchange 108 = .ok (.goto (-91), 3) := by decide +kernel
theorem dX10_exchange_111 : decode cX10_exchange 111 = .ok (.iload_n 2, 1) := by decide +kernel
theorem dX10_exchange_112 : decode cX10_exchange 112 = .ok (.ireturn, 1) := by decide +kernel
def r_X10_exchange : Room := { frames := 8, cells := 0, slots := 0, locals := 177 }
def f_X10_exchange_L30 (K : PH → Int32 → Int32 → Option (Int32 × PH)) (x0 : Nat) (x3 : Int32) : Nat → PH → Int32 → Int32 → Int32 → Option (Int32 × PH)
  | 0, _, _, _, _ => none
  | n + 1, P, x1, x2, x4 =>
    (if (P.1 x0 1) ≤ x4 then K P x1 x2 else ((f_X10_asItIs P x0).bind fun q1 => ((f_X10_swap 46 q1 (q1.2.2 x0 26) ((8 : Int32) + x3) ((8 : Int32) + x4)).bind fun q3 => ((f_X10_cutOff q3 x0).bind fun q4 => ((f_X10_bits q4.2 q4.1).bind fun q5 => (if x1 ≤ q5 then (if x1 ≤ q5 then f_X10_exchange_L30 K x0 x3 n q4.2 x1 x2 (x4 + (1 : Int32)) else f_X10_exchange_L30 K x0 x3 n q4.2 q5 x2 (x4 + (1 : Int32))) else (if x1 ≤ q5 then f_X10_exchange_L30 K x0 x3 n q4.2 x1 (((10 : Int32) * x3) + x4) (x4 + (1 : Int32)) else f_X10_exchange_L30 K x0 x3 n q4.2 q5 (((10 : Int32) * x3) + x4) (x4 + (1 : Int32)))))))))
theorem w_X10_exchange_L30 {x : Fx} {E : Ev} (S : ZS x E r_X10_exchange cX10_exchange 6 RX10 (some .int)) (M : ZM x E) {K : PH → Int32 → Int32 → Option (Int32 × PH)} (x0 : Nat) (x3 : Int32) (h_x0 : ok x0 8 0) (r : (Int32 × PH)) (hK : ∀ (P1 : PH) (y1 : Int32) (y2 : Int32), K P1 y1 y2 = some r → Wz x E 6 (QI E x r.1 r.2) P1 105 [(0, .ref (ad E x0)), (1, .int y1), (2, .int y2), (3, .int x3)] []) : ∀ (n : Nat) (P : PH) (x1 : Int32) (x2 : Int32) (x4 : Int32), f_X10_exchange_L30 K x0 x3 n P x1 x2 x4 = some r → Wz x E 6 (QI E x r.1 r.2) P 30 [(0, .ref (ad E x0)), (1, .int x1), (2, .int x2), (3, .int x3), (4, .int x4)] [] := by
  intro n
  induction n with
  | zero => intro P x1 x2 x4 hf; cases hf
  | succ n ih =>
    intro P x1 x2 x4 hf
    unfold f_X10_exchange_L30 at hf
    refine z_iload S 4 dX10_exchange_30 rfl ?_
    refine z_aload_n S 0 dX10_exchange_32 rfl rfl ?_
    refine z_getI S cf_8 h_x0 1 (by decide) rfl wd668 dX10_exchange_33 ?_
    refine z_icmp_ge (tgt := 105) S dX10_exchange_36 (by decide) hf (fun hf => ?_) (fun hf => ?_)
    · refine z_sub [0, 1, 2, 3] rfl ?_
      exact hK P x1 x2 hf
    · refine z_aload_n S 0 dX10_exchange_39 rfl rfl ?_
      refine z_callVV (rc := r_X10_asItIs) [] S mo_X10_asItIs wd819 wd17 wd817 h_x0 (by decide) cl_8 rfl rfl (by decide) (z_room0 S M (by rfl) (by rfl)) rfl (Nat.le_of_ble_eq_true rfl) rfl dX10_exchange_40  (fun q => q) (fun q hq => m_X10_asItIs (xl x) E _ _ h_x0 q hq) hf (fun q1 hf => ?_)
      refine z_aload_n S 0 dX10_exchange_43 rfl rfl ?_
      refine z_getR (K' := 9) (n' := 46) S cf_8 h_x0 26 (by decide) rfl rfl rfl wd693 dX10_exchange_44 (fun h2 => ?_)
      refine z_bipush (v := 8) S dX10_exchange_47 (by decide) ?_
      refine z_iload_n S 3 dX10_exchange_49 rfl rfl ?_
      refine z_iadd S dX10_exchange_50 ?_
      refine z_bipush (v := 8) S dX10_exchange_51 (by decide) ?_
      refine z_iload S 4 dX10_exchange_53 rfl ?_
      refine z_iadd S dX10_exchange_55 ?_
      refine z_callSV (rc := r_X10_swap) [.ref (ad E (q1.2.2 x0 26)), .int ((8 : Int32) + x3), .int ((8 : Int32) + x4)] S mo_X10_swap wd900 wd899 rfl rfl (by decide) (z_room0 S M (by rfl) (by rfl)) rfl (Nat.le_of_ble_eq_true rfl) rfl dX10_exchange_56  (fun q => q) (fun q hq => m_X10_swap (xl x) E _ _ _ _ _ h2 q hq) hf (fun q3 hf => ?_)
      refine z_aload_n S 0 dX10_exchange_59 rfl rfl ?_
      refine z_callVI (rc := r_X10_cutOff) [] S mo_X10_cutOff wd874 wd27 wd872 h_x0 (by decide) cl_8 rfl rfl (by decide) (z_room0 S M (by rfl) (by rfl)) rfl (Nat.le_of_ble_eq_true rfl) rfl dX10_exchange_60 (fun q => q.1) (fun q => q.2) (fun q hq => m_X10_cutOff (xl x) E _ _ h_x0 q hq) hf (fun q4 hf => ?_)
      refine z_callSI (rc := r_X10_bits) [.int q4.1] S mo_X10_bits wd889 wd888 rfl rfl (by decide) (z_room0 S M (by rfl) (by rfl)) rfl (Nat.le_of_ble_eq_true rfl) rfl dX10_exchange_63 (fun q => q) (fun _ => q4.2) (fun q hq => m_X10_bits (xl x) E _ _  q hq) hf (fun q5 hf => ?_)
      refine z_istore (lv' := [(5, .int q5), (0, .ref (ad E x0)), (1, .int x1), (2, .int x2), (3, .int x3), (4, .int x4)]) S dX10_exchange_66 (by decide) rfl ?_
      refine z_iload S 0 dX10_exchange_68 rfl ?_
      refine z_iload_n S 2 dX10_exchange_70 rfl rfl ?_
      refine z_icmp_ge (tgt := 84) S dX10_exchange_71 (by decide) hf (fun hf => ?_) (fun hf => ?_)
      · refine z_iload_n S 3 dX10_exchange_84 rfl rfl ?_
        refine z_istore_n (lv' := [(2, .int x2), (5, .int q5), (0, .ref (ad E x0)), (1, .int x1), (3, .int x3), (4, .int x4)]) S dX10_exchange_85 rfl (by decide) rfl ?_
        refine z_iload S 1 dX10_exchange_86 rfl ?_
        refine z_iload_n S 3 dX10_exchange_88 rfl rfl ?_
        refine z_icmp_ge (tgt := 97) S dX10_exchange_89 (by decide) hf (fun hf => ?_) (fun hf => ?_)
        · refine z_iload_n S 3 dX10_exchange_97 rfl rfl ?_
          refine z_istore_n (lv' := [(1, .int x1), (2, .int x2), (5, .int q5), (0, .ref (ad E x0)), (3, .int x3), (4, .int x4)]) S dX10_exchange_98 rfl (by decide) rfl ?_
          refine z_iinc (v := (x4 + (1 : Int32))) (lv' := [(4, .int (x4 + (1 : Int32))), (1, .int x1), (2, .int x2), (5, .int q5), (0, .ref (ad E x0)), (3, .int x3)]) S 5 dX10_exchange_99 rfl (by rfl) (by decide) rfl ?_
          refine z_goto (tgt := 30) S dX10_exchange_102 (by decide) ?_
          refine z_sub [4, 1, 2, 5, 0] rfl ?_
          exact ih q4.2 x1 x2 (x4 + (1 : Int32)) hf
        · refine z_iload S 1 dX10_exchange_92 rfl ?_
          refine z_goto (tgt := 98) S dX10_exchange_94 (by decide) ?_
          refine z_istore_n (lv' := [(1, .int q5), (2, .int x2), (5, .int q5), (0, .ref (ad E x0)), (3, .int x3), (4, .int x4)]) S dX10_exchange_98 rfl (by decide) rfl ?_
          refine z_iinc (v := (x4 + (1 : Int32))) (lv' := [(4, .int (x4 + (1 : Int32))), (1, .int q5), (2, .int x2), (5, .int q5), (0, .ref (ad E x0)), (3, .int x3)]) S 5 dX10_exchange_99 rfl (by rfl) (by decide) rfl ?_
          refine z_goto (tgt := 30) S dX10_exchange_102 (by decide) ?_
          refine z_sub [4, 1, 2, 5, 0] rfl ?_
          exact ih q4.2 q5 x2 (x4 + (1 : Int32)) hf
      · refine z_bipush (v := 10) S dX10_exchange_74 (by decide) ?_
        refine z_iload_n S 4 dX10_exchange_76 rfl rfl ?_
        refine z_imul S dX10_exchange_77 ?_
        refine z_iload S 5 dX10_exchange_78 rfl ?_
        refine z_iadd S dX10_exchange_80 ?_
        refine z_goto (tgt := 85) S dX10_exchange_81 (by decide) ?_
        refine z_istore_n (lv' := [(2, .int (((10 : Int32) * x3) + x4)), (5, .int q5), (0, .ref (ad E x0)), (1, .int x1), (3, .int x3), (4, .int x4)]) S dX10_exchange_85 rfl (by decide) rfl ?_
        refine z_iload S 1 dX10_exchange_86 rfl ?_
        refine z_iload_n S 3 dX10_exchange_88 rfl rfl ?_
        refine z_icmp_ge (tgt := 97) S dX10_exchange_89 (by decide) hf (fun hf => ?_) (fun hf => ?_)
        · refine z_iload_n S 3 dX10_exchange_97 rfl rfl ?_
          refine z_istore_n (lv' := [(1, .int x1), (2, .int (((10 : Int32) * x3) + x4)), (5, .int q5), (0, .ref (ad E x0)), (3, .int x3), (4, .int x4)]) S dX10_exchange_98 rfl (by decide) rfl ?_
          refine z_iinc (v := (x4 + (1 : Int32))) (lv' := [(4, .int (x4 + (1 : Int32))), (1, .int x1), (2, .int (((10 : Int32) * x3) + x4)), (5, .int q5), (0, .ref (ad E x0)), (3, .int x3)]) S 5 dX10_exchange_99 rfl (by rfl) (by decide) rfl ?_
          refine z_goto (tgt := 30) S dX10_exchange_102 (by decide) ?_
          refine z_sub [4, 1, 2, 5, 0] rfl ?_
          exact ih q4.2 x1 (((10 : Int32) * x3) + x4) (x4 + (1 : Int32)) hf
        · refine z_iload S 1 dX10_exchange_92 rfl ?_
          refine z_goto (tgt := 98) S dX10_exchange_94 (by decide) ?_
          refine z_istore_n (lv' := [(1, .int q5), (2, .int (((10 : Int32) * x3) + x4)), (5, .int q5), (0, .ref (ad E x0)), (3, .int x3), (4, .int x4)]) S dX10_exchange_98 rfl (by decide) rfl ?_
          refine z_iinc (v := (x4 + (1 : Int32))) (lv' := [(4, .int (x4 + (1 : Int32))), (1, .int q5), (2, .int (((10 : Int32) * x3) + x4)), (5, .int q5), (0, .ref (ad E x0)), (3, .int x3)]) S 5 dX10_exchange_99 rfl (by rfl) (by decide) rfl ?_
          refine z_goto (tgt := 30) S dX10_exchange_102 (by decide) ?_
          refine z_sub [4, 1, 2, 5, 0] rfl ?_
          exact ih q4.2 q5 (((10 : Int32) * x3) + x4) (x4 + (1 : Int32)) hf
def f_X10_exchange_L17 (K : PH → Int32 → Option (Int32 × PH)) (x0 : Nat) : Nat → PH → Int32 → Int32 → Int32 → Option (Int32 × PH)
  | 0, _, _, _, _ => none
  | n + 1, P, x1, x2, x3 =>
    (if (P.1 x0 1) ≤ x3 then K P x2 else f_X10_exchange_L30 (fun P8 v6 v7 => f_X10_exchange_L17 K x0 n P8 v6 v7 (x3 + (1 : Int32))) x0 x3 1000 P x1 x2 (x3 + (1 : Int32)))
theorem w_X10_exchange_L17 {x : Fx} {E : Ev} (S : ZS x E r_X10_exchange cX10_exchange 6 RX10 (some .int)) (M : ZM x E) {K : PH → Int32 → Option (Int32 × PH)} (x0 : Nat) (h_x0 : ok x0 8 0) (r : (Int32 × PH)) (hK : ∀ (P1 : PH) (y2 : Int32), K P1 y2 = some r → Wz x E 6 (QI E x r.1 r.2) P1 111 [(2, .int y2)] []) : ∀ (n : Nat) (P : PH) (x1 : Int32) (x2 : Int32) (x3 : Int32), f_X10_exchange_L17 K x0 n P x1 x2 x3 = some r → Wz x E 6 (QI E x r.1 r.2) P 17 [(0, .ref (ad E x0)), (1, .int x1), (2, .int x2), (3, .int x3)] [] := by
  intro n
  induction n with
  | zero => intro P x1 x2 x3 hf; cases hf
  | succ n ih =>
    intro P x1 x2 x3 hf
    unfold f_X10_exchange_L17 at hf
    refine z_iload_n S 3 dX10_exchange_17 rfl rfl ?_
    refine z_aload_n S 0 dX10_exchange_18 rfl rfl ?_
    refine z_getI S cf_8 h_x0 1 (by decide) rfl wd668 dX10_exchange_19 ?_
    refine z_icmp_ge (tgt := 111) S dX10_exchange_22 (by decide) hf (fun hf => ?_) (fun hf => ?_)
    · refine z_sub [2] rfl ?_
      exact hK P x2 hf
    · refine z_iload_n S 3 dX10_exchange_25 rfl rfl ?_
      refine z_iconst (v := 1) S dX10_exchange_26 (by decide) ?_
      refine z_iadd S dX10_exchange_27 ?_
      refine z_istore (lv' := [(4, .int (x3 + (1 : Int32))), (0, .ref (ad E x0)), (1, .int x1), (2, .int x2), (3, .int x3)]) S dX10_exchange_28 (by decide) rfl ?_
      refine z_sub [1, 2, 3, 4, 0] rfl ?_
      refine w_X10_exchange_L30 S M x0 x3 h_x0 r (fun P8 v6 v7 hf => ?_) 1000 P x1 x2 (x3 + (1 : Int32)) hf
      refine z_iinc (v := (x3 + (1 : Int32))) (lv' := [(3, .int (x3 + (1 : Int32))), (0, .ref (ad E x0)), (1, .int v6), (2, .int v7)]) S 3 dX10_exchange_105 rfl (by rfl) (by decide) rfl ?_
      refine z_goto (tgt := 17) S dX10_exchange_108 (by decide) ?_
      refine z_sub [1, 2, 3, 0] rfl ?_
      exact ih P8 v6 v7 (x3 + (1 : Int32)) hf
def f_X10_exchange (P : PH) (x0 : Nat) : Option (Int32 × PH) :=
  ((f_X10_asItIs P x0).bind fun q9 => ((f_X10_cutOff q9 x0).bind fun q10 => ((f_X10_bits q10.2 q10.1).bind fun q11 => f_X10_exchange_L17 (fun P13 v12 => some (v12, P13)) x0 1000 q10.2 q11 (-9 : Int32) (0 : Int32))))
theorem w_X10_exchange {x : Fx} {E : Ev} (S : ZS x E r_X10_exchange cX10_exchange 6 RX10 (some .int)) (M : ZM x E) (P : PH) (x0 : Nat) (h_x0 : ok x0 8 0) (r : (Int32 × PH)) (hf : f_X10_exchange P x0 = some r) : Wz x E 6 (QI E x r.1 r.2) P 0 [(0, .ref (ad E x0))] [] := by
  unfold f_X10_exchange at hf
  refine z_aload_n S 0 dX10_exchange_0 rfl rfl ?_
  refine z_callVV (rc := r_X10_asItIs) [] S mo_X10_asItIs wd819 wd17 wd817 h_x0 (by decide) cl_8 rfl rfl (by decide) (z_room0 S M (by rfl) (by rfl)) rfl (Nat.le_of_ble_eq_true rfl) rfl dX10_exchange_1  (fun q => q) (fun q hq => m_X10_asItIs (xl x) E _ _ h_x0 q hq) hf (fun q9 hf => ?_)
  refine z_aload_n S 0 dX10_exchange_4 rfl rfl ?_
  refine z_callVI (rc := r_X10_cutOff) [] S mo_X10_cutOff wd874 wd27 wd872 h_x0 (by decide) cl_8 rfl rfl (by decide) (z_room0 S M (by rfl) (by rfl)) rfl (Nat.le_of_ble_eq_true rfl) rfl dX10_exchange_5 (fun q => q.1) (fun q => q.2) (fun q hq => m_X10_cutOff (xl x) E _ _ h_x0 q hq) hf (fun q10 hf => ?_)
  refine z_callSI (rc := r_X10_bits) [.int q10.1] S mo_X10_bits wd889 wd888 rfl rfl (by decide) (z_room0 S M (by rfl) (by rfl)) rfl (Nat.le_of_ble_eq_true rfl) rfl dX10_exchange_8 (fun q => q) (fun _ => q10.2) (fun q hq => m_X10_bits (xl x) E _ _  q hq) hf (fun q11 hf => ?_)
  refine z_istore_n (lv' := [(1, .int q11), (0, .ref (ad E x0))]) S dX10_exchange_11 rfl (by decide) rfl ?_
  refine z_bipush (v := (-9 : Int32)) S dX10_exchange_12 (by decide) ?_
  refine z_istore_n (lv' := [(2, .int (-9 : Int32)), (1, .int q11), (0, .ref (ad E x0))]) S dX10_exchange_14 rfl (by decide) rfl ?_
  refine z_iconst (v := 0) S dX10_exchange_15 (by decide) ?_
  refine z_istore_n (lv' := [(3, .int (0 : Int32)), (2, .int (-9 : Int32)), (1, .int q11), (0, .ref (ad E x0))]) S dX10_exchange_16 rfl (by decide) rfl ?_
  refine z_sub [3, 2, 1, 0] rfl ?_
  refine w_X10_exchange_L17 S M x0 h_x0 r (fun P13 v12 hf => ?_) 1000 q10.2 q11 (-9 : Int32) (0 : Int32) hf
  refine z_iload_n S 0 dX10_exchange_111 rfl rfl ?_
  exact z_iretI (v := v12) S M rfl dX10_exchange_112 hf
theorem m_X10_exchange (l : Launch) (E : Ev) (P : PH) (x0 : Nat) (h_x0 : ok x0 8 0) (r : (Int32 × PH)) (hf : f_X10_exchange P x0 = some r) : CtI l E yX10_exchange cX10_exchange 6 (some .int) r_X10_exchange [.ref (ad E x0)] P r.1 r.2 :=
  z_body (own := RX10) (by decide +kernel) rfl (Nat.le_of_ble_eq_true rfl) rfl (fun x _ S M => w_X10_exchange S M P x0 h_x0 r hf)
-- yX10_holdsOut
theorem dX10_holdsOut_0 : decode cX10_holdsOut 0 = .ok (.aload_n 0, 1) := by decide +kernel
theorem dX10_holdsOut_1 : decode cX10_holdsOut 1 = .ok (.invokevirtual 166, 3) := by decide +kernel
theorem dX10_holdsOut_4 : decode cX10_holdsOut 4 = .ok (.aload_n 0, 1) := by decide +kernel
theorem dX10_holdsOut_5 : decode cX10_holdsOut 5 = .ok (.invokevirtual 175, 3) := by decide +kernel
theorem dX10_holdsOut_8 : decode cX10_holdsOut 8 = .ok (.invokestatic 182, 3) := by decide +kernel
theorem dX10_holdsOut_11 : decode cX10_holdsOut 11 = .ok (.istore_n 1, 1) := by decide +kernel
theorem dX10_holdsOut_12 : decode cX10_holdsOut 12 = .ok (.iconst 0, 1) := by decide +kernel
theorem dX10_holdsOut_13 : decode cX10_holdsOut 13 = .ok (.istore_n 2, 1) := by decide +kernel
theorem dX10_holdsOut_14 : decode cX10_holdsOut 14 = .ok (.iconst 0, 1) := by decide +kernel
theorem dX10_holdsOut_15 : decode cX10_holdsOut 15 = .ok (.istore_n 3, 1) := by decide +kernel
theorem dX10_holdsOut_16 : decode cX10_holdsOut 16 = .ok (.iload_n 3, 1) := by decide +kernel
theorem dX10_holdsOut_17 : decode cX10_holdsOut 17 = .ok (.aload_n 0, 1) := by decide +kernel
theorem dX10_holdsOut_18 : decode cX10_holdsOut 18 = .ok (.getfield 61, 3) := by decide +kernel
theorem dX10_holdsOut_21 : decode cX10_holdsOut 21 = .ok (.if_icmp .ge 99, 3) := by decide +kernel
theorem dX10_holdsOut_24 : decode cX10_holdsOut 24 = .ok (.aload_n 0, 1) := by decide +kernel
theorem dX10_holdsOut_25 : decode cX10_holdsOut 25 = .ok (.invokevirtual 166, 3) := by decide +kernel
theorem dX10_holdsOut_28 : decode cX10_holdsOut 28 = .ok (.iconst 0, 1) := by decide +kernel
theorem dX10_holdsOut_29 : decode cX10_holdsOut 29 = .ok (.istore 4, 2) := by decide +kernel
theorem dX10_holdsOut_31 : decode cX10_holdsOut 31 = .ok (.iload 4, 2) := by decide +kernel
theorem dX10_holdsOut_33 : decode cX10_holdsOut 33 = .ok (.aload_n 0, 1) := by decide +kernel
theorem dX10_holdsOut_34 : decode cX10_holdsOut 34 = .ok (.getfield 50, 3) := by decide +kernel
theorem dX10_holdsOut_37 : decode cX10_holdsOut 37 = .ok (.bipush 15, 2) := by decide +kernel
theorem dX10_holdsOut_39 : decode cX10_holdsOut 39 = .ok (.iaload, 1) := by decide +kernel
theorem dX10_holdsOut_40 : decode cX10_holdsOut 40 = .ok (.if_icmp .ge 53, 3) := by decide +kernel
theorem dX10_holdsOut_43 : decode cX10_holdsOut 43 = .ok (.bipush 16, 2) := by decide +kernel
theorem dX10_holdsOut_45 : decode cX10_holdsOut 45 = .ok (.iconst 3, 1) := by decide +kernel
theorem dX10_holdsOut_46 : decode cX10_holdsOut 46 = .ok (.iload 4, 2) := by decide +kernel
theorem dX10_holdsOut_48 : decode cX10_holdsOut 48 = .ok (.imul, 1) := by decide +kernel
theorem dX10_holdsOut_49 : decode cX10_holdsOut 49 = .ok (.iadd, 1) := by decide +kernel
theorem dX10_holdsOut_50 : decode cX10_holdsOut 50 = .ok (.istore 5, 2) := by decide +kernel
theorem dX10_holdsOut_52 : decode cX10_holdsOut 52 = .ok (.aload_n 0, 1) := by decide +kernel
theorem dX10_holdsOut_53 : decode cX10_holdsOut 53 = .ok (.getfield 50, 3) := by decide +kernel
theorem dX10_holdsOut_56 : decode cX10_holdsOut 56 = .ok (.iload 5, 2) := by decide +kernel
theorem dX10_holdsOut_58 : decode cX10_holdsOut 58 = .ok (.iconst 2, 1) := by decide +kernel
theorem dX10_holdsOut_59 : decode cX10_holdsOut 59 = .ok (.iadd, 1) := by decide +kernel
theorem dX10_holdsOut_60 : decode cX10_holdsOut 60 = .ok (.aload_n 0, 1) := by decide +kernel
theorem dX10_holdsOut_61 : decode cX10_holdsOut 61 = .ok (.getfield 50, 3) := by decide +kernel
theorem dX10_holdsOut_64 : decode cX10_holdsOut 64 = .ok (.iload 5, 2) := by decide +kernel
theorem dX10_holdsOut_66 : decode cX10_holdsOut 66 = .ok (.iconst 1, 1) := by decide +kernel
theorem dX10_holdsOut_67 : decode cX10_holdsOut 67 = .ok (.iadd, 1) := by decide +kernel
theorem dX10_holdsOut_68 : decode cX10_holdsOut 68 = .ok (.iaload, 1) := by decide +kernel
theorem dX10_holdsOut_69 : decode cX10_holdsOut 69 = .ok (.iload_n 3, 1) := by decide +kernel
theorem dX10_holdsOut_70 : decode cX10_holdsOut 70 = .ok (.if_icmp .ne 7, 3) := by decide +kernel
theorem dX10_holdsOut_73 : decode cX10_holdsOut 73 = .ok (.iconst (-1), 1) := by decide +kernel
theorem dX10_holdsOut_74 : decode cX10_holdsOut 74 = .ok (.goto 12, 3) := by decide +kernel
theorem dX10_holdsOut_77 : decode cX10_holdsOut 77 = .ok (.aload_n 0, 1) := by decide +kernel
theorem dX10_holdsOut_78 : decode cX10_holdsOut 78 = .ok (.getfield 50, 3) := by decide +kernel
theorem dX10_holdsOut_81 : decode cX10_holdsOut 81 = .ok (.iload 5, 2) := by decide +kernel
theorem dX10_holdsOut_83 : decode cX10_holdsOut 83 = .ok (.iconst 2, 1) := by decide +kernel
theorem dX10_holdsOut_84 : decode cX10_holdsOut 84 = .ok (.iadd, 1) := by decide +kernel
theorem dX10_holdsOut_85 : decode cX10_holdsOut 85 = .ok (.iaload, 1) := by decide +kernel
theorem dX10_holdsOut_86 : decode cX10_holdsOut 86 = .ok (.iastore, 1) := by decide +kernel
theorem dX10_holdsOut_87 : decode cX10_holdsOut 87 = .ok (.iinc 4 1, 3) := by decide +kernel
theorem dX10_holdsOut_90 : decode cX10_holdsOut 90 = .ok (.goto (-59), 3) := by decide +kernel
theorem dX10_holdsOut_93 : decode cX10_holdsOut 93 = .ok (.iload_n 2, 1) := by decide +kernel
theorem dX10_holdsOut_94 : decode cX10_holdsOut 94 = .ok (.aload_n 0, 1) := by decide +kernel
theorem dX10_holdsOut_95 : decode cX10_holdsOut 95 = .ok (.invokevirtual 175, 3) := by decide +kernel
theorem dX10_holdsOut_98 : decode cX10_holdsOut 98 = .ok (.invokestatic 182, 3) := by decide +kernel
theorem dX10_holdsOut_101 : decode cX10_holdsOut 101 = .ok (.iload_n 1, 1) := by decide +kernel
theorem dX10_holdsOut_102 : decode cX10_holdsOut 102 = .ok (.if_icmp .le 9, 3) := by decide +kernel
theorem dX10_holdsOut_105 : decode cX10_holdsOut 105 = .ok (.iconst 1, 1) := by decide +kernel
theorem dX10_holdsOut_106 : decode cX10_holdsOut 106 = .ok (.iload_n 3, 1) := by decide +kernel
theorem dX10_holdsOut_107 : decode cX10_holdsOut 107 = .ok (.ishl, 1) := by decide +kernel
theorem dX10_holdsOut_108 : decode cX10_holdsOut 108 = .ok (.goto 4, 3) := by decide +kernel
theorem dX10_holdsOut_111 : decode cX10_holdsOut 111 = .ok (.iconst 0, 1) := by decide +kernel
theorem dX10_holdsOut_112 : decode cX10_holdsOut 112 = .ok (.ior, 1) := by decide +kernel
theorem dX10_holdsOut_113 : decode cX10_holdsOut 113 = .ok (.istore_n 2, 1) := by decide +kernel
theorem dX10_holdsOut_114 : decode cX10_holdsOut 114 = .ok (.iinc 3 1, 3) := by decide +kernel
theorem dX10_holdsOut_117 : decode cX10_holdsOut 117 = .ok (.goto (-101), 3) := by decide +kernel
theorem dX10_holdsOut_120 : decode cX10_holdsOut 120 = .ok (.iload_n 2, 1) := by decide +kernel
theorem dX10_holdsOut_121 : decode cX10_holdsOut 121 = .ok (.ireturn, 1) := by decide +kernel
def r_X10_holdsOut : Room := { frames := 8, cells := 0, slots := 0, locals := 177 }
def f_X10_holdsOut_L31 (K : PH → Option (Int32 × PH)) (x0 : Nat) (x1 : Int32) (x2 : Int32) (x3 : Int32) : Nat → PH → Int32 → Option (Int32 × PH)
  | 0, _, _ => none
  | n + 1, P, x4 =>
    (if ((15 : Int32) < 0 ∨ 46 ≤ (15 : Int32).toNatClampNeg) then none else (if (P.1 (P.2.2 x0 26) (15 : Int32).toNatClampNeg) ≤ x4 then K P else (if ((((16 : Int32) + ((3 : Int32) * x4)) + (1 : Int32)) < 0 ∨ 46 ≤ (((16 : Int32) + ((3 : Int32) * x4)) + (1 : Int32)).toNatClampNeg) then none else (if (P.1 (P.2.2 x0 26) (((16 : Int32) + ((3 : Int32) * x4)) + (1 : Int32)).toNatClampNeg) = x3 then (if ((((16 : Int32) + ((3 : Int32) * x4)) + (2 : Int32)) < 0 ∨ 46 ≤ (((16 : Int32) + ((3 : Int32) * x4)) + (2 : Int32)).toNatClampNeg) then none else ((some (sI P (P.2.2 x0 26) (((16 : Int32) + ((3 : Int32) * x4)) + (2 : Int32)).toNatClampNeg (-1 : Int32))).bind fun P4 => f_X10_holdsOut_L31 K x0 x1 x2 x3 n P4 (x4 + (1 : Int32)))) else (if ((((16 : Int32) + ((3 : Int32) * x4)) + (2 : Int32)) < 0 ∨ 46 ≤ (((16 : Int32) + ((3 : Int32) * x4)) + (2 : Int32)).toNatClampNeg) then none else (if ((((16 : Int32) + ((3 : Int32) * x4)) + (2 : Int32)) < 0 ∨ 46 ≤ (((16 : Int32) + ((3 : Int32) * x4)) + (2 : Int32)).toNatClampNeg) then none else ((some (sI P (P.2.2 x0 26) (((16 : Int32) + ((3 : Int32) * x4)) + (2 : Int32)).toNatClampNeg (P.1 (P.2.2 x0 26) (((16 : Int32) + ((3 : Int32) * x4)) + (2 : Int32)).toNatClampNeg))).bind fun P6 => f_X10_holdsOut_L31 K x0 x1 x2 x3 n P6 (x4 + (1 : Int32)))))))))
theorem w_X10_holdsOut_L31 {x : Fx} {E : Ev} (S : ZS x E r_X10_holdsOut cX10_holdsOut 6 RX10 (some .int)) (M : ZM x E) {K : PH → Option (Int32 × PH)} (x0 : Nat) (x1 : Int32) (x2 : Int32) (x3 : Int32) (h_x0 : ok x0 8 0) (r : (Int32 × PH)) (hK : ∀ (P1 : PH) , K P1 = some r → Wz x E 6 (QI E x r.1 r.2) P1 93 [(0, .ref (ad E x0)), (1, .int x1), (2, .int x2), (3, .int x3)] []) : ∀ (n : Nat) (P : PH) (x4 : Int32), f_X10_holdsOut_L31 K x0 x1 x2 x3 n P x4 = some r → Wz x E 6 (QI E x r.1 r.2) P 31 [(0, .ref (ad E x0)), (1, .int x1), (2, .int x2), (3, .int x3), (4, .int x4)] [] := by
  intro n
  induction n with
  | zero => intro P x4 hf; cases hf
  | succ n ih =>
    intro P x4 hf
    unfold f_X10_holdsOut_L31 at hf
    refine z_iload S 4 dX10_holdsOut_31 rfl ?_
    refine z_aload_n S 0 dX10_holdsOut_33 rfl rfl ?_
    refine z_getR (K' := 9) (n' := 46) S cf_8 h_x0 26 (by decide) rfl rfl rfl wd693 dX10_holdsOut_34 (fun h1 => ?_)
    refine z_bipush (v := 15) S dX10_holdsOut_37 (by decide) ?_
    refine z_iald S h1 dX10_holdsOut_39 hf (fun hf => ?_)
    refine z_icmp_ge (tgt := 93) S dX10_holdsOut_40 (by decide) hf (fun hf => ?_) (fun hf => ?_)
    · refine z_sub [0, 1, 2, 3] rfl ?_
      exact hK P hf
    · refine z_bipush (v := 16) S dX10_holdsOut_43 (by decide) ?_
      refine z_iconst (v := 3) S dX10_holdsOut_45 (by decide) ?_
      refine z_iload S 4 dX10_holdsOut_46 rfl ?_
      refine z_imul S dX10_holdsOut_48 ?_
      refine z_iadd S dX10_holdsOut_49 ?_
      refine z_istore (lv' := [(5, .int ((16 : Int32) + ((3 : Int32) * x4))), (0, .ref (ad E x0)), (1, .int x1), (2, .int x2), (3, .int x3), (4, .int x4)]) S dX10_holdsOut_50 (by decide) rfl ?_
      refine z_aload_n S 1 dX10_holdsOut_52 rfl rfl ?_
      refine z_getR (K' := 9) (n' := 46) S cf_8 h_x0 26 (by decide) rfl rfl rfl wd693 dX10_holdsOut_53 (fun h2 => ?_)
      refine z_iload S 0 dX10_holdsOut_56 rfl ?_
      refine z_iconst (v := 2) S dX10_holdsOut_58 (by decide) ?_
      refine z_iadd S dX10_holdsOut_59 ?_
      refine z_aload_n S 1 dX10_holdsOut_60 rfl rfl ?_
      refine z_getR (K' := 9) (n' := 46) S cf_8 h_x0 26 (by decide) rfl rfl rfl wd693 dX10_holdsOut_61 (fun h3 => ?_)
      refine z_iload S 0 dX10_holdsOut_64 rfl ?_
      refine z_iconst (v := 1) S dX10_holdsOut_66 (by decide) ?_
      refine z_iadd S dX10_holdsOut_67 ?_
      refine z_iald S h3 dX10_holdsOut_68 hf (fun hf => ?_)
      refine z_iload_n S 4 dX10_holdsOut_69 rfl rfl ?_
      refine z_icmp_ne (tgt := 77) S dX10_holdsOut_70 (by decide) hf (fun hf => ?_) (fun hf => ?_)
      · refine z_iconst (v := (-1 : Int32)) S dX10_holdsOut_73 (by decide) ?_
        refine z_goto (tgt := 86) S dX10_holdsOut_74 (by decide) ?_
        refine z_iast S h2 dX10_holdsOut_86 hf (fun hf => ?_)
        refine z_nmP hf (fun P4 hf => ?_)
        refine z_iinc (v := (x4 + (1 : Int32))) (lv' := [(4, .int (x4 + (1 : Int32))), (5, .int ((16 : Int32) + ((3 : Int32) * x4))), (0, .ref (ad E x0)), (1, .int x1), (2, .int x2), (3, .int x3)]) S 5 dX10_holdsOut_87 rfl (by rfl) (by decide) rfl ?_
        refine z_goto (tgt := 31) S dX10_holdsOut_90 (by decide) ?_
        refine z_sub [2, 3, 4, 5, 0] rfl ?_
        exact ih P4 (x4 + (1 : Int32)) hf
      · refine z_aload_n S 1 dX10_holdsOut_77 rfl rfl ?_
        refine z_getR (K' := 9) (n' := 46) S cf_8 h_x0 26 (by decide) rfl rfl rfl wd693 dX10_holdsOut_78 (fun h5 => ?_)
        refine z_iload S 0 dX10_holdsOut_81 rfl ?_
        refine z_iconst (v := 2) S dX10_holdsOut_83 (by decide) ?_
        refine z_iadd S dX10_holdsOut_84 ?_
        refine z_iald S h5 dX10_holdsOut_85 hf (fun hf => ?_)
        refine z_iast S h2 dX10_holdsOut_86 hf (fun hf => ?_)
        refine z_nmP hf (fun P6 hf => ?_)
        refine z_iinc (v := (x4 + (1 : Int32))) (lv' := [(4, .int (x4 + (1 : Int32))), (5, .int ((16 : Int32) + ((3 : Int32) * x4))), (0, .ref (ad E x0)), (1, .int x1), (2, .int x2), (3, .int x3)]) S 5 dX10_holdsOut_87 rfl (by rfl) (by decide) rfl ?_
        refine z_goto (tgt := 31) S dX10_holdsOut_90 (by decide) ?_
        refine z_sub [2, 3, 4, 5, 0] rfl ?_
        exact ih P6 (x4 + (1 : Int32)) hf
def f_X10_holdsOut_L16 (K : PH → Int32 → Option (Int32 × PH)) (x0 : Nat) (x1 : Int32) : Nat → PH → Int32 → Int32 → Option (Int32 × PH)
  | 0, _, _, _ => none
  | n + 1, P, x2, x3 =>
    (if (P.1 x0 1) ≤ x3 then K P x2 else ((f_X10_asItIs P x0).bind fun q7 => f_X10_holdsOut_L31 (fun P8 => ((f_X10_cutOff P8 x0).bind fun q9 => ((f_X10_bits q9.2 q9.1).bind fun q10 => (if q10 ≤ x1 then f_X10_holdsOut_L16 K x0 x1 n q9.2 (x2 ||| (0 : Int32)) (x3 + (1 : Int32)) else f_X10_holdsOut_L16 K x0 x1 n q9.2 (x2 ||| ((1 : Int32) <<< (x3 &&& 31))) (x3 + (1 : Int32)))))) x0 x1 x2 x3 1000 q7 (0 : Int32)))
theorem w_X10_holdsOut_L16 {x : Fx} {E : Ev} (S : ZS x E r_X10_holdsOut cX10_holdsOut 6 RX10 (some .int)) (M : ZM x E) {K : PH → Int32 → Option (Int32 × PH)} (x0 : Nat) (x1 : Int32) (h_x0 : ok x0 8 0) (r : (Int32 × PH)) (hK : ∀ (P1 : PH) (y2 : Int32), K P1 y2 = some r → Wz x E 6 (QI E x r.1 r.2) P1 120 [(2, .int y2)] []) : ∀ (n : Nat) (P : PH) (x2 : Int32) (x3 : Int32), f_X10_holdsOut_L16 K x0 x1 n P x2 x3 = some r → Wz x E 6 (QI E x r.1 r.2) P 16 [(0, .ref (ad E x0)), (1, .int x1), (2, .int x2), (3, .int x3)] [] := by
  intro n
  induction n with
  | zero => intro P x2 x3 hf; cases hf
  | succ n ih =>
    intro P x2 x3 hf
    unfold f_X10_holdsOut_L16 at hf
    refine z_iload_n S 3 dX10_holdsOut_16 rfl rfl ?_
    refine z_aload_n S 0 dX10_holdsOut_17 rfl rfl ?_
    refine z_getI S cf_8 h_x0 1 (by decide) rfl wd668 dX10_holdsOut_18 ?_
    refine z_icmp_ge (tgt := 120) S dX10_holdsOut_21 (by decide) hf (fun hf => ?_) (fun hf => ?_)
    · refine z_sub [2] rfl ?_
      exact hK P x2 hf
    · refine z_aload_n S 0 dX10_holdsOut_24 rfl rfl ?_
      refine z_callVV (rc := r_X10_asItIs) [] S mo_X10_asItIs wd819 wd17 wd817 h_x0 (by decide) cl_8 rfl rfl (by decide) (z_room0 S M (by rfl) (by rfl)) rfl (Nat.le_of_ble_eq_true rfl) rfl dX10_holdsOut_25  (fun q => q) (fun q hq => m_X10_asItIs (xl x) E _ _ h_x0 q hq) hf (fun q7 hf => ?_)
      refine z_iconst (v := 0) S dX10_holdsOut_28 (by decide) ?_
      refine z_istore (lv' := [(4, .int (0 : Int32)), (0, .ref (ad E x0)), (1, .int x1), (2, .int x2), (3, .int x3)]) S dX10_holdsOut_29 (by decide) rfl ?_
      refine z_sub [1, 2, 3, 4, 0] rfl ?_
      refine w_X10_holdsOut_L31 S M x0 x1 x2 x3 h_x0 r (fun P8 hf => ?_) 1000 q7 (0 : Int32) hf
      refine z_iload_n S 2 dX10_holdsOut_93 rfl rfl ?_
      refine z_aload_n S 0 dX10_holdsOut_94 rfl rfl ?_
      refine z_callVI (rc := r_X10_cutOff) [] S mo_X10_cutOff wd874 wd27 wd872 h_x0 (by decide) cl_8 rfl rfl (by decide) (z_room0 S M (by rfl) (by rfl)) rfl (Nat.le_of_ble_eq_true rfl) rfl dX10_holdsOut_95 (fun q => q.1) (fun q => q.2) (fun q hq => m_X10_cutOff (xl x) E _ _ h_x0 q hq) hf (fun q9 hf => ?_)
      refine z_callSI (rc := r_X10_bits) [.int q9.1] S mo_X10_bits wd889 wd888 rfl rfl (by decide) (z_room0 S M (by rfl) (by rfl)) rfl (Nat.le_of_ble_eq_true rfl) rfl dX10_holdsOut_98 (fun q => q) (fun _ => q9.2) (fun q hq => m_X10_bits (xl x) E _ _  q hq) hf (fun q10 hf => ?_)
      refine z_iload_n S 1 dX10_holdsOut_101 rfl rfl ?_
      refine z_icmp_le (tgt := 111) S dX10_holdsOut_102 (by decide) hf (fun hf => ?_) (fun hf => ?_)
      · refine z_iconst (v := 0) S dX10_holdsOut_111 (by decide) ?_
        refine z_ior S dX10_holdsOut_112 ?_
        refine z_istore_n (lv' := [(2, .int (x2 ||| (0 : Int32))), (0, .ref (ad E x0)), (1, .int x1), (3, .int x3)]) S dX10_holdsOut_113 rfl (by decide) rfl ?_
        refine z_iinc (v := (x3 + (1 : Int32))) (lv' := [(3, .int (x3 + (1 : Int32))), (2, .int (x2 ||| (0 : Int32))), (0, .ref (ad E x0)), (1, .int x1)]) S 3 dX10_holdsOut_114 rfl (by rfl) (by decide) rfl ?_
        refine z_goto (tgt := 16) S dX10_holdsOut_117 (by decide) ?_
        refine z_sub [2, 3, 1, 0] rfl ?_
        exact ih q9.2 (x2 ||| (0 : Int32)) (x3 + (1 : Int32)) hf
      · refine z_iconst (v := 1) S dX10_holdsOut_105 (by decide) ?_
        refine z_iload_n S 3 dX10_holdsOut_106 rfl rfl ?_
        refine z_ishl S dX10_holdsOut_107 ?_
        refine z_goto (tgt := 112) S dX10_holdsOut_108 (by decide) ?_
        refine z_ior S dX10_holdsOut_112 ?_
        refine z_istore_n (lv' := [(2, .int (x2 ||| ((1 : Int32) <<< (x3 &&& 31)))), (0, .ref (ad E x0)), (1, .int x1), (3, .int x3)]) S dX10_holdsOut_113 rfl (by decide) rfl ?_
        refine z_iinc (v := (x3 + (1 : Int32))) (lv' := [(3, .int (x3 + (1 : Int32))), (2, .int (x2 ||| ((1 : Int32) <<< (x3 &&& 31)))), (0, .ref (ad E x0)), (1, .int x1)]) S 3 dX10_holdsOut_114 rfl (by rfl) (by decide) rfl ?_
        refine z_goto (tgt := 16) S dX10_holdsOut_117 (by decide) ?_
        refine z_sub [2, 3, 1, 0] rfl ?_
        exact ih q9.2 (x2 ||| ((1 : Int32) <<< (x3 &&& 31))) (x3 + (1 : Int32)) hf
def f_X10_holdsOut (P : PH) (x0 : Nat) : Option (Int32 × PH) :=
  ((f_X10_asItIs P x0).bind fun q11 => ((f_X10_cutOff q11 x0).bind fun q12 => ((f_X10_bits q12.2 q12.1).bind fun q13 => f_X10_holdsOut_L16 (fun P15 v14 => some (v14, P15)) x0 q13 1000 q12.2 (0 : Int32) (0 : Int32))))
theorem w_X10_holdsOut {x : Fx} {E : Ev} (S : ZS x E r_X10_holdsOut cX10_holdsOut 6 RX10 (some .int)) (M : ZM x E) (P : PH) (x0 : Nat) (h_x0 : ok x0 8 0) (r : (Int32 × PH)) (hf : f_X10_holdsOut P x0 = some r) : Wz x E 6 (QI E x r.1 r.2) P 0 [(0, .ref (ad E x0))] [] := by
  unfold f_X10_holdsOut at hf
  refine z_aload_n S 0 dX10_holdsOut_0 rfl rfl ?_
  refine z_callVV (rc := r_X10_asItIs) [] S mo_X10_asItIs wd819 wd17 wd817 h_x0 (by decide) cl_8 rfl rfl (by decide) (z_room0 S M (by rfl) (by rfl)) rfl (Nat.le_of_ble_eq_true rfl) rfl dX10_holdsOut_1  (fun q => q) (fun q hq => m_X10_asItIs (xl x) E _ _ h_x0 q hq) hf (fun q11 hf => ?_)
  refine z_aload_n S 0 dX10_holdsOut_4 rfl rfl ?_
  refine z_callVI (rc := r_X10_cutOff) [] S mo_X10_cutOff wd874 wd27 wd872 h_x0 (by decide) cl_8 rfl rfl (by decide) (z_room0 S M (by rfl) (by rfl)) rfl (Nat.le_of_ble_eq_true rfl) rfl dX10_holdsOut_5 (fun q => q.1) (fun q => q.2) (fun q hq => m_X10_cutOff (xl x) E _ _ h_x0 q hq) hf (fun q12 hf => ?_)
  refine z_callSI (rc := r_X10_bits) [.int q12.1] S mo_X10_bits wd889 wd888 rfl rfl (by decide) (z_room0 S M (by rfl) (by rfl)) rfl (Nat.le_of_ble_eq_true rfl) rfl dX10_holdsOut_8 (fun q => q) (fun _ => q12.2) (fun q hq => m_X10_bits (xl x) E _ _  q hq) hf (fun q13 hf => ?_)
  refine z_istore_n (lv' := [(1, .int q13), (0, .ref (ad E x0))]) S dX10_holdsOut_11 rfl (by decide) rfl ?_
  refine z_iconst (v := 0) S dX10_holdsOut_12 (by decide) ?_
  refine z_istore_n (lv' := [(2, .int (0 : Int32)), (1, .int q13), (0, .ref (ad E x0))]) S dX10_holdsOut_13 rfl (by decide) rfl ?_
  refine z_iconst (v := 0) S dX10_holdsOut_14 (by decide) ?_
  refine z_istore_n (lv' := [(3, .int (0 : Int32)), (2, .int (0 : Int32)), (1, .int q13), (0, .ref (ad E x0))]) S dX10_holdsOut_15 rfl (by decide) rfl ?_
  refine z_sub [3, 2, 1, 0] rfl ?_
  refine w_X10_holdsOut_L16 S M x0 q13 h_x0 r (fun P15 v14 hf => ?_) 1000 q12.2 (0 : Int32) (0 : Int32) hf
  refine z_iload_n S 0 dX10_holdsOut_120 rfl rfl ?_
  exact z_iretI (v := v14) S M rfl dX10_holdsOut_121 hf
theorem m_X10_holdsOut (l : Launch) (E : Ev) (P : PH) (x0 : Nat) (h_x0 : ok x0 8 0) (r : (Int32 × PH)) (hf : f_X10_holdsOut P x0 = some r) : CtI l E yX10_holdsOut cX10_holdsOut 6 (some .int) r_X10_holdsOut [.ref (ad E x0)] P r.1 r.2 :=
  z_body (own := RX10) (by decide +kernel) rfl (Nat.le_of_ble_eq_true rfl) rfl (fun x _ S M => w_X10_holdsOut S M P x0 h_x0 r hf)
-- yX10_dinner
theorem dX10_dinner_0 : decode cX10_dinner 0 = .ok (.aload_n 0, 1) := by decide +kernel
theorem dX10_dinner_1 : decode cX10_dinner 1 = .ok (.iload_n 1, 1) := by decide +kernel
theorem dX10_dinner_2 : decode cX10_dinner 2 = .ok (.invokevirtual 169, 3) := by decide +kernel
theorem dX10_dinner_5 : decode cX10_dinner 5 = .ok (.ifCond .eq 11, 3) := by decide +kernel
theorem dX10_dinner_8 : decode cX10_dinner 8 = .ok (.aload_n 0, 1) := by decide +kernel
theorem dX10_dinner_9 : decode cX10_dinner 9 = .ok (.iload_n 2, 1) := by decide +kernel
theorem dX10_dinner_10 : decode cX10_dinner 10 = .ok (.invokevirtual 169, 3) := by decide +kernel
theorem dX10_dinner_13 : decode cX10_dinner 13 = .ok (.ifCond .ne 5, 3) := by decide +kernel
theorem dX10_dinner_16 : decode cX10_dinner 16 = .ok (.iconst (-1), 1) := by decide +kernel
theorem dX10_dinner_17 : decode cX10_dinner 17 = .ok (.ireturn, 1) := by decide +kernel
theorem dX10_dinner_18 : decode cX10_dinner 18 = .ok (.aload_n 0, 1) := by decide +kernel
theorem dX10_dinner_19 : decode cX10_dinner 19 = .ok (.invokevirtual 166, 3) := by decide +kernel
theorem dX10_dinner_22 : decode cX10_dinner 22 = .ok (.iconst 0, 1) := by decide +kernel
theorem dX10_dinner_23 : decode cX10_dinner 23 = .ok (.istore_n 3, 1) := by decide +kernel
theorem dX10_dinner_24 : decode cX10_dinner 24 = .ok (.iconst 0, 1) := by decide +kernel
theorem dX10_dinner_25 : decode cX10_dinner 25 = .ok (.istore 4, 2) := by decide +kernel
theorem dX10_dinner_27 : decode cX10_dinner 27 = .ok (.iload 4, 2) := by decide +kernel
theorem dX10_dinner_29 : decode cX10_dinner 29 = .ok (.aload_n 0, 1) := by decide +kernel
theorem dX10_dinner_30 : decode cX10_dinner 30 = .ok (.getfield 61, 3) := by decide +kernel
theorem dX10_dinner_33 : decode cX10_dinner 33 = .ok (.if_icmp .ge 29, 3) := by decide +kernel
theorem dX10_dinner_36 : decode cX10_dinner 36 = .ok (.iload_n 3, 1) := by decide +kernel
theorem dX10_dinner_37 : decode cX10_dinner 37 = .ok (.aload_n 0, 1) := by decide +kernel
theorem dX10_dinner_38 : decode cX10_dinner 38 = .ok (.iload 4, 2) := by decide +kernel
theorem dX10_dinner_40 : decode cX10_dinner 40 = .ok (.invokevirtual 172, 3) := by decide +kernel
theorem dX10_dinner_43 : decode cX10_dinner 43 = .ok (.ifCond .eq 10, 3) := by decide +kernel
theorem dX10_dinner_46 : decode cX10_dinner 46 = .ok (.iconst 1, 1) := by decide +kernel
theorem dX10_dinner_47 : decode cX10_dinner 47 = .ok (.iload 4, 2) := by decide +kernel
theorem dX10_dinner_49 : decode cX10_dinner 49 = .ok (.ishl, 1) := by decide +kernel
theorem dX10_dinner_50 : decode cX10_dinner 50 = .ok (.goto 4, 3) := by decide +kernel
theorem dX10_dinner_53 : decode cX10_dinner 53 = .ok (.iconst 0, 1) := by decide +kernel
theorem dX10_dinner_54 : decode cX10_dinner 54 = .ok (.ior, 1) := by decide +kernel
theorem dX10_dinner_55 : decode cX10_dinner 55 = .ok (.istore_n 3, 1) := by decide +kernel
theorem dX10_dinner_56 : decode cX10_dinner 56 = .ok (.iinc 4 1, 3) := by decide +kernel
theorem dX10_dinner_59 : decode cX10_dinner 59 = .ok (.goto (-32), 3) := by decide +kernel
theorem dX10_dinner_62 : decode cX10_dinner 62 = .ok (.iload_n 3, 1) := by decide +kernel
theorem dX10_dinner_63 : decode cX10_dinner 63 = .ok (.iconst 1, 1) := by decide +kernel
theorem dX10_dinner_64 : decode cX10_dinner 64 = .ok (.iload_n 1, 1) := by decide +kernel
theorem dX10_dinner_65 : decode cX10_dinner 65 = .ok (.ishl, 1) := by decide +kernel
theorem dX10_dinner_66 : decode cX10_dinner 66 = .ok (.iand, 1) := by decide +kernel
theorem dX10_dinner_67 : decode cX10_dinner 67 = .ok (.istore 4, 2) := by decide +kernel
theorem dX10_dinner_69 : decode cX10_dinner 69 = .ok (.iconst 0, 1) := by decide +kernel
theorem dX10_dinner_70 : decode cX10_dinner 70 = .ok (.istore 5, 2) := by decide +kernel
theorem dX10_dinner_72 : decode cX10_dinner 72 = .ok (.iload 5, 2) := by decide +kernel
theorem dX10_dinner_74 : decode cX10_dinner 74 = .ok (.aload_n 0, 1) := by decide +kernel
theorem dX10_dinner_75 : decode cX10_dinner 75 = .ok (.getfield 61, 3) := by decide +kernel
theorem dX10_dinner_78 : decode cX10_dinner 78 = .ok (.if_icmp .gt 75, 3) := by decide +kernel
theorem dX10_dinner_81 : decode cX10_dinner 81 = .ok (.iload 4, 2) := by decide +kernel
theorem dX10_dinner_83 : decode cX10_dinner 83 = .ok (.iload_n 2, 1) := by decide +kernel
theorem dX10_dinner_84 : decode cX10_dinner 84 = .ok (.invokestatic 137, 3) := by decide +kernel
theorem dX10_dinner_87 : decode cX10_dinner 87 = .ok (.ifCond .eq 6, 3) := by decide +kernel
theorem dX10_dinner_90 : decode cX10_dinner 90 = .ok (.iload 5, 2) := by decide +kernel
theorem dX10_dinner_92 : decode cX10_dinner 92 = .ok (.ireturn, 1) := by decide +kernel
theorem dX10_dinner_93 : decode cX10_dinner 93 = .ok (.iload 4, 2) := by decide +kernel
theorem dX10_dinner_95 : decode cX10_dinner 95 = .ok (.istore 6, 2) := by decide +kernel
theorem dX10_dinner_97 : decode cX10_dinner 97 = .ok (.iconst 0, 1) := by decide +kernel
theorem dX10_dinner_98 : decode cX10_dinner 98 = .ok (.istore 7, 2) := by decide +kernel
theorem dX10_dinner_100 : decode cX10_dinner 100 = .ok (.iload 7, 2) := by decide +kernel
theorem dX10_dinner_102 : decode cX10_dinner 102 = .ok (.aload_n 0, 1) := by decide +kernel
theorem dX10_dinner_103 : decode cX10_dinner 103 = .ok (.getfield 61, 3) := by decide +kernel
theorem dX10_dinner_106 : decode cX10_dinner 106 = .ok (.if_icmp .ge 37, 3) := by decide +kernel
theorem dX10_dinner_109 : decode cX10_dinner 109 = .ok (.iload 6, 2) := by decide +kernel
theorem dX10_dinner_111 : decode cX10_dinner 111 = .ok (.iload 4, 2) := by decide +kernel
theorem dX10_dinner_113 : decode cX10_dinner 113 = .ok (.iload 7, 2) := by decide +kernel
theorem dX10_dinner_115 : decode cX10_dinner 115 = .ok (.invokestatic 137, 3) := by decide +kernel
theorem dX10_dinner_118 : decode cX10_dinner 118 = .ok (.ifCond .eq 15, 3) := by decide +kernel
theorem dX10_dinner_121 : decode cX10_dinner 121 = .ok (.aload_n 0, 1) := by decide +kernel
theorem dX10_dinner_122 : decode cX10_dinner 122 = .ok (.getfield 16, 3) := by decide +kernel
theorem dX10_dinner_125 : decode cX10_dinner 125 = .ok (.iload 7, 2) := by decide +kernel
theorem dX10_dinner_127 : decode cX10_dinner 127 = .ok (.iaload, 1) := by decide +kernel
theorem dX10_dinner_128 : decode cX10_dinner 128 = .ok (.iload_n 3, 1) := by decide +kernel
theorem dX10_dinner_129 : decode cX10_dinner 129 = .ok (.iand, 1) := by decide +kernel
theorem dX10_dinner_130 : decode cX10_dinner 130 = .ok (.goto 4, 3) := by decide +kernel
theorem dX10_dinner_133 : decode cX10_dinner 133 = .ok (.iconst 0, 1) := by decide +kernel
theorem dX10_dinner_134 : decode cX10_dinner 134 = .ok (.ior, 1) := by decide +kernel
theorem dX10_dinner_135 : decode cX10_dinner 135 = .ok (.istore 6, 2) := by decide +kernel
theorem dX10_dinner_137 : decode cX10_dinner 137 = .ok (.iinc 7 1, 3) := by decide +kernel
theorem dX10_dinner_140 : decode cX10_dinner 140 = .ok (.goto (-40), 3) := by decide +kernel
theorem dX10_dinner_143 : decode cX10_dinner 143 = .ok (.iload 6, 2) := by decide +kernel
theorem dX10_dinner_145 : decode cX10_dinner 145 = .ok (.istore 4, 2) := by decide +kernel
theorem dX10_dinner_147 : decode cX10_dinner 147 = .ok (.iinc 5 1, 3) := by decide +kernel
theorem dX10_dinner_150 : decode cX10_dinner 150 = .ok (.goto (-78), 3) := by decide +kernel
theorem dX10_dinner_153 : decode cX10_dinner 153 = .ok (.bipush (-9), 2) := by decide +kernel
theorem dX10_dinner_155 : decode cX10_dinner 155 = .ok (.ireturn, 1) := by decide +kernel
def r_X10_dinner : Room := { frames := 6, cells := 0, slots := 0, locals := 134 }
def f_X10_dinner_L100 (K : Int32 → Option (Int32 × PH)) (P : PH) (x0 : Nat) (x2 : Int32) (x3 : Int32) (x4 : Int32) (x5 : Int32) : Nat → Int32 → Int32 → Option (Int32 × PH)
  | 0, _, _ => none
  | n + 1, x6, x7 =>
    (if (P.1 x0 1) ≤ x7 then K x6 else ((f_X10_has P x4 x7).bind fun q1 => (if (b2i q1) = 0 then f_X10_dinner_L100 K P x0 x2 x3 x4 x5 n (x6 ||| (0 : Int32)) (x7 + (1 : Int32)) else (if (x7 < 0 ∨ 7 ≤ x7.toNatClampNeg) then none else f_X10_dinner_L100 K P x0 x2 x3 x4 x5 n (x6 ||| ((P.1 (P.2.2 x0 4) x7.toNatClampNeg) &&& x3)) (x7 + (1 : Int32))))))
theorem w_X10_dinner_L100 {x : Fx} {E : Ev} (S : ZS x E r_X10_dinner cX10_dinner 8 RX10 (some .int)) (M : ZM x E) {K : Int32 → Option (Int32 × PH)} (P : PH) (x0 : Nat) (x2 : Int32) (x3 : Int32) (x4 : Int32) (x5 : Int32) (h_x0 : ok x0 8 0) (r : (Int32 × PH)) (hK : ∀ (y6 : Int32), K y6 = some r → Wz x E 8 (QI E x r.1 r.2) P 143 [(0, .ref (ad E x0)), (2, .int x2), (3, .int x3), (5, .int x5), (6, .int y6)] []) : ∀ (n : Nat) (x6 : Int32) (x7 : Int32), f_X10_dinner_L100 K P x0 x2 x3 x4 x5 n x6 x7 = some r → Wz x E 8 (QI E x r.1 r.2) P 100 [(0, .ref (ad E x0)), (2, .int x2), (3, .int x3), (4, .int x4), (5, .int x5), (6, .int x6), (7, .int x7)] [] := by
  intro n
  induction n with
  | zero => intro x6 x7 hf; cases hf
  | succ n ih =>
    intro x6 x7 hf
    unfold f_X10_dinner_L100 at hf
    refine z_iload S 6 dX10_dinner_100 rfl ?_
    refine z_aload_n S 0 dX10_dinner_102 rfl rfl ?_
    refine z_getI S cf_8 h_x0 1 (by decide) rfl wd668 dX10_dinner_103 ?_
    refine z_icmp_ge (tgt := 143) S dX10_dinner_106 (by decide) hf (fun hf => ?_) (fun hf => ?_)
    · refine z_sub [0, 1, 2, 4, 5] rfl ?_
      exact hK x6 hf
    · refine z_iload S 5 dX10_dinner_109 rfl ?_
      refine z_iload S 3 dX10_dinner_111 rfl ?_
      refine z_iload S 6 dX10_dinner_113 rfl ?_
      refine z_callSI (rc := r_X10_has) [.int x4, .int x7] S mo_X10_has wd834 wd833 rfl rfl (by decide) (z_room0 S M (by rfl) (by rfl)) rfl (Nat.le_of_ble_eq_true rfl) rfl dX10_dinner_115 (fun q => b2i q) (fun _ => P) (fun q hq => m_X10_has (xl x) E _ _ _  q hq) hf (fun q1 hf => ?_)
      refine z_if_eq (tgt := 133) S dX10_dinner_118 (by decide) hf (fun hf => ?_) (fun hf => ?_)
      · refine z_iconst (v := 0) S dX10_dinner_133 (by decide) ?_
        refine z_ior S dX10_dinner_134 ?_
        refine z_istore (lv' := [(6, .int (x6 ||| (0 : Int32))), (0, .ref (ad E x0)), (2, .int x2), (3, .int x3), (4, .int x4), (5, .int x5), (7, .int x7)]) S dX10_dinner_135 (by decide) rfl ?_
        refine z_iinc (v := (x7 + (1 : Int32))) (lv' := [(7, .int (x7 + (1 : Int32))), (6, .int (x6 ||| (0 : Int32))), (0, .ref (ad E x0)), (2, .int x2), (3, .int x3), (4, .int x4), (5, .int x5)]) S 6 dX10_dinner_137 rfl (by rfl) (by decide) rfl ?_
        refine z_goto (tgt := 100) S dX10_dinner_140 (by decide) ?_
        refine z_sub [2, 3, 4, 5, 6, 1, 0] rfl ?_
        exact ih (x6 ||| (0 : Int32)) (x7 + (1 : Int32)) hf
      · refine z_aload_n S 0 dX10_dinner_121 rfl rfl ?_
        refine z_getR (K' := 9) (n' := 7) S cf_8 h_x0 4 (by decide) rfl rfl rfl wd671 dX10_dinner_122 (fun h2 => ?_)
        refine z_iload S 6 dX10_dinner_125 rfl ?_
        refine z_iald S h2 dX10_dinner_127 hf (fun hf => ?_)
        refine z_iload_n S 2 dX10_dinner_128 rfl rfl ?_
        refine z_iand S dX10_dinner_129 ?_
        refine z_goto (tgt := 134) S dX10_dinner_130 (by decide) ?_
        refine z_ior S dX10_dinner_134 ?_
        refine z_istore (lv' := [(6, .int (x6 ||| ((P.1 (P.2.2 x0 4) x7.toNatClampNeg) &&& x3))), (0, .ref (ad E x0)), (2, .int x2), (3, .int x3), (4, .int x4), (5, .int x5), (7, .int x7)]) S dX10_dinner_135 (by decide) rfl ?_
        refine z_iinc (v := (x7 + (1 : Int32))) (lv' := [(7, .int (x7 + (1 : Int32))), (6, .int (x6 ||| ((P.1 (P.2.2 x0 4) x7.toNatClampNeg) &&& x3))), (0, .ref (ad E x0)), (2, .int x2), (3, .int x3), (4, .int x4), (5, .int x5)]) S 6 dX10_dinner_137 rfl (by rfl) (by decide) rfl ?_
        refine z_goto (tgt := 100) S dX10_dinner_140 (by decide) ?_
        refine z_sub [2, 3, 4, 5, 6, 1, 0] rfl ?_
        exact ih (x6 ||| ((P.1 (P.2.2 x0 4) x7.toNatClampNeg) &&& x3)) (x7 + (1 : Int32)) hf
def f_X10_dinner_L72 (K0 : Int32 → Option (Int32 × PH)) (K1 : Option (Int32 × PH)) (P : PH) (x0 : Nat) (x2 : Int32) (x3 : Int32) : Nat → Int32 → Int32 → Option (Int32 × PH)
  | 0, _, _ => none
  | n + 1, x4, x5 =>
    (if (P.1 x0 1) < x5 then K1 else ((f_X10_has P x4 x2).bind fun q3 => (if (b2i q3) = 0 then f_X10_dinner_L100 (fun v4 => f_X10_dinner_L72 K0 K1 P x0 x2 x3 n v4 (x5 + (1 : Int32))) P x0 x2 x3 x4 x5 1000 x4 (0 : Int32) else K0 x5)))
theorem w_X10_dinner_L72 {x : Fx} {E : Ev} (S : ZS x E r_X10_dinner cX10_dinner 8 RX10 (some .int)) (M : ZM x E) {K0 : Int32 → Option (Int32 × PH)} {K1 : Option (Int32 × PH)} (P : PH) (x0 : Nat) (x2 : Int32) (x3 : Int32) (h_x0 : ok x0 8 0) (r : (Int32 × PH)) (hK0 : ∀ (y5 : Int32), K0 y5 = some r → Wz x E 8 (QI E x r.1 r.2) P 90 [(5, .int y5)] []) (hK1 : K1  = some r → Wz x E 8 (QI E x r.1 r.2) P 153 [] []) : ∀ (n : Nat) (x4 : Int32) (x5 : Int32), f_X10_dinner_L72 K0 K1 P x0 x2 x3 n x4 x5 = some r → Wz x E 8 (QI E x r.1 r.2) P 72 [(0, .ref (ad E x0)), (2, .int x2), (3, .int x3), (4, .int x4), (5, .int x5)] [] := by
  intro n
  induction n with
  | zero => intro x4 x5 hf; cases hf
  | succ n ih =>
    intro x4 x5 hf
    unfold f_X10_dinner_L72 at hf
    refine z_iload S 4 dX10_dinner_72 rfl ?_
    refine z_aload_n S 0 dX10_dinner_74 rfl rfl ?_
    refine z_getI S cf_8 h_x0 1 (by decide) rfl wd668 dX10_dinner_75 ?_
    refine z_icmp_gt (tgt := 153) S dX10_dinner_78 (by decide) hf (fun hf => ?_) (fun hf => ?_)
    · refine z_sub [] rfl ?_
      exact hK1  hf
    · refine z_iload S 3 dX10_dinner_81 rfl ?_
      refine z_iload_n S 1 dX10_dinner_83 rfl rfl ?_
      refine z_callSI (rc := r_X10_has) [.int x4, .int x2] S mo_X10_has wd834 wd833 rfl rfl (by decide) (z_room0 S M (by rfl) (by rfl)) rfl (Nat.le_of_ble_eq_true rfl) rfl dX10_dinner_84 (fun q => b2i q) (fun _ => P) (fun q hq => m_X10_has (xl x) E _ _ _  q hq) hf (fun q3 hf => ?_)
      refine z_if_eq (tgt := 93) S dX10_dinner_87 (by decide) hf (fun hf => ?_) (fun hf => ?_)
      · refine z_iload S 3 dX10_dinner_93 rfl ?_
        refine z_istore (lv' := [(6, .int x4), (0, .ref (ad E x0)), (2, .int x2), (3, .int x3), (4, .int x4), (5, .int x5)]) S dX10_dinner_95 (by decide) rfl ?_
        refine z_iconst (v := 0) S dX10_dinner_97 (by decide) ?_
        refine z_istore (lv' := [(7, .int (0 : Int32)), (6, .int x4), (0, .ref (ad E x0)), (2, .int x2), (3, .int x3), (4, .int x4), (5, .int x5)]) S dX10_dinner_98 (by decide) rfl ?_
        refine z_sub [2, 3, 4, 5, 6, 1, 0] rfl ?_
        refine w_X10_dinner_L100 S M _ x0 x2 x3 x4 x5 h_x0 r (fun v4 hf => ?_) 1000 x4 (0 : Int32) hf
        refine z_iload S 4 dX10_dinner_143 rfl ?_
        refine z_istore (lv' := [(4, .int v4), (0, .ref (ad E x0)), (2, .int x2), (3, .int x3), (5, .int x5), (6, .int v4)]) S dX10_dinner_145 (by decide) rfl ?_
        refine z_iinc (v := (x5 + (1 : Int32))) (lv' := [(5, .int (x5 + (1 : Int32))), (4, .int v4), (0, .ref (ad E x0)), (2, .int x2), (3, .int x3), (6, .int v4)]) S 4 dX10_dinner_147 rfl (by rfl) (by decide) rfl ?_
        refine z_goto (tgt := 72) S dX10_dinner_150 (by decide) ?_
        refine z_sub [2, 3, 4, 1, 0] rfl ?_
        exact ih v4 (x5 + (1 : Int32)) hf
      · refine z_sub [4] rfl ?_
        exact hK0 x5 hf
def f_X10_dinner_L27 (K : PH → Int32 → Option (Int32 × PH)) (x0 : Nat) (x1 : Int32) (x2 : Int32) : Nat → PH → Int32 → Int32 → Option (Int32 × PH)
  | 0, _, _, _ => none
  | n + 1, P, x3, x4 =>
    (if (P.1 x0 1) ≤ x4 then K P x3 else ((f_X10_whoMay P x0 x4).bind fun q5 => (if q5.1 = 0 then f_X10_dinner_L27 K x0 x1 x2 n q5.2 (x3 ||| (0 : Int32)) (x4 + (1 : Int32)) else f_X10_dinner_L27 K x0 x1 x2 n q5.2 (x3 ||| ((1 : Int32) <<< (x4 &&& 31))) (x4 + (1 : Int32)))))
theorem w_X10_dinner_L27 {x : Fx} {E : Ev} (S : ZS x E r_X10_dinner cX10_dinner 8 RX10 (some .int)) (M : ZM x E) {K : PH → Int32 → Option (Int32 × PH)} (x0 : Nat) (x1 : Int32) (x2 : Int32) (h_x0 : ok x0 8 0) (r : (Int32 × PH)) (hK : ∀ (P1 : PH) (y3 : Int32), K P1 y3 = some r → Wz x E 8 (QI E x r.1 r.2) P1 62 [(0, .ref (ad E x0)), (1, .int x1), (2, .int x2), (3, .int y3)] []) : ∀ (n : Nat) (P : PH) (x3 : Int32) (x4 : Int32), f_X10_dinner_L27 K x0 x1 x2 n P x3 x4 = some r → Wz x E 8 (QI E x r.1 r.2) P 27 [(0, .ref (ad E x0)), (1, .int x1), (2, .int x2), (3, .int x3), (4, .int x4)] [] := by
  intro n
  induction n with
  | zero => intro P x3 x4 hf; cases hf
  | succ n ih =>
    intro P x3 x4 hf
    unfold f_X10_dinner_L27 at hf
    refine z_iload S 4 dX10_dinner_27 rfl ?_
    refine z_aload_n S 0 dX10_dinner_29 rfl rfl ?_
    refine z_getI S cf_8 h_x0 1 (by decide) rfl wd668 dX10_dinner_30 ?_
    refine z_icmp_ge (tgt := 62) S dX10_dinner_33 (by decide) hf (fun hf => ?_) (fun hf => ?_)
    · refine z_sub [0, 1, 2, 3] rfl ?_
      exact hK P x3 hf
    · refine z_iload_n S 3 dX10_dinner_36 rfl rfl ?_
      refine z_aload_n S 0 dX10_dinner_37 rfl rfl ?_
      refine z_iload S 4 dX10_dinner_38 rfl ?_
      refine z_callVI (rc := r_X10_whoMay) [.int x4] S mo_X10_whoMay wd862 wd26 wd860 h_x0 (by decide) cl_8 rfl rfl (by decide) (z_room0 S M (by rfl) (by rfl)) rfl (Nat.le_of_ble_eq_true rfl) rfl dX10_dinner_40 (fun q => q.1) (fun q => q.2) (fun q hq => m_X10_whoMay (xl x) E _ _ _ h_x0 q hq) hf (fun q5 hf => ?_)
      refine z_if_eq (tgt := 53) S dX10_dinner_43 (by decide) hf (fun hf => ?_) (fun hf => ?_)
      · refine z_iconst (v := 0) S dX10_dinner_53 (by decide) ?_
        refine z_ior S dX10_dinner_54 ?_
        refine z_istore_n (lv' := [(3, .int (x3 ||| (0 : Int32))), (0, .ref (ad E x0)), (1, .int x1), (2, .int x2), (4, .int x4)]) S dX10_dinner_55 rfl (by decide) rfl ?_
        refine z_iinc (v := (x4 + (1 : Int32))) (lv' := [(4, .int (x4 + (1 : Int32))), (3, .int (x3 ||| (0 : Int32))), (0, .ref (ad E x0)), (1, .int x1), (2, .int x2)]) S 4 dX10_dinner_56 rfl (by rfl) (by decide) rfl ?_
        refine z_goto (tgt := 27) S dX10_dinner_59 (by decide) ?_
        refine z_sub [2, 3, 4, 1, 0] rfl ?_
        exact ih q5.2 (x3 ||| (0 : Int32)) (x4 + (1 : Int32)) hf
      · refine z_iconst (v := 1) S dX10_dinner_46 (by decide) ?_
        refine z_iload S 4 dX10_dinner_47 rfl ?_
        refine z_ishl S dX10_dinner_49 ?_
        refine z_goto (tgt := 54) S dX10_dinner_50 (by decide) ?_
        refine z_ior S dX10_dinner_54 ?_
        refine z_istore_n (lv' := [(3, .int (x3 ||| ((1 : Int32) <<< (x4 &&& 31)))), (0, .ref (ad E x0)), (1, .int x1), (2, .int x2), (4, .int x4)]) S dX10_dinner_55 rfl (by decide) rfl ?_
        refine z_iinc (v := (x4 + (1 : Int32))) (lv' := [(4, .int (x4 + (1 : Int32))), (3, .int (x3 ||| ((1 : Int32) <<< (x4 &&& 31)))), (0, .ref (ad E x0)), (1, .int x1), (2, .int x2)]) S 4 dX10_dinner_56 rfl (by rfl) (by decide) rfl ?_
        refine z_goto (tgt := 27) S dX10_dinner_59 (by decide) ?_
        refine z_sub [2, 3, 4, 1, 0] rfl ?_
        exact ih q5.2 (x3 ||| ((1 : Int32) <<< (x4 &&& 31))) (x4 + (1 : Int32)) hf
def f_X10_dinner (P : PH) (x0 : Nat) (x1 : Int32) (x2 : Int32) : Option (Int32 × PH) :=
  ((f_X10_isRoom P x0 x1).bind fun q6 => (if (b2i q6) = 0 then some ((-1 : Int32), P) else ((f_X10_isRoom P x0 x2).bind fun q7 => (if (b2i q7) = 0 then some ((-1 : Int32), P) else ((f_X10_asItIs P x0).bind fun q8 => f_X10_dinner_L27 (fun P10 v9 => f_X10_dinner_L72 (fun v11 => some (v11, P10)) (some ((-9 : Int32), P10)) P10 x0 x2 v9 1000 (v9 &&& ((1 : Int32) <<< (x1 &&& 31))) (0 : Int32)) x0 x1 x2 1000 q8 (0 : Int32) (0 : Int32))))))
theorem w_X10_dinner {x : Fx} {E : Ev} (S : ZS x E r_X10_dinner cX10_dinner 8 RX10 (some .int)) (M : ZM x E) (P : PH) (x0 : Nat) (x1 : Int32) (x2 : Int32) (h_x0 : ok x0 8 0) (r : (Int32 × PH)) (hf : f_X10_dinner P x0 x1 x2 = some r) : Wz x E 8 (QI E x r.1 r.2) P 0 [(0, .ref (ad E x0)), (1, .int x1), (2, .int x2)] [] := by
  unfold f_X10_dinner at hf
  refine z_aload_n S 0 dX10_dinner_0 rfl rfl ?_
  refine z_iload_n S 1 dX10_dinner_1 rfl rfl ?_
  refine z_callVI (rc := r_X10_isRoom) [.int x1] S mo_X10_isRoom wd858 wd25 wd856 h_x0 (by decide) cl_8 rfl rfl (by decide) (z_room0 S M (by rfl) (by rfl)) rfl (Nat.le_of_ble_eq_true rfl) rfl dX10_dinner_2 (fun q => b2i q) (fun _ => P) (fun q hq => m_X10_isRoom (xl x) E _ _ _ h_x0 q hq) hf (fun q6 hf => ?_)
  refine z_if_eq (tgt := 16) S dX10_dinner_5 (by decide) hf (fun hf => ?_) (fun hf => ?_)
  · refine z_iconst (v := (-1 : Int32)) S dX10_dinner_16 (by decide) ?_
    exact z_iretI (v := (-1 : Int32)) S M rfl dX10_dinner_17 hf
  · refine z_aload_n S 0 dX10_dinner_8 rfl rfl ?_
    refine z_iload_n S 2 dX10_dinner_9 rfl rfl ?_
    refine z_callVI (rc := r_X10_isRoom) [.int x2] S mo_X10_isRoom wd858 wd25 wd856 h_x0 (by decide) cl_8 rfl rfl (by decide) (z_room0 S M (by rfl) (by rfl)) rfl (Nat.le_of_ble_eq_true rfl) rfl dX10_dinner_10 (fun q => b2i q) (fun _ => P) (fun q hq => m_X10_isRoom (xl x) E _ _ _ h_x0 q hq) hf (fun q7 hf => ?_)
    refine z_if_ne (tgt := 18) S dX10_dinner_13 (by decide) hf (fun hf => ?_) (fun hf => ?_)
    · refine z_iconst (v := (-1 : Int32)) S dX10_dinner_16 (by decide) ?_
      exact z_iretI (v := (-1 : Int32)) S M rfl dX10_dinner_17 hf
    · refine z_aload_n S 0 dX10_dinner_18 rfl rfl ?_
      refine z_callVV (rc := r_X10_asItIs) [] S mo_X10_asItIs wd819 wd17 wd817 h_x0 (by decide) cl_8 rfl rfl (by decide) (z_room0 S M (by rfl) (by rfl)) rfl (Nat.le_of_ble_eq_true rfl) rfl dX10_dinner_19  (fun q => q) (fun q hq => m_X10_asItIs (xl x) E _ _ h_x0 q hq) hf (fun q8 hf => ?_)
      refine z_iconst (v := 0) S dX10_dinner_22 (by decide) ?_
      refine z_istore_n (lv' := [(3, .int (0 : Int32)), (0, .ref (ad E x0)), (1, .int x1), (2, .int x2)]) S dX10_dinner_23 rfl (by decide) rfl ?_
      refine z_iconst (v := 0) S dX10_dinner_24 (by decide) ?_
      refine z_istore (lv' := [(4, .int (0 : Int32)), (3, .int (0 : Int32)), (0, .ref (ad E x0)), (1, .int x1), (2, .int x2)]) S dX10_dinner_25 (by decide) rfl ?_
      refine z_sub [2, 3, 4, 1, 0] rfl ?_
      refine w_X10_dinner_L27 S M x0 x1 x2 h_x0 r (fun P10 v9 hf => ?_) 1000 q8 (0 : Int32) (0 : Int32) hf
      refine z_iload_n S 3 dX10_dinner_62 rfl rfl ?_
      refine z_iconst (v := 1) S dX10_dinner_63 (by decide) ?_
      refine z_iload_n S 1 dX10_dinner_64 rfl rfl ?_
      refine z_ishl S dX10_dinner_65 ?_
      refine z_iand S dX10_dinner_66 ?_
      refine z_istore (lv' := [(4, .int (v9 &&& ((1 : Int32) <<< (x1 &&& 31)))), (0, .ref (ad E x0)), (1, .int x1), (2, .int x2), (3, .int v9)]) S dX10_dinner_67 (by decide) rfl ?_
      refine z_iconst (v := 0) S dX10_dinner_69 (by decide) ?_
      refine z_istore (lv' := [(5, .int (0 : Int32)), (4, .int (v9 &&& ((1 : Int32) <<< (x1 &&& 31)))), (0, .ref (ad E x0)), (1, .int x1), (2, .int x2), (3, .int v9)]) S dX10_dinner_70 (by decide) rfl ?_
      refine z_sub [2, 4, 5, 1, 0] rfl ?_
      refine w_X10_dinner_L72 S M _ x0 x2 v9 h_x0 r (fun v11 hf => ?_) (fun hf => ?_) 1000 (v9 &&& ((1 : Int32) <<< (x1 &&& 31))) (0 : Int32) hf
      · refine z_iload S 0 dX10_dinner_90 rfl ?_
        exact z_iretI (v := v11) S M rfl dX10_dinner_92 hf
      · refine z_bipush (v := (-9 : Int32)) S dX10_dinner_153 (by decide) ?_
        exact z_iretI (v := (-9 : Int32)) S M rfl dX10_dinner_155 hf
theorem m_X10_dinner (l : Launch) (E : Ev) (P : PH) (x0 : Nat) (x1 : Int32) (x2 : Int32) (h_x0 : ok x0 8 0) (r : (Int32 × PH)) (hf : f_X10_dinner P x0 x1 x2 = some r) : CtI l E yX10_dinner cX10_dinner 8 (some .int) r_X10_dinner [.ref (ad E x0), .int x1, .int x2] P r.1 r.2 :=
  z_body (own := RX10) (by decide +kernel) rfl (Nat.le_of_ble_eq_true rfl) rfl (fun x _ S M => w_X10_dinner S M P x0 x1 x2 h_x0 r hf)
-- yX10_seen
theorem dX10_seen_0 : decode cX10_seen 0 = .ok (.aload_n 0, 1) := by decide +kernel
theorem dX10_seen_1 : decode cX10_seen 1 = .ok (.iload_n 1, 1) := by decide +kernel
theorem dX10_seen_2 : decode cX10_seen 2 = .ok (.invokevirtual 134, 3) := by decide +kernel
theorem dX10_seen_5 : decode cX10_seen 5 = .ok (.ifCond .eq 20, 3) := by decide +kernel
theorem dX10_seen_8 : decode cX10_seen 8 = .ok (.aload_n 0, 1) := by decide +kernel
theorem dX10_seen_9 : decode cX10_seen 9 = .ok (.iload_n 2, 1) := by decide +kernel
theorem dX10_seen_10 : decode cX10_seen 10 = .ok (.invokevirtual 169, 3) := by decide +kernel
theorem dX10_seen_13 : decode cX10_seen 13 = .ok (.ifCond .eq 12, 3) := by decide +kernel
theorem dX10_seen_16 : decode cX10_seen 16 = .ok (.iload_n 3, 1) := by decide +kernel
theorem dX10_seen_17 : decode cX10_seen 17 = .ok (.iconst 0, 1) := by decide +kernel
theorem dX10_seen_18 : decode cX10_seen 18 = .ok (.iconst 1, 1) := by decide +kernel
theorem dX10_seen_19 : decode cX10_seen 19 = .ok (.invokestatic 57, 3) := by decide +kernel
theorem dX10_seen_22 : decode cX10_seen 22 = .ok (.ifCond .ne 5, 3) := by decide +kernel
theorem dX10_seen_25 : decode cX10_seen 25 = .ok (.iconst (-1), 1) := by decide +kernel
theorem dX10_seen_26 : decode cX10_seen 26 = .ok (.ireturn, 1) := by decide +kernel
theorem dX10_seen_27 : decode cX10_seen 27 = .ok (.aload_n 0, 1) := by decide +kernel
theorem dX10_seen_28 : decode cX10_seen 28 = .ok (.getfield 131, 3) := by decide +kernel
theorem dX10_seen_31 : decode cX10_seen 31 = .ok (.iconst 5, 1) := by decide +kernel
theorem dX10_seen_32 : decode cX10_seen 32 = .ok (.if_icmp .ne 6, 3) := by decide +kernel
theorem dX10_seen_35 : decode cX10_seen 35 = .ok (.bipush (-3), 2) := by decide +kernel
theorem dX10_seen_37 : decode cX10_seen 37 = .ok (.ireturn, 1) := by decide +kernel
theorem dX10_seen_38 : decode cX10_seen 38 = .ok (.aload_n 0, 1) := by decide +kernel
theorem dX10_seen_39 : decode cX10_seen 39 = .ok (.getfield 32, 3) := by decide +kernel
theorem dX10_seen_42 : decode cX10_seen 42 = .ok (.iconst 3, 1) := by decide +kernel
theorem dX10_seen_43 : decode cX10_seen 43 = .ok (.aload_n 0, 1) := by decide +kernel
theorem dX10_seen_44 : decode cX10_seen 44 = .ok (.getfield 131, 3) := by decide +kernel
theorem dX10_seen_47 : decode cX10_seen 47 = .ok (.imul, 1) := by decide +kernel
theorem dX10_seen_48 : decode cX10_seen 48 = .ok (.iload_n 1, 1) := by decide +kernel
theorem dX10_seen_49 : decode cX10_seen 49 = .ok (.iastore, 1) := by decide +kernel
theorem dX10_seen_50 : decode cX10_seen 50 = .ok (.aload_n 0, 1) := by decide +kernel
theorem dX10_seen_51 : decode cX10_seen 51 = .ok (.getfield 32, 3) := by decide +kernel
theorem dX10_seen_54 : decode cX10_seen 54 = .ok (.iconst 3, 1) := by decide +kernel
theorem dX10_seen_55 : decode cX10_seen 55 = .ok (.aload_n 0, 1) := by decide +kernel
theorem dX10_seen_56 : decode cX10_seen 56 = .ok (.getfield 131, 3) := by decide +kernel
theorem dX10_seen_59 : decode cX10_seen 59 = .ok (.imul, 1) := by decide +kernel
theorem dX10_seen_60 : decode cX10_seen 60 = .ok (.iconst 1, 1) := by decide +kernel
theorem dX10_seen_61 : decode cX10_seen 61 = .ok (.iadd, 1) := by decide +kernel
theorem dX10_seen_62 : decode cX10_seen 62 = .ok (.iload_n 2, 1) := by decide +kernel
theorem dX10_seen_63 : decode cX10_seen 63 = .ok (.iastore, 1) := by decide +kernel
theorem dX10_seen_64 : decode cX10_seen 64 = .ok (.aload_n 0, 1) := by decide +kernel
theorem dX10_seen_65 : decode cX10_seen 65 = .ok (.getfield 32, 3) := by decide +kernel
theorem dX10_seen_68 : decode cX10_seen 68 = .ok (.iconst 3, 1) := by decide +kernel
theorem dX10_seen_69 : decode cX10_seen 69 = .ok (.aload_n 0, 1) := by decide +kernel
theorem dX10_seen_70 : decode cX10_seen 70 = .ok (.getfield 131, 3) := by decide +kernel
theorem dX10_seen_73 : decode cX10_seen 73 = .ok (.imul, 1) := by decide +kernel
theorem dX10_seen_74 : decode cX10_seen 74 = .ok (.iconst 2, 1) := by decide +kernel
theorem dX10_seen_75 : decode cX10_seen 75 = .ok (.iadd, 1) := by decide +kernel
theorem dX10_seen_76 : decode cX10_seen 76 = .ok (.iload_n 3, 1) := by decide +kernel
theorem dX10_seen_77 : decode cX10_seen 77 = .ok (.iastore, 1) := by decide +kernel
theorem dX10_seen_78 : decode cX10_seen 78 = .ok (.aload_n 0, 1) := by decide +kernel
theorem dX10_seen_79 : decode cX10_seen 79 = .ok (.dup, 1) := by decide +kernel
theorem dX10_seen_80 : decode cX10_seen 80 = .ok (.getfield 131, 3) := by decide +kernel
theorem dX10_seen_83 : decode cX10_seen 83 = .ok (.iconst 1, 1) := by decide +kernel
theorem dX10_seen_84 : decode cX10_seen 84 = .ok (.iadd, 1) := by decide +kernel
theorem dX10_seen_85 : decode cX10_seen 85 = .ok (.putfield 131, 3) := by decide +kernel
theorem dX10_seen_88 : decode cX10_seen 88 = .ok (.aload_n 0, 1) := by decide +kernel
theorem dX10_seen_89 : decode cX10_seen 89 = .ok (.getfield 131, 3) := by decide +kernel
theorem dX10_seen_92 : decode cX10_seen 92 = .ok (.ireturn, 1) := by decide +kernel
def r_X10_seen : Room := { frames := 2, cells := 0, slots := 0, locals := 43 }
def f_X10_seen (P : PH) (x0 : Nat) (x1 : Int32) (x2 : Int32) (x3 : Int32) : Option (Int32 × PH) :=
  ((f_X10_isPerson P x0 x1).bind fun q1 => (if (b2i q1) = 0 then some ((-1 : Int32), P) else ((f_X10_isRoom P x0 x2).bind fun q2 => (if (b2i q2) = 0 then some ((-1 : Int32), P) else ((f_X10_in P x3 (0 : Int32) (1 : Int32)).bind fun q3 => (if (b2i q3) = 0 then some ((-1 : Int32), P) else (if (P.1 x0 10) = (5 : Int32) then some ((-3 : Int32), P) else (if (((3 : Int32) * (P.1 x0 10)) < 0 ∨ 15 ≤ ((3 : Int32) * (P.1 x0 10)).toNatClampNeg) then none else ((some (sI P (P.2.2 x0 11) ((3 : Int32) * (P.1 x0 10)).toNatClampNeg x1)).bind fun P5 => (if ((((3 : Int32) * (P5.1 x0 10)) + (1 : Int32)) < 0 ∨ 15 ≤ (((3 : Int32) * (P5.1 x0 10)) + (1 : Int32)).toNatClampNeg) then none else ((some (sI P5 (P5.2.2 x0 11) (((3 : Int32) * (P5.1 x0 10)) + (1 : Int32)).toNatClampNeg x2)).bind fun P7 => (if ((((3 : Int32) * (P7.1 x0 10)) + (2 : Int32)) < 0 ∨ 15 ≤ (((3 : Int32) * (P7.1 x0 10)) + (2 : Int32)).toNatClampNeg) then none else ((some (sI P7 (P7.2.2 x0 11) (((3 : Int32) * (P7.1 x0 10)) + (2 : Int32)).toNatClampNeg x3)).bind fun P9 => ((some (sI P9 x0 10 ((P9.1 x0 10) + (1 : Int32)))).bind fun P10 => some ((P10.1 x0 10), P10)))))))))))))))
theorem w_X10_seen {x : Fx} {E : Ev} (S : ZS x E r_X10_seen cX10_seen 4 RX10 (some .int)) (M : ZM x E) (P : PH) (x0 : Nat) (x1 : Int32) (x2 : Int32) (x3 : Int32) (h_x0 : ok x0 8 0) (r : (Int32 × PH)) (hf : f_X10_seen P x0 x1 x2 x3 = some r) : Wz x E 4 (QI E x r.1 r.2) P 0 [(0, .ref (ad E x0)), (1, .int x1), (2, .int x2), (3, .int x3)] [] := by
  unfold f_X10_seen at hf
  refine z_aload_n S 0 dX10_seen_0 rfl rfl ?_
  refine z_iload_n S 1 dX10_seen_1 rfl rfl ?_
  refine z_callVI (rc := r_X10_isPerson) [.int x1] S mo_X10_isPerson wd815 wd16 wd813 h_x0 (by decide) cl_8 rfl rfl (by decide) (z_room0 S M (by rfl) (by rfl)) rfl (Nat.le_of_ble_eq_true rfl) rfl dX10_seen_2 (fun q => b2i q) (fun _ => P) (fun q hq => m_X10_isPerson (xl x) E _ _ _ h_x0 q hq) hf (fun q1 hf => ?_)
  refine z_if_eq (tgt := 25) S dX10_seen_5 (by decide) hf (fun hf => ?_) (fun hf => ?_)
  · refine z_iconst (v := (-1 : Int32)) S dX10_seen_25 (by decide) ?_
    exact z_iretI (v := (-1 : Int32)) S M rfl dX10_seen_26 hf
  · refine z_aload_n S 0 dX10_seen_8 rfl rfl ?_
    refine z_iload_n S 2 dX10_seen_9 rfl rfl ?_
    refine z_callVI (rc := r_X10_isRoom) [.int x2] S mo_X10_isRoom wd858 wd25 wd856 h_x0 (by decide) cl_8 rfl rfl (by decide) (z_room0 S M (by rfl) (by rfl)) rfl (Nat.le_of_ble_eq_true rfl) rfl dX10_seen_10 (fun q => b2i q) (fun _ => P) (fun q hq => m_X10_isRoom (xl x) E _ _ _ h_x0 q hq) hf (fun q2 hf => ?_)
    refine z_if_eq (tgt := 25) S dX10_seen_13 (by decide) hf (fun hf => ?_) (fun hf => ?_)
    · refine z_iconst (v := (-1 : Int32)) S dX10_seen_25 (by decide) ?_
      exact z_iretI (v := (-1 : Int32)) S M rfl dX10_seen_26 hf
    · refine z_iload_n S 3 dX10_seen_16 rfl rfl ?_
      refine z_iconst (v := 0) S dX10_seen_17 (by decide) ?_
      refine z_iconst (v := 1) S dX10_seen_18 (by decide) ?_
      refine z_callSI (rc := r_X10_in) [.int x3, .int (0 : Int32), .int (1 : Int32)] S mo_X10_in wd758 wd757 rfl rfl (by decide) (z_room0 S M (by rfl) (by rfl)) rfl (Nat.le_of_ble_eq_true rfl) rfl dX10_seen_19 (fun q => b2i q) (fun _ => P) (fun q hq => m_X10_in (xl x) E _ _ _ _  q hq) hf (fun q3 hf => ?_)
      refine z_if_ne (tgt := 27) S dX10_seen_22 (by decide) hf (fun hf => ?_) (fun hf => ?_)
      · refine z_iconst (v := (-1 : Int32)) S dX10_seen_25 (by decide) ?_
        exact z_iretI (v := (-1 : Int32)) S M rfl dX10_seen_26 hf
      · refine z_aload_n S 0 dX10_seen_27 rfl rfl ?_
        refine z_getI S cf_8 h_x0 10 (by decide) rfl wd677 dX10_seen_28 ?_
        refine z_iconst (v := 5) S dX10_seen_31 (by decide) ?_
        refine z_icmp_ne (tgt := 38) S dX10_seen_32 (by decide) hf (fun hf => ?_) (fun hf => ?_)
        · refine z_bipush (v := (-3 : Int32)) S dX10_seen_35 (by decide) ?_
          exact z_iretI (v := (-3 : Int32)) S M rfl dX10_seen_37 hf
        · refine z_aload_n S 0 dX10_seen_38 rfl rfl ?_
          refine z_getR (K' := 9) (n' := 15) S cf_8 h_x0 11 (by decide) rfl rfl rfl wd678 dX10_seen_39 (fun h4 => ?_)
          refine z_iconst (v := 3) S dX10_seen_42 (by decide) ?_
          refine z_aload_n S 0 dX10_seen_43 rfl rfl ?_
          refine z_getI S cf_8 h_x0 10 (by decide) rfl wd677 dX10_seen_44 ?_
          refine z_imul S dX10_seen_47 ?_
          refine z_iload_n S 1 dX10_seen_48 rfl rfl ?_
          refine z_iast S h4 dX10_seen_49 hf (fun hf => ?_)
          refine z_nmP hf (fun P5 hf => ?_)
          refine z_aload_n S 0 dX10_seen_50 rfl rfl ?_
          refine z_getR (K' := 9) (n' := 15) S cf_8 h_x0 11 (by decide) rfl rfl rfl wd678 dX10_seen_51 (fun h6 => ?_)
          refine z_iconst (v := 3) S dX10_seen_54 (by decide) ?_
          refine z_aload_n S 0 dX10_seen_55 rfl rfl ?_
          refine z_getI S cf_8 h_x0 10 (by decide) rfl wd677 dX10_seen_56 ?_
          refine z_imul S dX10_seen_59 ?_
          refine z_iconst (v := 1) S dX10_seen_60 (by decide) ?_
          refine z_iadd S dX10_seen_61 ?_
          refine z_iload_n S 2 dX10_seen_62 rfl rfl ?_
          refine z_iast S h6 dX10_seen_63 hf (fun hf => ?_)
          refine z_nmP hf (fun P7 hf => ?_)
          refine z_aload_n S 0 dX10_seen_64 rfl rfl ?_
          refine z_getR (K' := 9) (n' := 15) S cf_8 h_x0 11 (by decide) rfl rfl rfl wd678 dX10_seen_65 (fun h8 => ?_)
          refine z_iconst (v := 3) S dX10_seen_68 (by decide) ?_
          refine z_aload_n S 0 dX10_seen_69 rfl rfl ?_
          refine z_getI S cf_8 h_x0 10 (by decide) rfl wd677 dX10_seen_70 ?_
          refine z_imul S dX10_seen_73 ?_
          refine z_iconst (v := 2) S dX10_seen_74 (by decide) ?_
          refine z_iadd S dX10_seen_75 ?_
          refine z_iload_n S 3 dX10_seen_76 rfl rfl ?_
          refine z_iast S h8 dX10_seen_77 hf (fun hf => ?_)
          refine z_nmP hf (fun P9 hf => ?_)
          refine z_aload_n S 0 dX10_seen_78 rfl rfl ?_
          refine z_dup S dX10_seen_79 rfl ?_
          refine z_getI S cf_8 h_x0 10 (by decide) rfl wd677 dX10_seen_80 ?_
          refine z_iconst (v := 1) S dX10_seen_83 (by decide) ?_
          refine z_iadd S dX10_seen_84 ?_
          refine z_putI S cf_8 h_x0 10 (by decide) rfl rfl rfl rfl wd677 dX10_seen_85 ?_
          refine z_nmP hf (fun P10 hf => ?_)
          refine z_aload_n S 0 dX10_seen_88 rfl rfl ?_
          refine z_getI S cf_8 h_x0 10 (by decide) rfl wd677 dX10_seen_89 ?_
          exact z_iretI (v := (P10.1 x0 10)) S M rfl dX10_seen_92 hf
theorem m_X10_seen (l : Launch) (E : Ev) (P : PH) (x0 : Nat) (x1 : Int32) (x2 : Int32) (x3 : Int32) (h_x0 : ok x0 8 0) (r : (Int32 × PH)) (hf : f_X10_seen P x0 x1 x2 x3 = some r) : CtI l E yX10_seen cX10_seen 4 (some .int) r_X10_seen [.ref (ad E x0), .int x1, .int x2, .int x3] P r.1 r.2 :=
  z_body (own := RX10) (by decide +kernel) rfl (Nat.le_of_ble_eq_true rfl) rfl (fun x _ S M => w_X10_seen S M P x0 x1 x2 x3 h_x0 r hf)
-- yX10_forget
theorem dX10_forget_0 : decode cX10_forget 0 = .ok (.aload_n 0, 1) := by decide +kernel
theorem dX10_forget_1 : decode cX10_forget 1 = .ok (.getfield 131, 3) := by decide +kernel
theorem dX10_forget_4 : decode cX10_forget 4 = .ok (.istore_n 1, 1) := by decide +kernel
theorem dX10_forget_5 : decode cX10_forget 5 = .ok (.aload_n 0, 1) := by decide +kernel
theorem dX10_forget_6 : decode cX10_forget 6 = .ok (.iconst 0, 1) := by decide +kernel
theorem dX10_forget_7 : decode cX10_forget 7 = .ok (.putfield 131, 3) := by decide +kernel
theorem dX10_forget_10 : decode cX10_forget 10 = .ok (.iload_n 1, 1) := by decide +kernel
theorem dX10_forget_11 : decode cX10_forget 11 = .ok (.ireturn, 1) := by decide +kernel
def r_X10_forget : Room := { frames := 0, cells := 0, slots := 0, locals := 0 }
def f_X10_forget (P : PH) (x0 : Nat) : Option (Int32 × PH) :=
  some ((P.1 x0 10), (sI P x0 10 (0 : Int32)))
theorem w_X10_forget {x : Fx} {E : Ev} (S : ZS x E r_X10_forget cX10_forget 2 RX10 (some .int)) (M : ZM x E) (P : PH) (x0 : Nat) (h_x0 : ok x0 8 0) (r : (Int32 × PH)) (hf : f_X10_forget P x0 = some r) : Wz x E 2 (QI E x r.1 r.2) P 0 [(0, .ref (ad E x0))] [] := by
  unfold f_X10_forget at hf
  refine z_aload_n S 0 dX10_forget_0 rfl rfl ?_
  refine z_getI S cf_8 h_x0 10 (by decide) rfl wd677 dX10_forget_1 ?_
  refine z_istore_n (lv' := [(1, .int (P.1 x0 10)), (0, .ref (ad E x0))]) S dX10_forget_4 rfl (by decide) rfl ?_
  refine z_aload_n S 1 dX10_forget_5 rfl rfl ?_
  refine z_iconst (v := 0) S dX10_forget_6 (by decide) ?_
  refine z_putI S cf_8 h_x0 10 (by decide) rfl rfl rfl rfl wd677 dX10_forget_7 ?_
  refine z_iload_n S 0 dX10_forget_10 rfl rfl ?_
  exact z_iretI (v := (P.1 x0 10)) S M rfl dX10_forget_11 hf
theorem m_X10_forget (l : Launch) (E : Ev) (P : PH) (x0 : Nat) (h_x0 : ok x0 8 0) (r : (Int32 × PH)) (hf : f_X10_forget P x0 = some r) : CtI l E yX10_forget cX10_forget 2 (some .int) r_X10_forget [.ref (ad E x0)] P r.1 r.2 :=
  z_body (own := RX10) (by decide +kernel) rfl (Nat.le_of_ble_eq_true rfl) rfl (fun x _ S M => w_X10_forget S M P x0 h_x0 r hf)
-- yX10_said
theorem dX10_said_0 : decode cX10_said 0 = .ok (.aload_n 0, 1) := by decide +kernel
theorem dX10_said_1 : decode cX10_said 1 = .ok (.iload_n 1, 1) := by decide +kernel
theorem dX10_said_2 : decode cX10_said 2 = .ok (.invokevirtual 134, 3) := by decide +kernel
theorem dX10_said_5 : decode cX10_said 5 = .ok (.ifCond .ne 5, 3) := by decide +kernel
theorem dX10_said_8 : decode cX10_said 8 = .ok (.iconst (-1), 1) := by decide +kernel
theorem dX10_said_9 : decode cX10_said 9 = .ok (.ireturn, 1) := by decide +kernel
theorem dX10_said_10 : decode cX10_said 10 = .ok (.iconst 0, 1) := by decide +kernel
theorem dX10_said_11 : decode cX10_said 11 = .ok (.istore_n 2, 1) := by decide +kernel
theorem dX10_said_12 : decode cX10_said 12 = .ok (.iconst 0, 1) := by decide +kernel
theorem dX10_said_13 : decode cX10_said 13 = .ok (.istore_n 3, 1) := by decide +kernel
theorem dX10_said_14 : decode cX10_said 14 = .ok (.iload_n 3, 1) := by decide +kernel
theorem dX10_said_15 : decode cX10_said 15 = .ok (.bipush 6, 2) := by decide +kernel
theorem dX10_said_17 : decode cX10_said 17 = .ok (.if_icmp .gt 128, 3) := by decide +kernel
theorem dX10_said_20 : decode cX10_said 20 = .ok (.aload_n 0, 1) := by decide +kernel
theorem dX10_said_21 : decode cX10_said 21 = .ok (.invokevirtual 166, 3) := by decide +kernel
theorem dX10_said_24 : decode cX10_said 24 = .ok (.aload_n 0, 1) := by decide +kernel
theorem dX10_said_25 : decode cX10_said 25 = .ok (.getfield 50, 3) := by decide +kernel
theorem dX10_said_28 : decode cX10_said 28 = .ok (.iconst 2, 1) := by decide +kernel
theorem dX10_said_29 : decode cX10_said 29 = .ok (.iload_n 1, 1) := by decide +kernel
theorem dX10_said_30 : decode cX10_said 30 = .ok (.iadd, 1) := by decide +kernel
theorem dX10_said_31 : decode cX10_said 31 = .ok (.iload_n 3, 1) := by decide +kernel
theorem dX10_said_32 : decode cX10_said 32 = .ok (.bipush 6, 2) := by decide +kernel
theorem dX10_said_34 : decode cX10_said 34 = .ok (.if_icmp .ne 8, 3) := by decide +kernel
theorem dX10_said_37 : decode cX10_said 37 = .ok (.bipush 9, 2) := by decide +kernel
theorem dX10_said_39 : decode cX10_said 39 = .ok (.goto 4, 3) := by decide +kernel
theorem dX10_said_42 : decode cX10_said 42 = .ok (.iload_n 3, 1) := by decide +kernel
theorem dX10_said_43 : decode cX10_said 43 = .ok (.iastore, 1) := by decide +kernel
theorem dX10_said_44 : decode cX10_said 44 = .ok (.iconst 1, 1) := by decide +kernel
theorem dX10_said_45 : decode cX10_said 45 = .ok (.istore 4, 2) := by decide +kernel
theorem dX10_said_47 : decode cX10_said 47 = .ok (.iconst 0, 1) := by decide +kernel
theorem dX10_said_48 : decode cX10_said 48 = .ok (.istore 5, 2) := by decide +kernel
theorem dX10_said_50 : decode cX10_said 50 = .ok (.iload 5, 2) := by decide +kernel
theorem dX10_said_52 : decode cX10_said 52 = .ok (.aload_n 0, 1) := by decide +kernel
theorem dX10_said_53 : decode cX10_said 53 = .ok (.getfield 131, 3) := by decide +kernel
theorem dX10_said_56 : decode cX10_said 56 = .ok (.if_icmp .ge 68, 3) := by decide +kernel
theorem dX10_said_59 : decode cX10_said 59 = .ok (.iload 4, 2) := by decide +kernel
theorem dX10_said_61 : decode cX10_said 61 = .ok (.ifCond .eq 54, 3) := by decide +kernel
theorem dX10_said_64 : decode cX10_said 64 = .ok (.aload_n 0, 1) := by decide +kernel
theorem dX10_said_65 : decode cX10_said 65 = .ok (.aload_n 0, 1) := by decide +kernel
theorem dX10_said_66 : decode cX10_said 66 = .ok (.getfield 32, 3) := by decide +kernel
theorem dX10_said_69 : decode cX10_said 69 = .ok (.iconst 3, 1) := by decide +kernel
theorem dX10_said_70 : decode cX10_said 70 = .ok (.iload 5, 2) := by decide +kernel
theorem dX10_said_72 : decode cX10_said 72 = .ok (.imul, 1) := by decide +kernel
theorem dX10_said_73 : decode cX10_said 73 = .ok (.iaload, 1) := by decide +kernel
theorem dX10_said_74 : decode cX10_said 74 = .ok (.aload_n 0, 1) := by decide +kernel
theorem dX10_said_75 : decode cX10_said 75 = .ok (.getfield 32, 3) := by decide +kernel
theorem dX10_said_78 : decode cX10_said 78 = .ok (.iconst 3, 1) := by decide +kernel
theorem dX10_said_79 : decode cX10_said 79 = .ok (.iload 5, 2) := by decide +kernel
theorem dX10_said_81 : decode cX10_said 81 = .ok (.imul, 1) := by decide +kernel
theorem dX10_said_82 : decode cX10_said 82 = .ok (.iconst 1, 1) := by decide +kernel
theorem dX10_said_83 : decode cX10_said 83 = .ok (.iadd, 1) := by decide +kernel
theorem dX10_said_84 : decode cX10_said 84 = .ok (.iaload, 1) := by decide +kernel
theorem dX10_said_85 : decode cX10_said 85 = .ok (.invokevirtual 150, 3) := by decide +kernel
theorem dX10_said_88 : decode cX10_said 88 = .ok (.aload_n 0, 1) := by decide +kernel
theorem dX10_said_89 : decode cX10_said 89 = .ok (.getfield 32, 3) := by decide +kernel
theorem dX10_said_92 : decode cX10_said 92 = .ok (.iconst 3, 1) := by decide +kernel
theorem dX10_said_93 : decode cX10_said 93 = .ok (.iload 5, 2) := by decide +kernel
theorem dX10_said_95 : decode cX10_said 95 = .ok (.imul, 1) := by decide +kernel
theorem dX10_said_96 : decode cX10_said 96 = .ok (.iconst 2, 1) := by decide +kernel
theorem dX10_said_97 : decode cX10_said 97 = .ok (.iadd, 1) := by decide +kernel
theorem dX10_said_98 : decode cX10_said 98 = .ok (.iaload, 1) := by decide +kernel
theorem dX10_said_99 : decode cX10_said 99 = .ok (.iconst 1, 1) := by decide +kernel
theorem dX10_said_100 : decode cX10_said 100 = .ok (.if_icmp .ne 7, 3) := by decide +kernel
theorem dX10_said_103 : decode cX10_said 103 = .ok (.iconst 1, 1) := by decide +kernel
theorem dX10_said_104 : decode cX10_said 104 = .ok (.goto 4, 3) := by decide +kernel
theorem dX10_said_107 : decode cX10_said 107 = .ok (.iconst 0, 1) := by decide +kernel
theorem dX10_said_108 : decode cX10_said 108 = .ok (.if_icmp .ne 7, 3) := by decide +kernel
theorem dX10_said_111 : decode cX10_said 111 = .ok (.iconst 1, 1) := by decide +kernel
theorem dX10_said_112 : decode cX10_said 112 = .ok (.goto 4, 3) := by decide +kernel
theorem dX10_said_115 : decode cX10_said 115 = .ok (.iconst 0, 1) := by decide +kernel
theorem dX10_said_116 : decode cX10_said 116 = .ok (.istore 4, 2) := by decide +kernel
theorem dX10_said_118 : decode cX10_said 118 = .ok (.iinc 5 1, 3) := by decide +kernel
theorem dX10_said_121 : decode cX10_said 121 = .ok (.goto (-71), 3) := by decide +kernel
theorem dX10_said_124 : decode cX10_said 124 = .ok (.iload_n 2, 1) := by decide +kernel
theorem dX10_said_125 : decode cX10_said 125 = .ok (.iload 4, 2) := by decide +kernel
theorem dX10_said_127 : decode cX10_said 127 = .ok (.ifCond .eq 9, 3) := by decide +kernel
theorem dX10_said_130 : decode cX10_said 130 = .ok (.iconst 1, 1) := by decide +kernel
theorem dX10_said_131 : decode cX10_said 131 = .ok (.iload_n 3, 1) := by decide +kernel
theorem dX10_said_132 : decode cX10_said 132 = .ok (.ishl, 1) := by decide +kernel
theorem dX10_said_133 : decode cX10_said 133 = .ok (.goto 4, 3) := by decide +kernel
theorem dX10_said_136 : decode cX10_said 136 = .ok (.iconst 0, 1) := by decide +kernel
theorem dX10_said_137 : decode cX10_said 137 = .ok (.ior, 1) := by decide +kernel
theorem dX10_said_138 : decode cX10_said 138 = .ok (.istore_n 2, 1) := by decide +kernel
theorem dX10_said_139 : decode cX10_said 139 = .ok (.iinc 3 1, 3) := by decide +kernel
theorem dX10_said_142 : decode cX10_said 142 = .ok (.goto (-128), 3) := by decide +kernel
theorem dX10_said_145 : decode cX10_said 145 = .ok (.iload_n 2, 1) := by decide +kernel
theorem dX10_said_146 : decode cX10_said 146 = .ok (.ireturn, 1) := by decide +kernel
def r_X10_said : Room := { frames := 5, cells := 0, slots := 0, locals := 111 }
def f_X10_said_L50 (K : PH → Bool → Option (Int32 × PH)) (x0 : Nat) (x1 : Int32) (x2 : Int32) (x3 : Int32) : Nat → PH → Bool → Int32 → Option (Int32 × PH)
  | 0, _, _, _ => none
  | n + 1, P, x4, x5 =>
    (if (P.1 x0 10) ≤ x5 then K P x4 else (if (b2i x4) = 0 then f_X10_said_L50 K x0 x1 x2 x3 n P false (x5 + (1 : Int32)) else (if (((3 : Int32) * x5) < 0 ∨ 15 ≤ ((3 : Int32) * x5).toNatClampNeg) then none else (if ((((3 : Int32) * x5) + (1 : Int32)) < 0 ∨ 15 ≤ (((3 : Int32) * x5) + (1 : Int32)).toNatClampNeg) then none else ((f_X10_mayBe P x0 (P.1 (P.2.2 x0 11) ((3 : Int32) * x5).toNatClampNeg) (P.1 (P.2.2 x0 11) (((3 : Int32) * x5) + (1 : Int32)).toNatClampNeg)).bind fun q3 => (if ((((3 : Int32) * x5) + (2 : Int32)) < 0 ∨ 15 ≤ (((3 : Int32) * x5) + (2 : Int32)).toNatClampNeg) then none else (if (q3.2.1 (q3.2.2.2 x0 11) (((3 : Int32) * x5) + (2 : Int32)).toNatClampNeg) = (1 : Int32) then (if (b2i q3.1) = (1 : Int32) then f_X10_said_L50 K x0 x1 x2 x3 n q3.2 true (x5 + (1 : Int32)) else f_X10_said_L50 K x0 x1 x2 x3 n q3.2 false (x5 + (1 : Int32))) else (if (b2i q3.1) = (0 : Int32) then f_X10_said_L50 K x0 x1 x2 x3 n q3.2 true (x5 + (1 : Int32)) else f_X10_said_L50 K x0 x1 x2 x3 n q3.2 false (x5 + (1 : Int32))))))))))
theorem w_X10_said_L50 {x : Fx} {E : Ev} (S : ZS x E r_X10_said cX10_said 6 RX10 (some .int)) (M : ZM x E) {K : PH → Bool → Option (Int32 × PH)} (x0 : Nat) (x1 : Int32) (x2 : Int32) (x3 : Int32) (h_x0 : ok x0 8 0) (r : (Int32 × PH)) (hK : ∀ (P1 : PH) (y4 : Bool), K P1 y4 = some r → Wz x E 6 (QI E x r.1 r.2) P1 124 [(0, .ref (ad E x0)), (1, .int x1), (2, .int x2), (3, .int x3), (4, .int (b2i y4))] []) : ∀ (n : Nat) (P : PH) (x4 : Bool) (x5 : Int32), f_X10_said_L50 K x0 x1 x2 x3 n P x4 x5 = some r → Wz x E 6 (QI E x r.1 r.2) P 50 [(0, .ref (ad E x0)), (1, .int x1), (2, .int x2), (3, .int x3), (4, .int (b2i x4)), (5, .int x5)] [] := by
  intro n
  induction n with
  | zero => intro P x4 x5 hf; cases hf
  | succ n ih =>
    intro P x4 x5 hf
    unfold f_X10_said_L50 at hf
    refine z_iload S 5 dX10_said_50 rfl ?_
    refine z_aload_n S 0 dX10_said_52 rfl rfl ?_
    refine z_getI S cf_8 h_x0 10 (by decide) rfl wd677 dX10_said_53 ?_
    refine z_icmp_ge (tgt := 124) S dX10_said_56 (by decide) hf (fun hf => ?_) (fun hf => ?_)
    · refine z_sub [0, 1, 2, 3, 4] rfl ?_
      exact hK P x4 hf
    · refine z_iload S 4 dX10_said_59 rfl ?_
      refine z_if_eq (tgt := 115) S dX10_said_61 (by decide) hf (fun hf => ?_) (fun hf => ?_)
      · refine z_iconst (v := 0) S dX10_said_115 (by decide) ?_
        refine z_istore (lv' := [(4, .int (0 : Int32)), (0, .ref (ad E x0)), (1, .int x1), (2, .int x2), (3, .int x3), (5, .int x5)]) S dX10_said_116 (by decide) rfl ?_
        refine z_iinc (v := (x5 + (1 : Int32))) (lv' := [(5, .int (x5 + (1 : Int32))), (4, .int (0 : Int32)), (0, .ref (ad E x0)), (1, .int x1), (2, .int x2), (3, .int x3)]) S 5 dX10_said_118 rfl (by rfl) (by decide) rfl ?_
        refine z_goto (tgt := 50) S dX10_said_121 (by decide) ?_
        refine z_sub [2, 3, 4, 5, 1, 0] rfl ?_
        exact ih P false (x5 + (1 : Int32)) hf
      · refine z_aload_n S 0 dX10_said_64 rfl rfl ?_
        refine z_aload_n S 0 dX10_said_65 rfl rfl ?_
        refine z_getR (K' := 9) (n' := 15) S cf_8 h_x0 11 (by decide) rfl rfl rfl wd678 dX10_said_66 (fun h1 => ?_)
        refine z_iconst (v := 3) S dX10_said_69 (by decide) ?_
        refine z_iload S 5 dX10_said_70 rfl ?_
        refine z_imul S dX10_said_72 ?_
        refine z_iald S h1 dX10_said_73 hf (fun hf => ?_)
        refine z_aload_n S 0 dX10_said_74 rfl rfl ?_
        refine z_getR (K' := 9) (n' := 15) S cf_8 h_x0 11 (by decide) rfl rfl rfl wd678 dX10_said_75 (fun h2 => ?_)
        refine z_iconst (v := 3) S dX10_said_78 (by decide) ?_
        refine z_iload S 5 dX10_said_79 rfl ?_
        refine z_imul S dX10_said_81 ?_
        refine z_iconst (v := 1) S dX10_said_82 (by decide) ?_
        refine z_iadd S dX10_said_83 ?_
        refine z_iald S h2 dX10_said_84 hf (fun hf => ?_)
        refine z_callVI (rc := r_X10_mayBe) [.int (P.1 (P.2.2 x0 11) ((3 : Int32) * x5).toNatClampNeg), .int (P.1 (P.2.2 x0 11) (((3 : Int32) * x5) + (1 : Int32)).toNatClampNeg)] S mo_X10_mayBe wd827 wd19 wd825 h_x0 (by decide) cl_8 rfl rfl (by decide) (z_room0 S M (by rfl) (by rfl)) rfl (Nat.le_of_ble_eq_true rfl) rfl dX10_said_85 (fun q => b2i q.1) (fun q => q.2) (fun q hq => m_X10_mayBe (xl x) E _ _ _ _ h_x0 q hq) hf (fun q3 hf => ?_)
        refine z_aload_n S 0 dX10_said_88 rfl rfl ?_
        refine z_getR (K' := 9) (n' := 15) S cf_8 h_x0 11 (by decide) rfl rfl rfl wd678 dX10_said_89 (fun h4 => ?_)
        refine z_iconst (v := 3) S dX10_said_92 (by decide) ?_
        refine z_iload S 5 dX10_said_93 rfl ?_
        refine z_imul S dX10_said_95 ?_
        refine z_iconst (v := 2) S dX10_said_96 (by decide) ?_
        refine z_iadd S dX10_said_97 ?_
        refine z_iald S h4 dX10_said_98 hf (fun hf => ?_)
        refine z_iconst (v := 1) S dX10_said_99 (by decide) ?_
        refine z_icmp_ne (tgt := 107) S dX10_said_100 (by decide) hf (fun hf => ?_) (fun hf => ?_)
        · refine z_iconst (v := 1) S dX10_said_103 (by decide) ?_
          refine z_goto (tgt := 108) S dX10_said_104 (by decide) ?_
          refine z_icmp_ne (tgt := 115) S dX10_said_108 (by decide) hf (fun hf => ?_) (fun hf => ?_)
          · refine z_iconst (v := 1) S dX10_said_111 (by decide) ?_
            refine z_goto (tgt := 116) S dX10_said_112 (by decide) ?_
            refine z_istore (lv' := [(4, .int (1 : Int32)), (0, .ref (ad E x0)), (1, .int x1), (2, .int x2), (3, .int x3), (5, .int x5)]) S dX10_said_116 (by decide) rfl ?_
            refine z_iinc (v := (x5 + (1 : Int32))) (lv' := [(5, .int (x5 + (1 : Int32))), (4, .int (1 : Int32)), (0, .ref (ad E x0)), (1, .int x1), (2, .int x2), (3, .int x3)]) S 5 dX10_said_118 rfl (by rfl) (by decide) rfl ?_
            refine z_goto (tgt := 50) S dX10_said_121 (by decide) ?_
            refine z_sub [2, 3, 4, 5, 1, 0] rfl ?_
            exact ih q3.2 true (x5 + (1 : Int32)) hf
          · refine z_iconst (v := 0) S dX10_said_115 (by decide) ?_
            refine z_istore (lv' := [(4, .int (0 : Int32)), (0, .ref (ad E x0)), (1, .int x1), (2, .int x2), (3, .int x3), (5, .int x5)]) S dX10_said_116 (by decide) rfl ?_
            refine z_iinc (v := (x5 + (1 : Int32))) (lv' := [(5, .int (x5 + (1 : Int32))), (4, .int (0 : Int32)), (0, .ref (ad E x0)), (1, .int x1), (2, .int x2), (3, .int x3)]) S 5 dX10_said_118 rfl (by rfl) (by decide) rfl ?_
            refine z_goto (tgt := 50) S dX10_said_121 (by decide) ?_
            refine z_sub [2, 3, 4, 5, 1, 0] rfl ?_
            exact ih q3.2 false (x5 + (1 : Int32)) hf
        · refine z_iconst (v := 0) S dX10_said_107 (by decide) ?_
          refine z_icmp_ne (tgt := 115) S dX10_said_108 (by decide) hf (fun hf => ?_) (fun hf => ?_)
          · refine z_iconst (v := 1) S dX10_said_111 (by decide) ?_
            refine z_goto (tgt := 116) S dX10_said_112 (by decide) ?_
            refine z_istore (lv' := [(4, .int (1 : Int32)), (0, .ref (ad E x0)), (1, .int x1), (2, .int x2), (3, .int x3), (5, .int x5)]) S dX10_said_116 (by decide) rfl ?_
            refine z_iinc (v := (x5 + (1 : Int32))) (lv' := [(5, .int (x5 + (1 : Int32))), (4, .int (1 : Int32)), (0, .ref (ad E x0)), (1, .int x1), (2, .int x2), (3, .int x3)]) S 5 dX10_said_118 rfl (by rfl) (by decide) rfl ?_
            refine z_goto (tgt := 50) S dX10_said_121 (by decide) ?_
            refine z_sub [2, 3, 4, 5, 1, 0] rfl ?_
            exact ih q3.2 true (x5 + (1 : Int32)) hf
          · refine z_iconst (v := 0) S dX10_said_115 (by decide) ?_
            refine z_istore (lv' := [(4, .int (0 : Int32)), (0, .ref (ad E x0)), (1, .int x1), (2, .int x2), (3, .int x3), (5, .int x5)]) S dX10_said_116 (by decide) rfl ?_
            refine z_iinc (v := (x5 + (1 : Int32))) (lv' := [(5, .int (x5 + (1 : Int32))), (4, .int (0 : Int32)), (0, .ref (ad E x0)), (1, .int x1), (2, .int x2), (3, .int x3)]) S 5 dX10_said_118 rfl (by rfl) (by decide) rfl ?_
            refine z_goto (tgt := 50) S dX10_said_121 (by decide) ?_
            refine z_sub [2, 3, 4, 5, 1, 0] rfl ?_
            exact ih q3.2 false (x5 + (1 : Int32)) hf
def f_X10_said_L14 (K : PH → Int32 → Option (Int32 × PH)) (x0 : Nat) (x1 : Int32) : Nat → PH → Int32 → Int32 → Option (Int32 × PH)
  | 0, _, _, _ => none
  | n + 1, P, x2, x3 =>
    (if (6 : Int32) < x3 then K P x2 else ((f_X10_asItIs P x0).bind fun q5 => (if x3 = (6 : Int32) then (if (((2 : Int32) + x1) < 0 ∨ 46 ≤ ((2 : Int32) + x1).toNatClampNeg) then none else ((some (sI q5 (q5.2.2 x0 26) ((2 : Int32) + x1).toNatClampNeg (9 : Int32))).bind fun P7 => f_X10_said_L50 (fun P9 v8 => (if (b2i v8) = 0 then f_X10_said_L14 K x0 x1 n P9 (x2 ||| (0 : Int32)) (x3 + (1 : Int32)) else f_X10_said_L14 K x0 x1 n P9 (x2 ||| ((1 : Int32) <<< (x3 &&& 31))) (x3 + (1 : Int32)))) x0 x1 x2 x3 1000 P7 true (0 : Int32))) else (if (((2 : Int32) + x1) < 0 ∨ 46 ≤ ((2 : Int32) + x1).toNatClampNeg) then none else ((some (sI q5 (q5.2.2 x0 26) ((2 : Int32) + x1).toNatClampNeg x3)).bind fun P10 => f_X10_said_L50 (fun P12 v11 => (if (b2i v11) = 0 then f_X10_said_L14 K x0 x1 n P12 (x2 ||| (0 : Int32)) (x3 + (1 : Int32)) else f_X10_said_L14 K x0 x1 n P12 (x2 ||| ((1 : Int32) <<< (x3 &&& 31))) (x3 + (1 : Int32)))) x0 x1 x2 x3 1000 P10 true (0 : Int32))))))
theorem w_X10_said_L14 {x : Fx} {E : Ev} (S : ZS x E r_X10_said cX10_said 6 RX10 (some .int)) (M : ZM x E) {K : PH → Int32 → Option (Int32 × PH)} (x0 : Nat) (x1 : Int32) (h_x0 : ok x0 8 0) (r : (Int32 × PH)) (hK : ∀ (P1 : PH) (y2 : Int32), K P1 y2 = some r → Wz x E 6 (QI E x r.1 r.2) P1 145 [(2, .int y2)] []) : ∀ (n : Nat) (P : PH) (x2 : Int32) (x3 : Int32), f_X10_said_L14 K x0 x1 n P x2 x3 = some r → Wz x E 6 (QI E x r.1 r.2) P 14 [(0, .ref (ad E x0)), (1, .int x1), (2, .int x2), (3, .int x3)] [] := by
  intro n
  induction n with
  | zero => intro P x2 x3 hf; cases hf
  | succ n ih =>
    intro P x2 x3 hf
    unfold f_X10_said_L14 at hf
    refine z_iload_n S 3 dX10_said_14 rfl rfl ?_
    refine z_bipush (v := 6) S dX10_said_15 (by decide) ?_
    refine z_icmp_gt (tgt := 145) S dX10_said_17 (by decide) hf (fun hf => ?_) (fun hf => ?_)
    · refine z_sub [2] rfl ?_
      exact hK P x2 hf
    · refine z_aload_n S 0 dX10_said_20 rfl rfl ?_
      refine z_callVV (rc := r_X10_asItIs) [] S mo_X10_asItIs wd819 wd17 wd817 h_x0 (by decide) cl_8 rfl rfl (by decide) (z_room0 S M (by rfl) (by rfl)) rfl (Nat.le_of_ble_eq_true rfl) rfl dX10_said_21  (fun q => q) (fun q hq => m_X10_asItIs (xl x) E _ _ h_x0 q hq) hf (fun q5 hf => ?_)
      refine z_aload_n S 0 dX10_said_24 rfl rfl ?_
      refine z_getR (K' := 9) (n' := 46) S cf_8 h_x0 26 (by decide) rfl rfl rfl wd693 dX10_said_25 (fun h6 => ?_)
      refine z_iconst (v := 2) S dX10_said_28 (by decide) ?_
      refine z_iload_n S 1 dX10_said_29 rfl rfl ?_
      refine z_iadd S dX10_said_30 ?_
      refine z_iload_n S 3 dX10_said_31 rfl rfl ?_
      refine z_bipush (v := 6) S dX10_said_32 (by decide) ?_
      refine z_icmp_ne (tgt := 42) S dX10_said_34 (by decide) hf (fun hf => ?_) (fun hf => ?_)
      · refine z_bipush (v := 9) S dX10_said_37 (by decide) ?_
        refine z_goto (tgt := 43) S dX10_said_39 (by decide) ?_
        refine z_iast S h6 dX10_said_43 hf (fun hf => ?_)
        refine z_nmP hf (fun P7 hf => ?_)
        refine z_iconst (v := 1) S dX10_said_44 (by decide) ?_
        refine z_istore (lv' := [(4, .int (1 : Int32)), (0, .ref (ad E x0)), (1, .int x1), (2, .int x2), (3, .int x3)]) S dX10_said_45 (by decide) rfl ?_
        refine z_iconst (v := 0) S dX10_said_47 (by decide) ?_
        refine z_istore (lv' := [(5, .int (0 : Int32)), (4, .int (1 : Int32)), (0, .ref (ad E x0)), (1, .int x1), (2, .int x2), (3, .int x3)]) S dX10_said_48 (by decide) rfl ?_
        refine z_sub [2, 3, 4, 5, 1, 0] rfl ?_
        refine w_X10_said_L50 S M x0 x1 x2 x3 h_x0 r (fun P9 v8 hf => ?_) 1000 P7 true (0 : Int32) hf
        refine z_iload_n S 2 dX10_said_124 rfl rfl ?_
        refine z_iload S 4 dX10_said_125 rfl ?_
        refine z_if_eq (tgt := 136) S dX10_said_127 (by decide) hf (fun hf => ?_) (fun hf => ?_)
        · refine z_iconst (v := 0) S dX10_said_136 (by decide) ?_
          refine z_ior S dX10_said_137 ?_
          refine z_istore_n (lv' := [(2, .int (x2 ||| (0 : Int32))), (0, .ref (ad E x0)), (1, .int x1), (3, .int x3), (4, .int (b2i v8))]) S dX10_said_138 rfl (by decide) rfl ?_
          refine z_iinc (v := (x3 + (1 : Int32))) (lv' := [(3, .int (x3 + (1 : Int32))), (2, .int (x2 ||| (0 : Int32))), (0, .ref (ad E x0)), (1, .int x1), (4, .int (b2i v8))]) S 3 dX10_said_139 rfl (by rfl) (by decide) rfl ?_
          refine z_goto (tgt := 14) S dX10_said_142 (by decide) ?_
          refine z_sub [2, 3, 1, 0] rfl ?_
          exact ih P9 (x2 ||| (0 : Int32)) (x3 + (1 : Int32)) hf
        · refine z_iconst (v := 1) S dX10_said_130 (by decide) ?_
          refine z_iload_n S 3 dX10_said_131 rfl rfl ?_
          refine z_ishl S dX10_said_132 ?_
          refine z_goto (tgt := 137) S dX10_said_133 (by decide) ?_
          refine z_ior S dX10_said_137 ?_
          refine z_istore_n (lv' := [(2, .int (x2 ||| ((1 : Int32) <<< (x3 &&& 31)))), (0, .ref (ad E x0)), (1, .int x1), (3, .int x3), (4, .int (b2i v8))]) S dX10_said_138 rfl (by decide) rfl ?_
          refine z_iinc (v := (x3 + (1 : Int32))) (lv' := [(3, .int (x3 + (1 : Int32))), (2, .int (x2 ||| ((1 : Int32) <<< (x3 &&& 31)))), (0, .ref (ad E x0)), (1, .int x1), (4, .int (b2i v8))]) S 3 dX10_said_139 rfl (by rfl) (by decide) rfl ?_
          refine z_goto (tgt := 14) S dX10_said_142 (by decide) ?_
          refine z_sub [2, 3, 1, 0] rfl ?_
          exact ih P9 (x2 ||| ((1 : Int32) <<< (x3 &&& 31))) (x3 + (1 : Int32)) hf
      · refine z_iload_n S 3 dX10_said_42 rfl rfl ?_
        refine z_iast S h6 dX10_said_43 hf (fun hf => ?_)
        refine z_nmP hf (fun P10 hf => ?_)
        refine z_iconst (v := 1) S dX10_said_44 (by decide) ?_
        refine z_istore (lv' := [(4, .int (1 : Int32)), (0, .ref (ad E x0)), (1, .int x1), (2, .int x2), (3, .int x3)]) S dX10_said_45 (by decide) rfl ?_
        refine z_iconst (v := 0) S dX10_said_47 (by decide) ?_
        refine z_istore (lv' := [(5, .int (0 : Int32)), (4, .int (1 : Int32)), (0, .ref (ad E x0)), (1, .int x1), (2, .int x2), (3, .int x3)]) S dX10_said_48 (by decide) rfl ?_
        refine z_sub [2, 3, 4, 5, 1, 0] rfl ?_
        refine w_X10_said_L50 S M x0 x1 x2 x3 h_x0 r (fun P12 v11 hf => ?_) 1000 P10 true (0 : Int32) hf
        refine z_iload_n S 2 dX10_said_124 rfl rfl ?_
        refine z_iload S 4 dX10_said_125 rfl ?_
        refine z_if_eq (tgt := 136) S dX10_said_127 (by decide) hf (fun hf => ?_) (fun hf => ?_)
        · refine z_iconst (v := 0) S dX10_said_136 (by decide) ?_
          refine z_ior S dX10_said_137 ?_
          refine z_istore_n (lv' := [(2, .int (x2 ||| (0 : Int32))), (0, .ref (ad E x0)), (1, .int x1), (3, .int x3), (4, .int (b2i v11))]) S dX10_said_138 rfl (by decide) rfl ?_
          refine z_iinc (v := (x3 + (1 : Int32))) (lv' := [(3, .int (x3 + (1 : Int32))), (2, .int (x2 ||| (0 : Int32))), (0, .ref (ad E x0)), (1, .int x1), (4, .int (b2i v11))]) S 3 dX10_said_139 rfl (by rfl) (by decide) rfl ?_
          refine z_goto (tgt := 14) S dX10_said_142 (by decide) ?_
          refine z_sub [2, 3, 1, 0] rfl ?_
          exact ih P12 (x2 ||| (0 : Int32)) (x3 + (1 : Int32)) hf
        · refine z_iconst (v := 1) S dX10_said_130 (by decide) ?_
          refine z_iload_n S 3 dX10_said_131 rfl rfl ?_
          refine z_ishl S dX10_said_132 ?_
          refine z_goto (tgt := 137) S dX10_said_133 (by decide) ?_
          refine z_ior S dX10_said_137 ?_
          refine z_istore_n (lv' := [(2, .int (x2 ||| ((1 : Int32) <<< (x3 &&& 31)))), (0, .ref (ad E x0)), (1, .int x1), (3, .int x3), (4, .int (b2i v11))]) S dX10_said_138 rfl (by decide) rfl ?_
          refine z_iinc (v := (x3 + (1 : Int32))) (lv' := [(3, .int (x3 + (1 : Int32))), (2, .int (x2 ||| ((1 : Int32) <<< (x3 &&& 31)))), (0, .ref (ad E x0)), (1, .int x1), (4, .int (b2i v11))]) S 3 dX10_said_139 rfl (by rfl) (by decide) rfl ?_
          refine z_goto (tgt := 14) S dX10_said_142 (by decide) ?_
          refine z_sub [2, 3, 1, 0] rfl ?_
          exact ih P12 (x2 ||| ((1 : Int32) <<< (x3 &&& 31))) (x3 + (1 : Int32)) hf
def f_X10_said (P : PH) (x0 : Nat) (x1 : Int32) : Option (Int32 × PH) :=
  ((f_X10_isPerson P x0 x1).bind fun q13 => (if (b2i q13) = 0 then some ((-1 : Int32), P) else f_X10_said_L14 (fun P15 v14 => some (v14, P15)) x0 x1 1000 P (0 : Int32) (0 : Int32)))
theorem w_X10_said {x : Fx} {E : Ev} (S : ZS x E r_X10_said cX10_said 6 RX10 (some .int)) (M : ZM x E) (P : PH) (x0 : Nat) (x1 : Int32) (h_x0 : ok x0 8 0) (r : (Int32 × PH)) (hf : f_X10_said P x0 x1 = some r) : Wz x E 6 (QI E x r.1 r.2) P 0 [(0, .ref (ad E x0)), (1, .int x1)] [] := by
  unfold f_X10_said at hf
  refine z_aload_n S 0 dX10_said_0 rfl rfl ?_
  refine z_iload_n S 1 dX10_said_1 rfl rfl ?_
  refine z_callVI (rc := r_X10_isPerson) [.int x1] S mo_X10_isPerson wd815 wd16 wd813 h_x0 (by decide) cl_8 rfl rfl (by decide) (z_room0 S M (by rfl) (by rfl)) rfl (Nat.le_of_ble_eq_true rfl) rfl dX10_said_2 (fun q => b2i q) (fun _ => P) (fun q hq => m_X10_isPerson (xl x) E _ _ _ h_x0 q hq) hf (fun q13 hf => ?_)
  refine z_if_ne (tgt := 10) S dX10_said_5 (by decide) hf (fun hf => ?_) (fun hf => ?_)
  · refine z_iconst (v := (-1 : Int32)) S dX10_said_8 (by decide) ?_
    exact z_iretI (v := (-1 : Int32)) S M rfl dX10_said_9 hf
  · refine z_iconst (v := 0) S dX10_said_10 (by decide) ?_
    refine z_istore_n (lv' := [(2, .int (0 : Int32)), (0, .ref (ad E x0)), (1, .int x1)]) S dX10_said_11 rfl (by decide) rfl ?_
    refine z_iconst (v := 0) S dX10_said_12 (by decide) ?_
    refine z_istore_n (lv' := [(3, .int (0 : Int32)), (2, .int (0 : Int32)), (0, .ref (ad E x0)), (1, .int x1)]) S dX10_said_13 rfl (by decide) rfl ?_
    refine z_sub [2, 3, 1, 0] rfl ?_
    refine w_X10_said_L14 S M x0 x1 h_x0 r (fun P15 v14 hf => ?_) 1000 P (0 : Int32) (0 : Int32) hf
    refine z_iload_n S 0 dX10_said_145 rfl rfl ?_
    exact z_iretI (v := v14) S M rfl dX10_said_146 hf
theorem m_X10_said (l : Launch) (E : Ev) (P : PH) (x0 : Nat) (x1 : Int32) (h_x0 : ok x0 8 0) (r : (Int32 × PH)) (hf : f_X10_said P x0 x1 = some r) : CtI l E yX10_said cX10_said 6 (some .int) r_X10_said [.ref (ad E x0), .int x1] P r.1 r.2 :=
  z_body (own := RX10) (by decide +kernel) rfl (Nat.le_of_ble_eq_true rfl) rfl (fun x _ S M => w_X10_said S M P x0 x1 h_x0 r hf)
-- yX10_last
theorem dX10_last_0 : decode cX10_last 0 = .ok (.aload_n 0, 1) := by decide +kernel
theorem dX10_last_1 : decode cX10_last 1 = .ok (.iload_n 1, 1) := by decide +kernel
theorem dX10_last_2 : decode cX10_last 2 = .ok (.iconst 1, 1) := by decide +kernel
theorem dX10_last_3 : decode cX10_last 3 = .ok (.invokevirtual 189, 3) := by decide +kernel
theorem dX10_last_6 : decode cX10_last 6 = .ok (.istore_n 2, 1) := by decide +kernel
theorem dX10_last_7 : decode cX10_last 7 = .ok (.iload_n 2, 1) := by decide +kernel
theorem dX10_last_8 : decode cX10_last 8 = .ok (.ifCond .ge 5, 3) := by decide +kernel
theorem dX10_last_11 : decode cX10_last 11 = .ok (.iload_n 2, 1) := by decide +kernel
theorem dX10_last_12 : decode cX10_last 12 = .ok (.ireturn, 1) := by decide +kernel
theorem dX10_last_13 : decode cX10_last 13 = .ok (.aload_n 0, 1) := by decide +kernel
theorem dX10_last_14 : decode cX10_last 14 = .ok (.invokevirtual 166, 3) := by decide +kernel
theorem dX10_last_17 : decode cX10_last 17 = .ok (.aload_n 0, 1) := by decide +kernel
theorem dX10_last_18 : decode cX10_last 18 = .ok (.getfield 50, 3) := by decide +kernel
theorem dX10_last_21 : decode cX10_last 21 = .ok (.iconst 1, 1) := by decide +kernel
theorem dX10_last_22 : decode cX10_last 22 = .ok (.iconst 1, 1) := by decide +kernel
theorem dX10_last_23 : decode cX10_last 23 = .ok (.iload_n 1, 1) := by decide +kernel
theorem dX10_last_24 : decode cX10_last 24 = .ok (.ishl, 1) := by decide +kernel
theorem dX10_last_25 : decode cX10_last 25 = .ok (.iastore, 1) := by decide +kernel
theorem dX10_last_26 : decode cX10_last 26 = .ok (.iconst 0, 1) := by decide +kernel
theorem dX10_last_27 : decode cX10_last 27 = .ok (.istore_n 3, 1) := by decide +kernel
theorem dX10_last_28 : decode cX10_last 28 = .ok (.iconst 0, 1) := by decide +kernel
theorem dX10_last_29 : decode cX10_last 29 = .ok (.istore 4, 2) := by decide +kernel
theorem dX10_last_31 : decode cX10_last 31 = .ok (.iload 4, 2) := by decide +kernel
theorem dX10_last_33 : decode cX10_last 33 = .ok (.aload_n 0, 1) := by decide +kernel
theorem dX10_last_34 : decode cX10_last 34 = .ok (.getfield 61, 3) := by decide +kernel
theorem dX10_last_37 : decode cX10_last 37 = .ok (.if_icmp .ge 27, 3) := by decide +kernel
theorem dX10_last_40 : decode cX10_last 40 = .ok (.iload_n 3, 1) := by decide +kernel
theorem dX10_last_41 : decode cX10_last 41 = .ok (.aload_n 0, 1) := by decide +kernel
theorem dX10_last_42 : decode cX10_last 42 = .ok (.iload 4, 2) := by decide +kernel
theorem dX10_last_44 : decode cX10_last 44 = .ok (.invokevirtual 147, 3) := by decide +kernel
theorem dX10_last_47 : decode cX10_last 47 = .ok (.iload_n 1, 1) := by decide +kernel
theorem dX10_last_48 : decode cX10_last 48 = .ok (.if_icmp .ne 7, 3) := by decide +kernel
theorem dX10_last_51 : decode cX10_last 51 = .ok (.iconst 1, 1) := by decide +kernel
theorem dX10_last_52 : decode cX10_last 52 = .ok (.goto 4, 3) := by decide +kernel
theorem dX10_last_55 : decode cX10_last 55 = .ok (.iconst 0, 1) := by decide +kernel
theorem dX10_last_56 : decode cX10_last 56 = .ok (.iadd, 1) := by decide +kernel
theorem dX10_last_57 : decode cX10_last 57 = .ok (.istore_n 3, 1) := by decide +kernel
theorem dX10_last_58 : decode cX10_last 58 = .ok (.iinc 4 1, 3) := by decide +kernel
theorem dX10_last_61 : decode cX10_last 61 = .ok (.goto (-30), 3) := by decide +kernel
theorem dX10_last_64 : decode cX10_last 64 = .ok (.iload_n 3, 1) := by decide +kernel
theorem dX10_last_65 : decode cX10_last 65 = .ok (.ireturn, 1) := by decide +kernel
def r_X10_last : Room := { frames := 4, cells := 0, slots := 0, locals := 86 }
def f_X10_last_L31 (K : PH → Int32 → Option (Int32 × PH)) (x0 : Nat) (x1 : Int32) : Nat → PH → Int32 → Int32 → Option (Int32 × PH)
  | 0, _, _, _ => none
  | n + 1, P, x3, x4 =>
    (if (P.1 x0 1) ≤ x4 then K P x3 else ((f_X10_ownerOf P x0 x4).bind fun q1 => (if q1.1 = x1 then f_X10_last_L31 K x0 x1 n q1.2 (x3 + (1 : Int32)) (x4 + (1 : Int32)) else f_X10_last_L31 K x0 x1 n q1.2 (x3 + (0 : Int32)) (x4 + (1 : Int32)))))
theorem w_X10_last_L31 {x : Fx} {E : Ev} (S : ZS x E r_X10_last cX10_last 5 RX10 (some .int)) (M : ZM x E) {K : PH → Int32 → Option (Int32 × PH)} (x0 : Nat) (x1 : Int32) (h_x0 : ok x0 8 0) (r : (Int32 × PH)) (hK : ∀ (P1 : PH) (y3 : Int32), K P1 y3 = some r → Wz x E 5 (QI E x r.1 r.2) P1 64 [(3, .int y3)] []) : ∀ (n : Nat) (P : PH) (x3 : Int32) (x4 : Int32), f_X10_last_L31 K x0 x1 n P x3 x4 = some r → Wz x E 5 (QI E x r.1 r.2) P 31 [(0, .ref (ad E x0)), (1, .int x1), (3, .int x3), (4, .int x4)] [] := by
  intro n
  induction n with
  | zero => intro P x3 x4 hf; cases hf
  | succ n ih =>
    intro P x3 x4 hf
    unfold f_X10_last_L31 at hf
    refine z_iload S 3 dX10_last_31 rfl ?_
    refine z_aload_n S 0 dX10_last_33 rfl rfl ?_
    refine z_getI S cf_8 h_x0 1 (by decide) rfl wd668 dX10_last_34 ?_
    refine z_icmp_ge (tgt := 64) S dX10_last_37 (by decide) hf (fun hf => ?_) (fun hf => ?_)
    · refine z_sub [2] rfl ?_
      exact hK P x3 hf
    · refine z_iload_n S 2 dX10_last_40 rfl rfl ?_
      refine z_aload_n S 0 dX10_last_41 rfl rfl ?_
      refine z_iload S 3 dX10_last_42 rfl ?_
      refine z_callVI (rc := r_X10_ownerOf) [.int x4] S mo_X10_ownerOf wd838 wd21 wd836 h_x0 (by decide) cl_8 rfl rfl (by decide) (z_room0 S M (by rfl) (by rfl)) rfl (Nat.le_of_ble_eq_true rfl) rfl dX10_last_44 (fun q => q.1) (fun q => q.2) (fun q hq => m_X10_ownerOf (xl x) E _ _ _ h_x0 q hq) hf (fun q1 hf => ?_)
      refine z_iload_n S 1 dX10_last_47 rfl rfl ?_
      refine z_icmp_ne (tgt := 55) S dX10_last_48 (by decide) hf (fun hf => ?_) (fun hf => ?_)
      · refine z_iconst (v := 1) S dX10_last_51 (by decide) ?_
        refine z_goto (tgt := 56) S dX10_last_52 (by decide) ?_
        refine z_iadd S dX10_last_56 ?_
        refine z_istore_n (lv' := [(3, .int (x3 + (1 : Int32))), (0, .ref (ad E x0)), (1, .int x1), (4, .int x4)]) S dX10_last_57 rfl (by decide) rfl ?_
        refine z_iinc (v := (x4 + (1 : Int32))) (lv' := [(4, .int (x4 + (1 : Int32))), (3, .int (x3 + (1 : Int32))), (0, .ref (ad E x0)), (1, .int x1)]) S 3 dX10_last_58 rfl (by rfl) (by decide) rfl ?_
        refine z_goto (tgt := 31) S dX10_last_61 (by decide) ?_
        refine z_sub [2, 3, 1, 0] rfl ?_
        exact ih q1.2 (x3 + (1 : Int32)) (x4 + (1 : Int32)) hf
      · refine z_iconst (v := 0) S dX10_last_55 (by decide) ?_
        refine z_iadd S dX10_last_56 ?_
        refine z_istore_n (lv' := [(3, .int (x3 + (0 : Int32))), (0, .ref (ad E x0)), (1, .int x1), (4, .int x4)]) S dX10_last_57 rfl (by decide) rfl ?_
        refine z_iinc (v := (x4 + (1 : Int32))) (lv' := [(4, .int (x4 + (1 : Int32))), (3, .int (x3 + (0 : Int32))), (0, .ref (ad E x0)), (1, .int x1)]) S 3 dX10_last_58 rfl (by rfl) (by decide) rfl ?_
        refine z_goto (tgt := 31) S dX10_last_61 (by decide) ?_
        refine z_sub [2, 3, 1, 0] rfl ?_
        exact ih q1.2 (x3 + (0 : Int32)) (x4 + (1 : Int32)) hf
def f_X10_last (P : PH) (x0 : Nat) (x1 : Int32) : Option (Int32 × PH) :=
  ((f_X10_refused P x0 x1 (1 : Int32)).bind fun q2 => (if 0 ≤ q2 then ((f_X10_asItIs P x0).bind fun q3 => (if ((1 : Int32) < 0 ∨ 46 ≤ (1 : Int32).toNatClampNeg) then none else ((some (sI q3 (q3.2.2 x0 26) (1 : Int32).toNatClampNeg ((1 : Int32) <<< (x1 &&& 31)))).bind fun P5 => f_X10_last_L31 (fun P7 v6 => some (v6, P7)) x0 x1 1000 P5 (0 : Int32) (0 : Int32)))) else some (q2, P)))
theorem w_X10_last {x : Fx} {E : Ev} (S : ZS x E r_X10_last cX10_last 5 RX10 (some .int)) (M : ZM x E) (P : PH) (x0 : Nat) (x1 : Int32) (h_x0 : ok x0 8 0) (r : (Int32 × PH)) (hf : f_X10_last P x0 x1 = some r) : Wz x E 5 (QI E x r.1 r.2) P 0 [(0, .ref (ad E x0)), (1, .int x1)] [] := by
  unfold f_X10_last at hf
  refine z_aload_n S 0 dX10_last_0 rfl rfl ?_
  refine z_iload_n S 1 dX10_last_1 rfl rfl ?_
  refine z_iconst (v := 1) S dX10_last_2 (by decide) ?_
  refine z_callVI (rc := r_X10_refused) [.int x1, .int (1 : Int32)] S mo_X10_refused wd920 wd29 wd918 h_x0 (by decide) cl_8 rfl rfl (by decide) (z_room0 S M (by rfl) (by rfl)) rfl (Nat.le_of_ble_eq_true rfl) rfl dX10_last_3 (fun q => q) (fun _ => P) (fun q hq => m_X10_refused (xl x) E _ _ _ _ h_x0 q hq) hf (fun q2 hf => ?_)
  refine z_istore_n (lv' := [(2, .int q2), (0, .ref (ad E x0)), (1, .int x1)]) S dX10_last_6 rfl (by decide) rfl ?_
  refine z_iload_n S 0 dX10_last_7 rfl rfl ?_
  refine z_if_ge (tgt := 13) S dX10_last_8 (by decide) hf (fun hf => ?_) (fun hf => ?_)
  · refine z_aload_n S 1 dX10_last_13 rfl rfl ?_
    refine z_callVV (rc := r_X10_asItIs) [] S mo_X10_asItIs wd819 wd17 wd817 h_x0 (by decide) cl_8 rfl rfl (by decide) (z_room0 S M (by rfl) (by rfl)) rfl (Nat.le_of_ble_eq_true rfl) rfl dX10_last_14  (fun q => q) (fun q hq => m_X10_asItIs (xl x) E _ _ h_x0 q hq) hf (fun q3 hf => ?_)
    refine z_aload_n S 1 dX10_last_17 rfl rfl ?_
    refine z_getR (K' := 9) (n' := 46) S cf_8 h_x0 26 (by decide) rfl rfl rfl wd693 dX10_last_18 (fun h4 => ?_)
    refine z_iconst (v := 1) S dX10_last_21 (by decide) ?_
    refine z_iconst (v := 1) S dX10_last_22 (by decide) ?_
    refine z_iload_n S 2 dX10_last_23 rfl rfl ?_
    refine z_ishl S dX10_last_24 ?_
    refine z_iast S h4 dX10_last_25 hf (fun hf => ?_)
    refine z_nmP hf (fun P5 hf => ?_)
    refine z_iconst (v := 0) S dX10_last_26 (by decide) ?_
    refine z_istore_n (lv' := [(3, .int (0 : Int32)), (2, .int q2), (0, .ref (ad E x0)), (1, .int x1)]) S dX10_last_27 rfl (by decide) rfl ?_
    refine z_iconst (v := 0) S dX10_last_28 (by decide) ?_
    refine z_istore (lv' := [(4, .int (0 : Int32)), (3, .int (0 : Int32)), (2, .int q2), (0, .ref (ad E x0)), (1, .int x1)]) S dX10_last_29 (by decide) rfl ?_
    refine z_sub [3, 4, 1, 0] rfl ?_
    refine w_X10_last_L31 S M x0 x1 h_x0 r (fun P7 v6 hf => ?_) 1000 P5 (0 : Int32) (0 : Int32) hf
    refine z_iload_n S 0 dX10_last_64 rfl rfl ?_
    exact z_iretI (v := v6) S M rfl dX10_last_65 hf
  · refine z_iload_n S 0 dX10_last_11 rfl rfl ?_
    exact z_iretI (v := q2) S M rfl dX10_last_12 hf
theorem m_X10_last (l : Launch) (E : Ev) (P : PH) (x0 : Nat) (x1 : Int32) (h_x0 : ok x0 8 0) (r : (Int32 × PH)) (hf : f_X10_last P x0 x1 = some r) : CtI l E yX10_last cX10_last 5 (some .int) r_X10_last [.ref (ad E x0), .int x1] P r.1 r.2 :=
  z_body (own := RX10) (by decide +kernel) rfl (Nat.le_of_ble_eq_true rfl) rfl (fun x _ S M => w_X10_last S M P x0 x1 h_x0 r hf)
-- yX10_waits
theorem dX10_waits_0 : decode cX10_waits 0 = .ok (.aload_n 0, 1) := by decide +kernel
theorem dX10_waits_1 : decode cX10_waits 1 = .ok (.iload_n 1, 1) := by decide +kernel
theorem dX10_waits_2 : decode cX10_waits 2 = .ok (.aload_n 0, 1) := by decide +kernel
theorem dX10_waits_3 : decode cX10_waits 3 = .ok (.iload_n 2, 1) := by decide +kernel
theorem dX10_waits_4 : decode cX10_waits 4 = .ok (.invokevirtual 169, 3) := by decide +kernel
theorem dX10_waits_7 : decode cX10_waits 7 = .ok (.invokevirtual 189, 3) := by decide +kernel
theorem dX10_waits_10 : decode cX10_waits 10 = .ok (.istore_n 3, 1) := by decide +kernel
theorem dX10_waits_11 : decode cX10_waits 11 = .ok (.iload_n 3, 1) := by decide +kernel
theorem dX10_waits_12 : decode cX10_waits 12 = .ok (.ifCond .ge 5, 3) := by decide +kernel
theorem dX10_waits_15 : decode cX10_waits 15 = .ok (.iload_n 3, 1) := by decide +kernel
theorem dX10_waits_16 : decode cX10_waits 16 = .ok (.ireturn, 1) := by decide +kernel
theorem dX10_waits_17 : decode cX10_waits 17 = .ok (.aload_n 0, 1) := by decide +kernel
theorem dX10_waits_18 : decode cX10_waits 18 = .ok (.invokevirtual 166, 3) := by decide +kernel
theorem dX10_waits_21 : decode cX10_waits 21 = .ok (.bipush (-9), 2) := by decide +kernel
theorem dX10_waits_23 : decode cX10_waits 23 = .ok (.istore 4, 2) := by decide +kernel
theorem dX10_waits_25 : decode cX10_waits 25 = .ok (.iconst 0, 1) := by decide +kernel
theorem dX10_waits_26 : decode cX10_waits 26 = .ok (.istore 5, 2) := by decide +kernel
theorem dX10_waits_28 : decode cX10_waits 28 = .ok (.iload 5, 2) := by decide +kernel
theorem dX10_waits_30 : decode cX10_waits 30 = .ok (.iconst 1, 1) := by decide +kernel
theorem dX10_waits_31 : decode cX10_waits 31 = .ok (.aload_n 0, 1) := by decide +kernel
theorem dX10_waits_32 : decode cX10_waits 32 = .ok (.getfield 53, 3) := by decide +kernel
theorem dX10_waits_35 : decode cX10_waits 35 = .ok (.ishl, 1) := by decide +kernel
theorem dX10_waits_36 : decode cX10_waits 36 = .ok (.if_icmp .ge 109, 3) := by decide +kernel
theorem dX10_waits_39 : decode cX10_waits 39 = .ok (.iload 5, 2) := by decide +kernel
theorem dX10_waits_41 : decode cX10_waits 41 = .ok (.aload_n 0, 1) := by decide +kernel
theorem dX10_waits_42 : decode cX10_waits 42 = .ok (.getfield 19, 3) := by decide +kernel
theorem dX10_waits_45 : decode cX10_waits 45 = .ok (.iconst 1, 1) := by decide +kernel
theorem dX10_waits_46 : decode cX10_waits 46 = .ok (.iaload, 1) := by decide +kernel
theorem dX10_waits_47 : decode cX10_waits 47 = .ok (.iconst (-1), 1) := by decide +kernel
theorem dX10_waits_48 : decode cX10_waits 48 = .ok (.ixor, 1) := by decide +kernel
theorem dX10_waits_49 : decode cX10_waits 49 = .ok (.iand, 1) := by decide +kernel
theorem dX10_waits_50 : decode cX10_waits 50 = .ok (.ifCond .ne 16, 3) := by decide +kernel
theorem dX10_waits_53 : decode cX10_waits 53 = .ok (.iload 5, 2) := by decide +kernel
theorem dX10_waits_55 : decode cX10_waits 55 = .ok (.iload_n 1, 1) := by decide +kernel
theorem dX10_waits_56 : decode cX10_waits 56 = .ok (.invokestatic 137, 3) := by decide +kernel
theorem dX10_waits_59 : decode cX10_waits 59 = .ok (.ifCond .ne 7, 3) := by decide +kernel
theorem dX10_waits_62 : decode cX10_waits 62 = .ok (.iconst 1, 1) := by decide +kernel
theorem dX10_waits_63 : decode cX10_waits 63 = .ok (.goto 4, 3) := by decide +kernel
theorem dX10_waits_66 : decode cX10_waits 66 = .ok (.iconst 0, 1) := by decide +kernel
theorem dX10_waits_67 : decode cX10_waits 67 = .ok (.istore 6, 2) := by decide +kernel
theorem dX10_waits_69 : decode cX10_waits 69 = .ok (.aload_n 0, 1) := by decide +kernel
theorem dX10_waits_70 : decode cX10_waits 70 = .ok (.getfield 50, 3) := by decide +kernel
theorem dX10_waits_73 : decode cX10_waits 73 = .ok (.iconst 1, 1) := by decide +kernel
theorem dX10_waits_74 : decode cX10_waits 74 = .ok (.aload_n 0, 1) := by decide +kernel
theorem dX10_waits_75 : decode cX10_waits 75 = .ok (.getfield 19, 3) := by decide +kernel
theorem dX10_waits_78 : decode cX10_waits 78 = .ok (.iconst 1, 1) := by decide +kernel
theorem dX10_waits_79 : decode cX10_waits 79 = .ok (.iaload, 1) := by decide +kernel
theorem dX10_waits_80 : decode cX10_waits 80 = .ok (.iload 5, 2) := by decide +kernel
theorem dX10_waits_82 : decode cX10_waits 82 = .ok (.iconst (-1), 1) := by decide +kernel
theorem dX10_waits_83 : decode cX10_waits 83 = .ok (.ixor, 1) := by decide +kernel
theorem dX10_waits_84 : decode cX10_waits 84 = .ok (.iand, 1) := by decide +kernel
theorem dX10_waits_85 : decode cX10_waits 85 = .ok (.iastore, 1) := by decide +kernel
theorem dX10_waits_86 : decode cX10_waits 86 = .ok (.iload 6, 2) := by decide +kernel
theorem dX10_waits_88 : decode cX10_waits 88 = .ok (.ifCond .eq 34, 3) := by decide +kernel
theorem dX10_waits_91 : decode cX10_waits 91 = .ok (.aload_n 0, 1) := by decide +kernel
theorem dX10_waits_92 : decode cX10_waits 92 = .ok (.iload_n 2, 1) := by decide +kernel
theorem dX10_waits_93 : decode cX10_waits 93 = .ok (.invokevirtual 147, 3) := by decide +kernel
theorem dX10_waits_96 : decode cX10_waits 96 = .ok (.iload_n 1, 1) := by decide +kernel
theorem dX10_waits_97 : decode cX10_waits 97 = .ok (.if_icmp .ne 25, 3) := by decide +kernel
theorem dX10_waits_100 : decode cX10_waits 100 = .ok (.iload 4, 2) := by decide +kernel
theorem dX10_waits_102 : decode cX10_waits 102 = .ok (.ifCond .lt 16, 3) := by decide +kernel
theorem dX10_waits_105 : decode cX10_waits 105 = .ok (.iload 5, 2) := by decide +kernel
theorem dX10_waits_107 : decode cX10_waits 107 = .ok (.invokestatic 182, 3) := by decide +kernel
theorem dX10_waits_110 : decode cX10_waits 110 = .ok (.iload 4, 2) := by decide +kernel
theorem dX10_waits_112 : decode cX10_waits 112 = .ok (.invokestatic 182, 3) := by decide +kernel
theorem dX10_waits_115 : decode cX10_waits 115 = .ok (.if_icmp .ge 7, 3) := by decide +kernel
theorem dX10_waits_118 : decode cX10_waits 118 = .ok (.iconst 1, 1) := by decide +kernel
theorem dX10_waits_119 : decode cX10_waits 119 = .ok (.goto 4, 3) := by decide +kernel
theorem dX10_waits_122 : decode cX10_waits 122 = .ok (.iconst 0, 1) := by decide +kernel
theorem dX10_waits_123 : decode cX10_waits 123 = .ok (.istore 7, 2) := by decide +kernel
theorem dX10_waits_125 : decode cX10_waits 125 = .ok (.iload 7, 2) := by decide +kernel
theorem dX10_waits_127 : decode cX10_waits 127 = .ok (.ifCond .eq 8, 3) := by decide +kernel
theorem dX10_waits_130 : decode cX10_waits 130 = .ok (.iload 5, 2) := by decide +kernel
theorem dX10_waits_132 : decode cX10_waits 132 = .ok (.goto 5, 3) := by decide +kernel
theorem dX10_waits_135 : decode cX10_waits 135 = .ok (.iload 4, 2) := by decide +kernel
theorem dX10_waits_137 : decode cX10_waits 137 = .ok (.istore 4, 2) := by decide +kernel
theorem dX10_waits_139 : decode cX10_waits 139 = .ok (.iinc 5 1, 3) := by decide +kernel
theorem dX10_waits_142 : decode cX10_waits 142 = .ok (.goto (-114), 3) := by decide +kernel
theorem dX10_waits_145 : decode cX10_waits 145 = .ok (.iload 4, 2) := by decide +kernel
theorem dX10_waits_147 : decode cX10_waits 147 = .ok (.ireturn, 1) := by decide +kernel
def r_X10_waits : Room := { frames := 4, cells := 0, slots := 0, locals := 86 }
def f_X10_waits_L28 (K : PH → Int32 → Option (Int32 × PH)) (x0 : Nat) (x1 : Int32) (x2 : Int32) : Nat → PH → Int32 → Int32 → Option (Int32 × PH)
  | 0, _, _, _ => none
  | n + 1, P, x4, x5 =>
    (if ((1 : Int32) <<< ((P.1 x0 0) &&& 31)) ≤ x5 then K P x4 else (if ((1 : Int32) < 0 ∨ 46 ≤ (1 : Int32).toNatClampNeg) then none else (if (x5 &&& ((P.1 (P.2.2 x0 5) (1 : Int32).toNatClampNeg) ^^^ (-1 : Int32))) = 0 then ((f_X10_has P x5 x1).bind fun q2 => (if (b2i q2) = 0 then (if ((1 : Int32) < 0 ∨ 46 ≤ (1 : Int32).toNatClampNeg) then none else (if ((1 : Int32) < 0 ∨ 46 ≤ (1 : Int32).toNatClampNeg) then none else ((some (sI P (P.2.2 x0 26) (1 : Int32).toNatClampNeg ((P.1 (P.2.2 x0 5) (1 : Int32).toNatClampNeg) &&& (x5 ^^^ (-1 : Int32))))).bind fun P5 => (if (1 : Int32) = 0 then (if (0 : Int32) = 0 then f_X10_waits_L28 K x0 x1 x2 n P5 x4 (x5 + (1 : Int32)) else f_X10_waits_L28 K x0 x1 x2 n P5 x5 (x5 + (1 : Int32))) else ((f_X10_ownerOf P5 x0 x2).bind fun q6 => (if q6.1 = x1 then (if x4 < 0 then (if (1 : Int32) = 0 then f_X10_waits_L28 K x0 x1 x2 n q6.2 x4 (x5 + (1 : Int32)) else f_X10_waits_L28 K x0 x1 x2 n q6.2 x5 (x5 + (1 : Int32))) else ((f_X10_bits q6.2 x5).bind fun q7 => ((f_X10_bits q6.2 x4).bind fun q8 => (if q8 ≤ q7 then (if (0 : Int32) = 0 then f_X10_waits_L28 K x0 x1 x2 n q6.2 x4 (x5 + (1 : Int32)) else f_X10_waits_L28 K x0 x1 x2 n q6.2 x5 (x5 + (1 : Int32))) else (if (1 : Int32) = 0 then f_X10_waits_L28 K x0 x1 x2 n q6.2 x4 (x5 + (1 : Int32)) else f_X10_waits_L28 K x0 x1 x2 n q6.2 x5 (x5 + (1 : Int32))))))) else (if (0 : Int32) = 0 then f_X10_waits_L28 K x0 x1 x2 n q6.2 x4 (x5 + (1 : Int32)) else f_X10_waits_L28 K x0 x1 x2 n q6.2 x5 (x5 + (1 : Int32))))))))) else (if ((1 : Int32) < 0 ∨ 46 ≤ (1 : Int32).toNatClampNeg) then none else (if ((1 : Int32) < 0 ∨ 46 ≤ (1 : Int32).toNatClampNeg) then none else ((some (sI P (P.2.2 x0 26) (1 : Int32).toNatClampNeg ((P.1 (P.2.2 x0 5) (1 : Int32).toNatClampNeg) &&& (x5 ^^^ (-1 : Int32))))).bind fun P11 => (if (0 : Int32) = 0 then (if (0 : Int32) = 0 then f_X10_waits_L28 K x0 x1 x2 n P11 x4 (x5 + (1 : Int32)) else f_X10_waits_L28 K x0 x1 x2 n P11 x5 (x5 + (1 : Int32))) else ((f_X10_ownerOf P11 x0 x2).bind fun q12 => (if q12.1 = x1 then (if x4 < 0 then (if (1 : Int32) = 0 then f_X10_waits_L28 K x0 x1 x2 n q12.2 x4 (x5 + (1 : Int32)) else f_X10_waits_L28 K x0 x1 x2 n q12.2 x5 (x5 + (1 : Int32))) else ((f_X10_bits q12.2 x5).bind fun q13 => ((f_X10_bits q12.2 x4).bind fun q14 => (if q14 ≤ q13 then (if (0 : Int32) = 0 then f_X10_waits_L28 K x0 x1 x2 n q12.2 x4 (x5 + (1 : Int32)) else f_X10_waits_L28 K x0 x1 x2 n q12.2 x5 (x5 + (1 : Int32))) else (if (1 : Int32) = 0 then f_X10_waits_L28 K x0 x1 x2 n q12.2 x4 (x5 + (1 : Int32)) else f_X10_waits_L28 K x0 x1 x2 n q12.2 x5 (x5 + (1 : Int32))))))) else (if (0 : Int32) = 0 then f_X10_waits_L28 K x0 x1 x2 n q12.2 x4 (x5 + (1 : Int32)) else f_X10_waits_L28 K x0 x1 x2 n q12.2 x5 (x5 + (1 : Int32))))))))))) else (if ((1 : Int32) < 0 ∨ 46 ≤ (1 : Int32).toNatClampNeg) then none else (if ((1 : Int32) < 0 ∨ 46 ≤ (1 : Int32).toNatClampNeg) then none else ((some (sI P (P.2.2 x0 26) (1 : Int32).toNatClampNeg ((P.1 (P.2.2 x0 5) (1 : Int32).toNatClampNeg) &&& (x5 ^^^ (-1 : Int32))))).bind fun P17 => (if (0 : Int32) = 0 then (if (0 : Int32) = 0 then f_X10_waits_L28 K x0 x1 x2 n P17 x4 (x5 + (1 : Int32)) else f_X10_waits_L28 K x0 x1 x2 n P17 x5 (x5 + (1 : Int32))) else ((f_X10_ownerOf P17 x0 x2).bind fun q18 => (if q18.1 = x1 then (if x4 < 0 then (if (1 : Int32) = 0 then f_X10_waits_L28 K x0 x1 x2 n q18.2 x4 (x5 + (1 : Int32)) else f_X10_waits_L28 K x0 x1 x2 n q18.2 x5 (x5 + (1 : Int32))) else ((f_X10_bits q18.2 x5).bind fun q19 => ((f_X10_bits q18.2 x4).bind fun q20 => (if q20 ≤ q19 then (if (0 : Int32) = 0 then f_X10_waits_L28 K x0 x1 x2 n q18.2 x4 (x5 + (1 : Int32)) else f_X10_waits_L28 K x0 x1 x2 n q18.2 x5 (x5 + (1 : Int32))) else (if (1 : Int32) = 0 then f_X10_waits_L28 K x0 x1 x2 n q18.2 x4 (x5 + (1 : Int32)) else f_X10_waits_L28 K x0 x1 x2 n q18.2 x5 (x5 + (1 : Int32))))))) else (if (0 : Int32) = 0 then f_X10_waits_L28 K x0 x1 x2 n q18.2 x4 (x5 + (1 : Int32)) else f_X10_waits_L28 K x0 x1 x2 n q18.2 x5 (x5 + (1 : Int32))))))))))))
theorem w_X10_waits_L28 {x : Fx} {E : Ev} (S : ZS x E r_X10_waits cX10_waits 8 RX10 (some .int)) (M : ZM x E) {K : PH → Int32 → Option (Int32 × PH)} (x0 : Nat) (x1 : Int32) (x2 : Int32) (h_x0 : ok x0 8 0) (r : (Int32 × PH)) (hK : ∀ (P1 : PH) (y4 : Int32), K P1 y4 = some r → Wz x E 8 (QI E x r.1 r.2) P1 145 [(4, .int y4)] []) : ∀ (n : Nat) (P : PH) (x4 : Int32) (x5 : Int32), f_X10_waits_L28 K x0 x1 x2 n P x4 x5 = some r → Wz x E 8 (QI E x r.1 r.2) P 28 [(0, .ref (ad E x0)), (1, .int x1), (2, .int x2), (4, .int x4), (5, .int x5)] [] := by
  intro n
  induction n with
  | zero => intro P x4 x5 hf; cases hf
  | succ n ih =>
    intro P x4 x5 hf
    unfold f_X10_waits_L28 at hf
    refine z_iload S 4 dX10_waits_28 rfl ?_
    refine z_iconst (v := 1) S dX10_waits_30 (by decide) ?_
    refine z_aload_n S 0 dX10_waits_31 rfl rfl ?_
    refine z_getI S cf_8 h_x0 0 (by decide) rfl wd667 dX10_waits_32 ?_
    refine z_ishl S dX10_waits_35 ?_
    refine z_icmp_ge (tgt := 145) S dX10_waits_36 (by decide) hf (fun hf => ?_) (fun hf => ?_)
    · refine z_sub [3] rfl ?_
      exact hK P x4 hf
    · refine z_iload S 4 dX10_waits_39 rfl ?_
      refine z_aload_n S 0 dX10_waits_41 rfl rfl ?_
      refine z_getR (K' := 9) (n' := 46) S cf_8 h_x0 5 (by decide) rfl rfl rfl wd672 dX10_waits_42 (fun h1 => ?_)
      refine z_iconst (v := 1) S dX10_waits_45 (by decide) ?_
      refine z_iald S h1 dX10_waits_46 hf (fun hf => ?_)
      refine z_iconst (v := (-1 : Int32)) S dX10_waits_47 (by decide) ?_
      refine z_ixor S dX10_waits_48 ?_
      refine z_iand S dX10_waits_49 ?_
      refine z_if_ne (tgt := 66) S dX10_waits_50 (by decide) hf (fun hf => ?_) (fun hf => ?_)
      · refine z_iload S 4 dX10_waits_53 rfl ?_
        refine z_iload_n S 1 dX10_waits_55 rfl rfl ?_
        refine z_callSI (rc := r_X10_has) [.int x5, .int x1] S mo_X10_has wd834 wd833 rfl rfl (by decide) (z_room0 S M (by rfl) (by rfl)) rfl (Nat.le_of_ble_eq_true rfl) rfl dX10_waits_56 (fun q => b2i q) (fun _ => P) (fun q hq => m_X10_has (xl x) E _ _ _  q hq) hf (fun q2 hf => ?_)
        refine z_if_ne (tgt := 66) S dX10_waits_59 (by decide) hf (fun hf => ?_) (fun hf => ?_)
        · refine z_iconst (v := 1) S dX10_waits_62 (by decide) ?_
          refine z_goto (tgt := 67) S dX10_waits_63 (by decide) ?_
          refine z_istore (lv' := [(6, .int (1 : Int32)), (0, .ref (ad E x0)), (1, .int x1), (2, .int x2), (4, .int x4), (5, .int x5)]) S dX10_waits_67 (by decide) rfl ?_
          refine z_aload_n S 1 dX10_waits_69 rfl rfl ?_
          refine z_getR (K' := 9) (n' := 46) S cf_8 h_x0 26 (by decide) rfl rfl rfl wd693 dX10_waits_70 (fun h3 => ?_)
          refine z_iconst (v := 1) S dX10_waits_73 (by decide) ?_
          refine z_aload_n S 1 dX10_waits_74 rfl rfl ?_
          refine z_getR (K' := 9) (n' := 46) S cf_8 h_x0 5 (by decide) rfl rfl rfl wd672 dX10_waits_75 (fun h4 => ?_)
          refine z_iconst (v := 1) S dX10_waits_78 (by decide) ?_
          refine z_iald S h4 dX10_waits_79 hf (fun hf => ?_)
          refine z_iload S 5 dX10_waits_80 rfl ?_
          refine z_iconst (v := (-1 : Int32)) S dX10_waits_82 (by decide) ?_
          refine z_ixor S dX10_waits_83 ?_
          refine z_iand S dX10_waits_84 ?_
          refine z_iast S h3 dX10_waits_85 hf (fun hf => ?_)
          refine z_nmP hf (fun P5 hf => ?_)
          refine z_iload S 0 dX10_waits_86 rfl ?_
          refine z_if_eq (tgt := 122) S dX10_waits_88 (by decide) hf (fun hf => ?_) (fun hf => ?_)
          · refine z_iconst (v := 0) S dX10_waits_122 (by decide) ?_
            refine z_istore (lv' := [(7, .int (0 : Int32)), (6, .int (1 : Int32)), (0, .ref (ad E x0)), (1, .int x1), (2, .int x2), (4, .int x4), (5, .int x5)]) S dX10_waits_123 (by decide) rfl ?_
            refine z_iload S 0 dX10_waits_125 rfl ?_
            refine z_if_eq (tgt := 135) S dX10_waits_127 (by decide) hf (fun hf => ?_) (fun hf => ?_)
            · refine z_iload S 5 dX10_waits_135 rfl ?_
              refine z_istore (lv' := [(4, .int x4), (7, .int (0 : Int32)), (6, .int (1 : Int32)), (0, .ref (ad E x0)), (1, .int x1), (2, .int x2), (5, .int x5)]) S dX10_waits_137 (by decide) rfl ?_
              refine z_iinc (v := (x5 + (1 : Int32))) (lv' := [(5, .int (x5 + (1 : Int32))), (4, .int x4), (7, .int (0 : Int32)), (6, .int (1 : Int32)), (0, .ref (ad E x0)), (1, .int x1), (2, .int x2)]) S 6 dX10_waits_139 rfl (by rfl) (by decide) rfl ?_
              refine z_goto (tgt := 28) S dX10_waits_142 (by decide) ?_
              refine z_sub [4, 5, 6, 1, 0] rfl ?_
              exact ih P5 x4 (x5 + (1 : Int32)) hf
            · refine z_iload S 6 dX10_waits_130 rfl ?_
              refine z_goto (tgt := 137) S dX10_waits_132 (by decide) ?_
              refine z_istore (lv' := [(4, .int x5), (7, .int (0 : Int32)), (6, .int (1 : Int32)), (0, .ref (ad E x0)), (1, .int x1), (2, .int x2), (5, .int x5)]) S dX10_waits_137 (by decide) rfl ?_
              refine z_iinc (v := (x5 + (1 : Int32))) (lv' := [(5, .int (x5 + (1 : Int32))), (4, .int x5), (7, .int (0 : Int32)), (6, .int (1 : Int32)), (0, .ref (ad E x0)), (1, .int x1), (2, .int x2)]) S 6 dX10_waits_139 rfl (by rfl) (by decide) rfl ?_
              refine z_goto (tgt := 28) S dX10_waits_142 (by decide) ?_
              refine z_sub [4, 5, 6, 1, 0] rfl ?_
              exact ih P5 x5 (x5 + (1 : Int32)) hf
          · refine z_aload_n S 1 dX10_waits_91 rfl rfl ?_
            refine z_iload_n S 3 dX10_waits_92 rfl rfl ?_
            refine z_callVI (rc := r_X10_ownerOf) [.int x2] S mo_X10_ownerOf wd838 wd21 wd836 h_x0 (by decide) cl_8 rfl rfl (by decide) (z_room0 S M (by rfl) (by rfl)) rfl (Nat.le_of_ble_eq_true rfl) rfl dX10_waits_93 (fun q => q.1) (fun q => q.2) (fun q hq => m_X10_ownerOf (xl x) E _ _ _ h_x0 q hq) hf (fun q6 hf => ?_)
            refine z_iload_n S 2 dX10_waits_96 rfl rfl ?_
            refine z_icmp_ne (tgt := 122) S dX10_waits_97 (by decide) hf (fun hf => ?_) (fun hf => ?_)
            · refine z_iload S 4 dX10_waits_100 rfl ?_
              refine z_if_lt (tgt := 118) S dX10_waits_102 (by decide) hf (fun hf => ?_) (fun hf => ?_)
              · refine z_iconst (v := 1) S dX10_waits_118 (by decide) ?_
                refine z_goto (tgt := 123) S dX10_waits_119 (by decide) ?_
                refine z_istore (lv' := [(7, .int (1 : Int32)), (6, .int (1 : Int32)), (0, .ref (ad E x0)), (1, .int x1), (2, .int x2), (4, .int x4), (5, .int x5)]) S dX10_waits_123 (by decide) rfl ?_
                refine z_iload S 0 dX10_waits_125 rfl ?_
                refine z_if_eq (tgt := 135) S dX10_waits_127 (by decide) hf (fun hf => ?_) (fun hf => ?_)
                · refine z_iload S 5 dX10_waits_135 rfl ?_
                  refine z_istore (lv' := [(4, .int x4), (7, .int (1 : Int32)), (6, .int (1 : Int32)), (0, .ref (ad E x0)), (1, .int x1), (2, .int x2), (5, .int x5)]) S dX10_waits_137 (by decide) rfl ?_
                  refine z_iinc (v := (x5 + (1 : Int32))) (lv' := [(5, .int (x5 + (1 : Int32))), (4, .int x4), (7, .int (1 : Int32)), (6, .int (1 : Int32)), (0, .ref (ad E x0)), (1, .int x1), (2, .int x2)]) S 6 dX10_waits_139 rfl (by rfl) (by decide) rfl ?_
                  refine z_goto (tgt := 28) S dX10_waits_142 (by decide) ?_
                  refine z_sub [4, 5, 6, 1, 0] rfl ?_
                  exact ih q6.2 x4 (x5 + (1 : Int32)) hf
                · refine z_iload S 6 dX10_waits_130 rfl ?_
                  refine z_goto (tgt := 137) S dX10_waits_132 (by decide) ?_
                  refine z_istore (lv' := [(4, .int x5), (7, .int (1 : Int32)), (6, .int (1 : Int32)), (0, .ref (ad E x0)), (1, .int x1), (2, .int x2), (5, .int x5)]) S dX10_waits_137 (by decide) rfl ?_
                  refine z_iinc (v := (x5 + (1 : Int32))) (lv' := [(5, .int (x5 + (1 : Int32))), (4, .int x5), (7, .int (1 : Int32)), (6, .int (1 : Int32)), (0, .ref (ad E x0)), (1, .int x1), (2, .int x2)]) S 6 dX10_waits_139 rfl (by rfl) (by decide) rfl ?_
                  refine z_goto (tgt := 28) S dX10_waits_142 (by decide) ?_
                  refine z_sub [4, 5, 6, 1, 0] rfl ?_
                  exact ih q6.2 x5 (x5 + (1 : Int32)) hf
              · refine z_iload S 5 dX10_waits_105 rfl ?_
                refine z_callSI (rc := r_X10_bits) [.int x5] S mo_X10_bits wd889 wd888 rfl rfl (by decide) (z_room0 S M (by rfl) (by rfl)) rfl (Nat.le_of_ble_eq_true rfl) rfl dX10_waits_107 (fun q => q) (fun _ => q6.2) (fun q hq => m_X10_bits (xl x) E _ _  q hq) hf (fun q7 hf => ?_)
                refine z_iload S 4 dX10_waits_110 rfl ?_
                refine z_callSI (rc := r_X10_bits) [.int x4] S mo_X10_bits wd889 wd888 rfl rfl (by decide) (z_room0 S M (by rfl) (by rfl)) rfl (Nat.le_of_ble_eq_true rfl) rfl dX10_waits_112 (fun q => q) (fun _ => q6.2) (fun q hq => m_X10_bits (xl x) E _ _  q hq) hf (fun q8 hf => ?_)
                refine z_icmp_ge (tgt := 122) S dX10_waits_115 (by decide) hf (fun hf => ?_) (fun hf => ?_)
                · refine z_iconst (v := 0) S dX10_waits_122 (by decide) ?_
                  refine z_istore (lv' := [(7, .int (0 : Int32)), (6, .int (1 : Int32)), (0, .ref (ad E x0)), (1, .int x1), (2, .int x2), (4, .int x4), (5, .int x5)]) S dX10_waits_123 (by decide) rfl ?_
                  refine z_iload S 0 dX10_waits_125 rfl ?_
                  refine z_if_eq (tgt := 135) S dX10_waits_127 (by decide) hf (fun hf => ?_) (fun hf => ?_)
                  · refine z_iload S 5 dX10_waits_135 rfl ?_
                    refine z_istore (lv' := [(4, .int x4), (7, .int (0 : Int32)), (6, .int (1 : Int32)), (0, .ref (ad E x0)), (1, .int x1), (2, .int x2), (5, .int x5)]) S dX10_waits_137 (by decide) rfl ?_
                    refine z_iinc (v := (x5 + (1 : Int32))) (lv' := [(5, .int (x5 + (1 : Int32))), (4, .int x4), (7, .int (0 : Int32)), (6, .int (1 : Int32)), (0, .ref (ad E x0)), (1, .int x1), (2, .int x2)]) S 6 dX10_waits_139 rfl (by rfl) (by decide) rfl ?_
                    refine z_goto (tgt := 28) S dX10_waits_142 (by decide) ?_
                    refine z_sub [4, 5, 6, 1, 0] rfl ?_
                    exact ih q6.2 x4 (x5 + (1 : Int32)) hf
                  · refine z_iload S 6 dX10_waits_130 rfl ?_
                    refine z_goto (tgt := 137) S dX10_waits_132 (by decide) ?_
                    refine z_istore (lv' := [(4, .int x5), (7, .int (0 : Int32)), (6, .int (1 : Int32)), (0, .ref (ad E x0)), (1, .int x1), (2, .int x2), (5, .int x5)]) S dX10_waits_137 (by decide) rfl ?_
                    refine z_iinc (v := (x5 + (1 : Int32))) (lv' := [(5, .int (x5 + (1 : Int32))), (4, .int x5), (7, .int (0 : Int32)), (6, .int (1 : Int32)), (0, .ref (ad E x0)), (1, .int x1), (2, .int x2)]) S 6 dX10_waits_139 rfl (by rfl) (by decide) rfl ?_
                    refine z_goto (tgt := 28) S dX10_waits_142 (by decide) ?_
                    refine z_sub [4, 5, 6, 1, 0] rfl ?_
                    exact ih q6.2 x5 (x5 + (1 : Int32)) hf
                · refine z_iconst (v := 1) S dX10_waits_118 (by decide) ?_
                  refine z_goto (tgt := 123) S dX10_waits_119 (by decide) ?_
                  refine z_istore (lv' := [(7, .int (1 : Int32)), (6, .int (1 : Int32)), (0, .ref (ad E x0)), (1, .int x1), (2, .int x2), (4, .int x4), (5, .int x5)]) S dX10_waits_123 (by decide) rfl ?_
                  refine z_iload S 0 dX10_waits_125 rfl ?_
                  refine z_if_eq (tgt := 135) S dX10_waits_127 (by decide) hf (fun hf => ?_) (fun hf => ?_)
                  · refine z_iload S 5 dX10_waits_135 rfl ?_
                    refine z_istore (lv' := [(4, .int x4), (7, .int (1 : Int32)), (6, .int (1 : Int32)), (0, .ref (ad E x0)), (1, .int x1), (2, .int x2), (5, .int x5)]) S dX10_waits_137 (by decide) rfl ?_
                    refine z_iinc (v := (x5 + (1 : Int32))) (lv' := [(5, .int (x5 + (1 : Int32))), (4, .int x4), (7, .int (1 : Int32)), (6, .int (1 : Int32)), (0, .ref (ad E x0)), (1, .int x1), (2, .int x2)]) S 6 dX10_waits_139 rfl (by rfl) (by decide) rfl ?_
                    refine z_goto (tgt := 28) S dX10_waits_142 (by decide) ?_
                    refine z_sub [4, 5, 6, 1, 0] rfl ?_
                    exact ih q6.2 x4 (x5 + (1 : Int32)) hf
                  · refine z_iload S 6 dX10_waits_130 rfl ?_
                    refine z_goto (tgt := 137) S dX10_waits_132 (by decide) ?_
                    refine z_istore (lv' := [(4, .int x5), (7, .int (1 : Int32)), (6, .int (1 : Int32)), (0, .ref (ad E x0)), (1, .int x1), (2, .int x2), (5, .int x5)]) S dX10_waits_137 (by decide) rfl ?_
                    refine z_iinc (v := (x5 + (1 : Int32))) (lv' := [(5, .int (x5 + (1 : Int32))), (4, .int x5), (7, .int (1 : Int32)), (6, .int (1 : Int32)), (0, .ref (ad E x0)), (1, .int x1), (2, .int x2)]) S 6 dX10_waits_139 rfl (by rfl) (by decide) rfl ?_
                    refine z_goto (tgt := 28) S dX10_waits_142 (by decide) ?_
                    refine z_sub [4, 5, 6, 1, 0] rfl ?_
                    exact ih q6.2 x5 (x5 + (1 : Int32)) hf
            · refine z_iconst (v := 0) S dX10_waits_122 (by decide) ?_
              refine z_istore (lv' := [(7, .int (0 : Int32)), (6, .int (1 : Int32)), (0, .ref (ad E x0)), (1, .int x1), (2, .int x2), (4, .int x4), (5, .int x5)]) S dX10_waits_123 (by decide) rfl ?_
              refine z_iload S 0 dX10_waits_125 rfl ?_
              refine z_if_eq (tgt := 135) S dX10_waits_127 (by decide) hf (fun hf => ?_) (fun hf => ?_)
              · refine z_iload S 5 dX10_waits_135 rfl ?_
                refine z_istore (lv' := [(4, .int x4), (7, .int (0 : Int32)), (6, .int (1 : Int32)), (0, .ref (ad E x0)), (1, .int x1), (2, .int x2), (5, .int x5)]) S dX10_waits_137 (by decide) rfl ?_
                refine z_iinc (v := (x5 + (1 : Int32))) (lv' := [(5, .int (x5 + (1 : Int32))), (4, .int x4), (7, .int (0 : Int32)), (6, .int (1 : Int32)), (0, .ref (ad E x0)), (1, .int x1), (2, .int x2)]) S 6 dX10_waits_139 rfl (by rfl) (by decide) rfl ?_
                refine z_goto (tgt := 28) S dX10_waits_142 (by decide) ?_
                refine z_sub [4, 5, 6, 1, 0] rfl ?_
                exact ih q6.2 x4 (x5 + (1 : Int32)) hf
              · refine z_iload S 6 dX10_waits_130 rfl ?_
                refine z_goto (tgt := 137) S dX10_waits_132 (by decide) ?_
                refine z_istore (lv' := [(4, .int x5), (7, .int (0 : Int32)), (6, .int (1 : Int32)), (0, .ref (ad E x0)), (1, .int x1), (2, .int x2), (5, .int x5)]) S dX10_waits_137 (by decide) rfl ?_
                refine z_iinc (v := (x5 + (1 : Int32))) (lv' := [(5, .int (x5 + (1 : Int32))), (4, .int x5), (7, .int (0 : Int32)), (6, .int (1 : Int32)), (0, .ref (ad E x0)), (1, .int x1), (2, .int x2)]) S 6 dX10_waits_139 rfl (by rfl) (by decide) rfl ?_
                refine z_goto (tgt := 28) S dX10_waits_142 (by decide) ?_
                refine z_sub [4, 5, 6, 1, 0] rfl ?_
                exact ih q6.2 x5 (x5 + (1 : Int32)) hf
        · refine z_iconst (v := 0) S dX10_waits_66 (by decide) ?_
          refine z_istore (lv' := [(6, .int (0 : Int32)), (0, .ref (ad E x0)), (1, .int x1), (2, .int x2), (4, .int x4), (5, .int x5)]) S dX10_waits_67 (by decide) rfl ?_
          refine z_aload_n S 1 dX10_waits_69 rfl rfl ?_
          refine z_getR (K' := 9) (n' := 46) S cf_8 h_x0 26 (by decide) rfl rfl rfl wd693 dX10_waits_70 (fun h9 => ?_)
          refine z_iconst (v := 1) S dX10_waits_73 (by decide) ?_
          refine z_aload_n S 1 dX10_waits_74 rfl rfl ?_
          refine z_getR (K' := 9) (n' := 46) S cf_8 h_x0 5 (by decide) rfl rfl rfl wd672 dX10_waits_75 (fun h10 => ?_)
          refine z_iconst (v := 1) S dX10_waits_78 (by decide) ?_
          refine z_iald S h10 dX10_waits_79 hf (fun hf => ?_)
          refine z_iload S 5 dX10_waits_80 rfl ?_
          refine z_iconst (v := (-1 : Int32)) S dX10_waits_82 (by decide) ?_
          refine z_ixor S dX10_waits_83 ?_
          refine z_iand S dX10_waits_84 ?_
          refine z_iast S h9 dX10_waits_85 hf (fun hf => ?_)
          refine z_nmP hf (fun P11 hf => ?_)
          refine z_iload S 0 dX10_waits_86 rfl ?_
          refine z_if_eq (tgt := 122) S dX10_waits_88 (by decide) hf (fun hf => ?_) (fun hf => ?_)
          · refine z_iconst (v := 0) S dX10_waits_122 (by decide) ?_
            refine z_istore (lv' := [(7, .int (0 : Int32)), (6, .int (0 : Int32)), (0, .ref (ad E x0)), (1, .int x1), (2, .int x2), (4, .int x4), (5, .int x5)]) S dX10_waits_123 (by decide) rfl ?_
            refine z_iload S 0 dX10_waits_125 rfl ?_
            refine z_if_eq (tgt := 135) S dX10_waits_127 (by decide) hf (fun hf => ?_) (fun hf => ?_)
            · refine z_iload S 5 dX10_waits_135 rfl ?_
              refine z_istore (lv' := [(4, .int x4), (7, .int (0 : Int32)), (6, .int (0 : Int32)), (0, .ref (ad E x0)), (1, .int x1), (2, .int x2), (5, .int x5)]) S dX10_waits_137 (by decide) rfl ?_
              refine z_iinc (v := (x5 + (1 : Int32))) (lv' := [(5, .int (x5 + (1 : Int32))), (4, .int x4), (7, .int (0 : Int32)), (6, .int (0 : Int32)), (0, .ref (ad E x0)), (1, .int x1), (2, .int x2)]) S 6 dX10_waits_139 rfl (by rfl) (by decide) rfl ?_
              refine z_goto (tgt := 28) S dX10_waits_142 (by decide) ?_
              refine z_sub [4, 5, 6, 1, 0] rfl ?_
              exact ih P11 x4 (x5 + (1 : Int32)) hf
            · refine z_iload S 6 dX10_waits_130 rfl ?_
              refine z_goto (tgt := 137) S dX10_waits_132 (by decide) ?_
              refine z_istore (lv' := [(4, .int x5), (7, .int (0 : Int32)), (6, .int (0 : Int32)), (0, .ref (ad E x0)), (1, .int x1), (2, .int x2), (5, .int x5)]) S dX10_waits_137 (by decide) rfl ?_
              refine z_iinc (v := (x5 + (1 : Int32))) (lv' := [(5, .int (x5 + (1 : Int32))), (4, .int x5), (7, .int (0 : Int32)), (6, .int (0 : Int32)), (0, .ref (ad E x0)), (1, .int x1), (2, .int x2)]) S 6 dX10_waits_139 rfl (by rfl) (by decide) rfl ?_
              refine z_goto (tgt := 28) S dX10_waits_142 (by decide) ?_
              refine z_sub [4, 5, 6, 1, 0] rfl ?_
              exact ih P11 x5 (x5 + (1 : Int32)) hf
          · refine z_aload_n S 1 dX10_waits_91 rfl rfl ?_
            refine z_iload_n S 3 dX10_waits_92 rfl rfl ?_
            refine z_callVI (rc := r_X10_ownerOf) [.int x2] S mo_X10_ownerOf wd838 wd21 wd836 h_x0 (by decide) cl_8 rfl rfl (by decide) (z_room0 S M (by rfl) (by rfl)) rfl (Nat.le_of_ble_eq_true rfl) rfl dX10_waits_93 (fun q => q.1) (fun q => q.2) (fun q hq => m_X10_ownerOf (xl x) E _ _ _ h_x0 q hq) hf (fun q12 hf => ?_)
            refine z_iload_n S 2 dX10_waits_96 rfl rfl ?_
            refine z_icmp_ne (tgt := 122) S dX10_waits_97 (by decide) hf (fun hf => ?_) (fun hf => ?_)
            · refine z_iload S 4 dX10_waits_100 rfl ?_
              refine z_if_lt (tgt := 118) S dX10_waits_102 (by decide) hf (fun hf => ?_) (fun hf => ?_)
              · refine z_iconst (v := 1) S dX10_waits_118 (by decide) ?_
                refine z_goto (tgt := 123) S dX10_waits_119 (by decide) ?_
                refine z_istore (lv' := [(7, .int (1 : Int32)), (6, .int (0 : Int32)), (0, .ref (ad E x0)), (1, .int x1), (2, .int x2), (4, .int x4), (5, .int x5)]) S dX10_waits_123 (by decide) rfl ?_
                refine z_iload S 0 dX10_waits_125 rfl ?_
                refine z_if_eq (tgt := 135) S dX10_waits_127 (by decide) hf (fun hf => ?_) (fun hf => ?_)
                · refine z_iload S 5 dX10_waits_135 rfl ?_
                  refine z_istore (lv' := [(4, .int x4), (7, .int (1 : Int32)), (6, .int (0 : Int32)), (0, .ref (ad E x0)), (1, .int x1), (2, .int x2), (5, .int x5)]) S dX10_waits_137 (by decide) rfl ?_
                  refine z_iinc (v := (x5 + (1 : Int32))) (lv' := [(5, .int (x5 + (1 : Int32))), (4, .int x4), (7, .int (1 : Int32)), (6, .int (0 : Int32)), (0, .ref (ad E x0)), (1, .int x1), (2, .int x2)]) S 6 dX10_waits_139 rfl (by rfl) (by decide) rfl ?_
                  refine z_goto (tgt := 28) S dX10_waits_142 (by decide) ?_
                  refine z_sub [4, 5, 6, 1, 0] rfl ?_
                  exact ih q12.2 x4 (x5 + (1 : Int32)) hf
                · refine z_iload S 6 dX10_waits_130 rfl ?_
                  refine z_goto (tgt := 137) S dX10_waits_132 (by decide) ?_
                  refine z_istore (lv' := [(4, .int x5), (7, .int (1 : Int32)), (6, .int (0 : Int32)), (0, .ref (ad E x0)), (1, .int x1), (2, .int x2), (5, .int x5)]) S dX10_waits_137 (by decide) rfl ?_
                  refine z_iinc (v := (x5 + (1 : Int32))) (lv' := [(5, .int (x5 + (1 : Int32))), (4, .int x5), (7, .int (1 : Int32)), (6, .int (0 : Int32)), (0, .ref (ad E x0)), (1, .int x1), (2, .int x2)]) S 6 dX10_waits_139 rfl (by rfl) (by decide) rfl ?_
                  refine z_goto (tgt := 28) S dX10_waits_142 (by decide) ?_
                  refine z_sub [4, 5, 6, 1, 0] rfl ?_
                  exact ih q12.2 x5 (x5 + (1 : Int32)) hf
              · refine z_iload S 5 dX10_waits_105 rfl ?_
                refine z_callSI (rc := r_X10_bits) [.int x5] S mo_X10_bits wd889 wd888 rfl rfl (by decide) (z_room0 S M (by rfl) (by rfl)) rfl (Nat.le_of_ble_eq_true rfl) rfl dX10_waits_107 (fun q => q) (fun _ => q12.2) (fun q hq => m_X10_bits (xl x) E _ _  q hq) hf (fun q13 hf => ?_)
                refine z_iload S 4 dX10_waits_110 rfl ?_
                refine z_callSI (rc := r_X10_bits) [.int x4] S mo_X10_bits wd889 wd888 rfl rfl (by decide) (z_room0 S M (by rfl) (by rfl)) rfl (Nat.le_of_ble_eq_true rfl) rfl dX10_waits_112 (fun q => q) (fun _ => q12.2) (fun q hq => m_X10_bits (xl x) E _ _  q hq) hf (fun q14 hf => ?_)
                refine z_icmp_ge (tgt := 122) S dX10_waits_115 (by decide) hf (fun hf => ?_) (fun hf => ?_)
                · refine z_iconst (v := 0) S dX10_waits_122 (by decide) ?_
                  refine z_istore (lv' := [(7, .int (0 : Int32)), (6, .int (0 : Int32)), (0, .ref (ad E x0)), (1, .int x1), (2, .int x2), (4, .int x4), (5, .int x5)]) S dX10_waits_123 (by decide) rfl ?_
                  refine z_iload S 0 dX10_waits_125 rfl ?_
                  refine z_if_eq (tgt := 135) S dX10_waits_127 (by decide) hf (fun hf => ?_) (fun hf => ?_)
                  · refine z_iload S 5 dX10_waits_135 rfl ?_
                    refine z_istore (lv' := [(4, .int x4), (7, .int (0 : Int32)), (6, .int (0 : Int32)), (0, .ref (ad E x0)), (1, .int x1), (2, .int x2), (5, .int x5)]) S dX10_waits_137 (by decide) rfl ?_
                    refine z_iinc (v := (x5 + (1 : Int32))) (lv' := [(5, .int (x5 + (1 : Int32))), (4, .int x4), (7, .int (0 : Int32)), (6, .int (0 : Int32)), (0, .ref (ad E x0)), (1, .int x1), (2, .int x2)]) S 6 dX10_waits_139 rfl (by rfl) (by decide) rfl ?_
                    refine z_goto (tgt := 28) S dX10_waits_142 (by decide) ?_
                    refine z_sub [4, 5, 6, 1, 0] rfl ?_
                    exact ih q12.2 x4 (x5 + (1 : Int32)) hf
                  · refine z_iload S 6 dX10_waits_130 rfl ?_
                    refine z_goto (tgt := 137) S dX10_waits_132 (by decide) ?_
                    refine z_istore (lv' := [(4, .int x5), (7, .int (0 : Int32)), (6, .int (0 : Int32)), (0, .ref (ad E x0)), (1, .int x1), (2, .int x2), (5, .int x5)]) S dX10_waits_137 (by decide) rfl ?_
                    refine z_iinc (v := (x5 + (1 : Int32))) (lv' := [(5, .int (x5 + (1 : Int32))), (4, .int x5), (7, .int (0 : Int32)), (6, .int (0 : Int32)), (0, .ref (ad E x0)), (1, .int x1), (2, .int x2)]) S 6 dX10_waits_139 rfl (by rfl) (by decide) rfl ?_
                    refine z_goto (tgt := 28) S dX10_waits_142 (by decide) ?_
                    refine z_sub [4, 5, 6, 1, 0] rfl ?_
                    exact ih q12.2 x5 (x5 + (1 : Int32)) hf
                · refine z_iconst (v := 1) S dX10_waits_118 (by decide) ?_
                  refine z_goto (tgt := 123) S dX10_waits_119 (by decide) ?_
                  refine z_istore (lv' := [(7, .int (1 : Int32)), (6, .int (0 : Int32)), (0, .ref (ad E x0)), (1, .int x1), (2, .int x2), (4, .int x4), (5, .int x5)]) S dX10_waits_123 (by decide) rfl ?_
                  refine z_iload S 0 dX10_waits_125 rfl ?_
                  refine z_if_eq (tgt := 135) S dX10_waits_127 (by decide) hf (fun hf => ?_) (fun hf => ?_)
                  · refine z_iload S 5 dX10_waits_135 rfl ?_
                    refine z_istore (lv' := [(4, .int x4), (7, .int (1 : Int32)), (6, .int (0 : Int32)), (0, .ref (ad E x0)), (1, .int x1), (2, .int x2), (5, .int x5)]) S dX10_waits_137 (by decide) rfl ?_
                    refine z_iinc (v := (x5 + (1 : Int32))) (lv' := [(5, .int (x5 + (1 : Int32))), (4, .int x4), (7, .int (1 : Int32)), (6, .int (0 : Int32)), (0, .ref (ad E x0)), (1, .int x1), (2, .int x2)]) S 6 dX10_waits_139 rfl (by rfl) (by decide) rfl ?_
                    refine z_goto (tgt := 28) S dX10_waits_142 (by decide) ?_
                    refine z_sub [4, 5, 6, 1, 0] rfl ?_
                    exact ih q12.2 x4 (x5 + (1 : Int32)) hf
                  · refine z_iload S 6 dX10_waits_130 rfl ?_
                    refine z_goto (tgt := 137) S dX10_waits_132 (by decide) ?_
                    refine z_istore (lv' := [(4, .int x5), (7, .int (1 : Int32)), (6, .int (0 : Int32)), (0, .ref (ad E x0)), (1, .int x1), (2, .int x2), (5, .int x5)]) S dX10_waits_137 (by decide) rfl ?_
                    refine z_iinc (v := (x5 + (1 : Int32))) (lv' := [(5, .int (x5 + (1 : Int32))), (4, .int x5), (7, .int (1 : Int32)), (6, .int (0 : Int32)), (0, .ref (ad E x0)), (1, .int x1), (2, .int x2)]) S 6 dX10_waits_139 rfl (by rfl) (by decide) rfl ?_
                    refine z_goto (tgt := 28) S dX10_waits_142 (by decide) ?_
                    refine z_sub [4, 5, 6, 1, 0] rfl ?_
                    exact ih q12.2 x5 (x5 + (1 : Int32)) hf
            · refine z_iconst (v := 0) S dX10_waits_122 (by decide) ?_
              refine z_istore (lv' := [(7, .int (0 : Int32)), (6, .int (0 : Int32)), (0, .ref (ad E x0)), (1, .int x1), (2, .int x2), (4, .int x4), (5, .int x5)]) S dX10_waits_123 (by decide) rfl ?_
              refine z_iload S 0 dX10_waits_125 rfl ?_
              refine z_if_eq (tgt := 135) S dX10_waits_127 (by decide) hf (fun hf => ?_) (fun hf => ?_)
              · refine z_iload S 5 dX10_waits_135 rfl ?_
                refine z_istore (lv' := [(4, .int x4), (7, .int (0 : Int32)), (6, .int (0 : Int32)), (0, .ref (ad E x0)), (1, .int x1), (2, .int x2), (5, .int x5)]) S dX10_waits_137 (by decide) rfl ?_
                refine z_iinc (v := (x5 + (1 : Int32))) (lv' := [(5, .int (x5 + (1 : Int32))), (4, .int x4), (7, .int (0 : Int32)), (6, .int (0 : Int32)), (0, .ref (ad E x0)), (1, .int x1), (2, .int x2)]) S 6 dX10_waits_139 rfl (by rfl) (by decide) rfl ?_
                refine z_goto (tgt := 28) S dX10_waits_142 (by decide) ?_
                refine z_sub [4, 5, 6, 1, 0] rfl ?_
                exact ih q12.2 x4 (x5 + (1 : Int32)) hf
              · refine z_iload S 6 dX10_waits_130 rfl ?_
                refine z_goto (tgt := 137) S dX10_waits_132 (by decide) ?_
                refine z_istore (lv' := [(4, .int x5), (7, .int (0 : Int32)), (6, .int (0 : Int32)), (0, .ref (ad E x0)), (1, .int x1), (2, .int x2), (5, .int x5)]) S dX10_waits_137 (by decide) rfl ?_
                refine z_iinc (v := (x5 + (1 : Int32))) (lv' := [(5, .int (x5 + (1 : Int32))), (4, .int x5), (7, .int (0 : Int32)), (6, .int (0 : Int32)), (0, .ref (ad E x0)), (1, .int x1), (2, .int x2)]) S 6 dX10_waits_139 rfl (by rfl) (by decide) rfl ?_
                refine z_goto (tgt := 28) S dX10_waits_142 (by decide) ?_
                refine z_sub [4, 5, 6, 1, 0] rfl ?_
                exact ih q12.2 x5 (x5 + (1 : Int32)) hf
      · refine z_iconst (v := 0) S dX10_waits_66 (by decide) ?_
        refine z_istore (lv' := [(6, .int (0 : Int32)), (0, .ref (ad E x0)), (1, .int x1), (2, .int x2), (4, .int x4), (5, .int x5)]) S dX10_waits_67 (by decide) rfl ?_
        refine z_aload_n S 1 dX10_waits_69 rfl rfl ?_
        refine z_getR (K' := 9) (n' := 46) S cf_8 h_x0 26 (by decide) rfl rfl rfl wd693 dX10_waits_70 (fun h15 => ?_)
        refine z_iconst (v := 1) S dX10_waits_73 (by decide) ?_
        refine z_aload_n S 1 dX10_waits_74 rfl rfl ?_
        refine z_getR (K' := 9) (n' := 46) S cf_8 h_x0 5 (by decide) rfl rfl rfl wd672 dX10_waits_75 (fun h16 => ?_)
        refine z_iconst (v := 1) S dX10_waits_78 (by decide) ?_
        refine z_iald S h16 dX10_waits_79 hf (fun hf => ?_)
        refine z_iload S 5 dX10_waits_80 rfl ?_
        refine z_iconst (v := (-1 : Int32)) S dX10_waits_82 (by decide) ?_
        refine z_ixor S dX10_waits_83 ?_
        refine z_iand S dX10_waits_84 ?_
        refine z_iast S h15 dX10_waits_85 hf (fun hf => ?_)
        refine z_nmP hf (fun P17 hf => ?_)
        refine z_iload S 0 dX10_waits_86 rfl ?_
        refine z_if_eq (tgt := 122) S dX10_waits_88 (by decide) hf (fun hf => ?_) (fun hf => ?_)
        · refine z_iconst (v := 0) S dX10_waits_122 (by decide) ?_
          refine z_istore (lv' := [(7, .int (0 : Int32)), (6, .int (0 : Int32)), (0, .ref (ad E x0)), (1, .int x1), (2, .int x2), (4, .int x4), (5, .int x5)]) S dX10_waits_123 (by decide) rfl ?_
          refine z_iload S 0 dX10_waits_125 rfl ?_
          refine z_if_eq (tgt := 135) S dX10_waits_127 (by decide) hf (fun hf => ?_) (fun hf => ?_)
          · refine z_iload S 5 dX10_waits_135 rfl ?_
            refine z_istore (lv' := [(4, .int x4), (7, .int (0 : Int32)), (6, .int (0 : Int32)), (0, .ref (ad E x0)), (1, .int x1), (2, .int x2), (5, .int x5)]) S dX10_waits_137 (by decide) rfl ?_
            refine z_iinc (v := (x5 + (1 : Int32))) (lv' := [(5, .int (x5 + (1 : Int32))), (4, .int x4), (7, .int (0 : Int32)), (6, .int (0 : Int32)), (0, .ref (ad E x0)), (1, .int x1), (2, .int x2)]) S 6 dX10_waits_139 rfl (by rfl) (by decide) rfl ?_
            refine z_goto (tgt := 28) S dX10_waits_142 (by decide) ?_
            refine z_sub [4, 5, 6, 1, 0] rfl ?_
            exact ih P17 x4 (x5 + (1 : Int32)) hf
          · refine z_iload S 6 dX10_waits_130 rfl ?_
            refine z_goto (tgt := 137) S dX10_waits_132 (by decide) ?_
            refine z_istore (lv' := [(4, .int x5), (7, .int (0 : Int32)), (6, .int (0 : Int32)), (0, .ref (ad E x0)), (1, .int x1), (2, .int x2), (5, .int x5)]) S dX10_waits_137 (by decide) rfl ?_
            refine z_iinc (v := (x5 + (1 : Int32))) (lv' := [(5, .int (x5 + (1 : Int32))), (4, .int x5), (7, .int (0 : Int32)), (6, .int (0 : Int32)), (0, .ref (ad E x0)), (1, .int x1), (2, .int x2)]) S 6 dX10_waits_139 rfl (by rfl) (by decide) rfl ?_
            refine z_goto (tgt := 28) S dX10_waits_142 (by decide) ?_
            refine z_sub [4, 5, 6, 1, 0] rfl ?_
            exact ih P17 x5 (x5 + (1 : Int32)) hf
        · refine z_aload_n S 1 dX10_waits_91 rfl rfl ?_
          refine z_iload_n S 3 dX10_waits_92 rfl rfl ?_
          refine z_callVI (rc := r_X10_ownerOf) [.int x2] S mo_X10_ownerOf wd838 wd21 wd836 h_x0 (by decide) cl_8 rfl rfl (by decide) (z_room0 S M (by rfl) (by rfl)) rfl (Nat.le_of_ble_eq_true rfl) rfl dX10_waits_93 (fun q => q.1) (fun q => q.2) (fun q hq => m_X10_ownerOf (xl x) E _ _ _ h_x0 q hq) hf (fun q18 hf => ?_)
          refine z_iload_n S 2 dX10_waits_96 rfl rfl ?_
          refine z_icmp_ne (tgt := 122) S dX10_waits_97 (by decide) hf (fun hf => ?_) (fun hf => ?_)
          · refine z_iload S 4 dX10_waits_100 rfl ?_
            refine z_if_lt (tgt := 118) S dX10_waits_102 (by decide) hf (fun hf => ?_) (fun hf => ?_)
            · refine z_iconst (v := 1) S dX10_waits_118 (by decide) ?_
              refine z_goto (tgt := 123) S dX10_waits_119 (by decide) ?_
              refine z_istore (lv' := [(7, .int (1 : Int32)), (6, .int (0 : Int32)), (0, .ref (ad E x0)), (1, .int x1), (2, .int x2), (4, .int x4), (5, .int x5)]) S dX10_waits_123 (by decide) rfl ?_
              refine z_iload S 0 dX10_waits_125 rfl ?_
              refine z_if_eq (tgt := 135) S dX10_waits_127 (by decide) hf (fun hf => ?_) (fun hf => ?_)
              · refine z_iload S 5 dX10_waits_135 rfl ?_
                refine z_istore (lv' := [(4, .int x4), (7, .int (1 : Int32)), (6, .int (0 : Int32)), (0, .ref (ad E x0)), (1, .int x1), (2, .int x2), (5, .int x5)]) S dX10_waits_137 (by decide) rfl ?_
                refine z_iinc (v := (x5 + (1 : Int32))) (lv' := [(5, .int (x5 + (1 : Int32))), (4, .int x4), (7, .int (1 : Int32)), (6, .int (0 : Int32)), (0, .ref (ad E x0)), (1, .int x1), (2, .int x2)]) S 6 dX10_waits_139 rfl (by rfl) (by decide) rfl ?_
                refine z_goto (tgt := 28) S dX10_waits_142 (by decide) ?_
                refine z_sub [4, 5, 6, 1, 0] rfl ?_
                exact ih q18.2 x4 (x5 + (1 : Int32)) hf
              · refine z_iload S 6 dX10_waits_130 rfl ?_
                refine z_goto (tgt := 137) S dX10_waits_132 (by decide) ?_
                refine z_istore (lv' := [(4, .int x5), (7, .int (1 : Int32)), (6, .int (0 : Int32)), (0, .ref (ad E x0)), (1, .int x1), (2, .int x2), (5, .int x5)]) S dX10_waits_137 (by decide) rfl ?_
                refine z_iinc (v := (x5 + (1 : Int32))) (lv' := [(5, .int (x5 + (1 : Int32))), (4, .int x5), (7, .int (1 : Int32)), (6, .int (0 : Int32)), (0, .ref (ad E x0)), (1, .int x1), (2, .int x2)]) S 6 dX10_waits_139 rfl (by rfl) (by decide) rfl ?_
                refine z_goto (tgt := 28) S dX10_waits_142 (by decide) ?_
                refine z_sub [4, 5, 6, 1, 0] rfl ?_
                exact ih q18.2 x5 (x5 + (1 : Int32)) hf
            · refine z_iload S 5 dX10_waits_105 rfl ?_
              refine z_callSI (rc := r_X10_bits) [.int x5] S mo_X10_bits wd889 wd888 rfl rfl (by decide) (z_room0 S M (by rfl) (by rfl)) rfl (Nat.le_of_ble_eq_true rfl) rfl dX10_waits_107 (fun q => q) (fun _ => q18.2) (fun q hq => m_X10_bits (xl x) E _ _  q hq) hf (fun q19 hf => ?_)
              refine z_iload S 4 dX10_waits_110 rfl ?_
              refine z_callSI (rc := r_X10_bits) [.int x4] S mo_X10_bits wd889 wd888 rfl rfl (by decide) (z_room0 S M (by rfl) (by rfl)) rfl (Nat.le_of_ble_eq_true rfl) rfl dX10_waits_112 (fun q => q) (fun _ => q18.2) (fun q hq => m_X10_bits (xl x) E _ _  q hq) hf (fun q20 hf => ?_)
              refine z_icmp_ge (tgt := 122) S dX10_waits_115 (by decide) hf (fun hf => ?_) (fun hf => ?_)
              · refine z_iconst (v := 0) S dX10_waits_122 (by decide) ?_
                refine z_istore (lv' := [(7, .int (0 : Int32)), (6, .int (0 : Int32)), (0, .ref (ad E x0)), (1, .int x1), (2, .int x2), (4, .int x4), (5, .int x5)]) S dX10_waits_123 (by decide) rfl ?_
                refine z_iload S 0 dX10_waits_125 rfl ?_
                refine z_if_eq (tgt := 135) S dX10_waits_127 (by decide) hf (fun hf => ?_) (fun hf => ?_)
                · refine z_iload S 5 dX10_waits_135 rfl ?_
                  refine z_istore (lv' := [(4, .int x4), (7, .int (0 : Int32)), (6, .int (0 : Int32)), (0, .ref (ad E x0)), (1, .int x1), (2, .int x2), (5, .int x5)]) S dX10_waits_137 (by decide) rfl ?_
                  refine z_iinc (v := (x5 + (1 : Int32))) (lv' := [(5, .int (x5 + (1 : Int32))), (4, .int x4), (7, .int (0 : Int32)), (6, .int (0 : Int32)), (0, .ref (ad E x0)), (1, .int x1), (2, .int x2)]) S 6 dX10_waits_139 rfl (by rfl) (by decide) rfl ?_
                  refine z_goto (tgt := 28) S dX10_waits_142 (by decide) ?_
                  refine z_sub [4, 5, 6, 1, 0] rfl ?_
                  exact ih q18.2 x4 (x5 + (1 : Int32)) hf
                · refine z_iload S 6 dX10_waits_130 rfl ?_
                  refine z_goto (tgt := 137) S dX10_waits_132 (by decide) ?_
                  refine z_istore (lv' := [(4, .int x5), (7, .int (0 : Int32)), (6, .int (0 : Int32)), (0, .ref (ad E x0)), (1, .int x1), (2, .int x2), (5, .int x5)]) S dX10_waits_137 (by decide) rfl ?_
                  refine z_iinc (v := (x5 + (1 : Int32))) (lv' := [(5, .int (x5 + (1 : Int32))), (4, .int x5), (7, .int (0 : Int32)), (6, .int (0 : Int32)), (0, .ref (ad E x0)), (1, .int x1), (2, .int x2)]) S 6 dX10_waits_139 rfl (by rfl) (by decide) rfl ?_
                  refine z_goto (tgt := 28) S dX10_waits_142 (by decide) ?_
                  refine z_sub [4, 5, 6, 1, 0] rfl ?_
                  exact ih q18.2 x5 (x5 + (1 : Int32)) hf
              · refine z_iconst (v := 1) S dX10_waits_118 (by decide) ?_
                refine z_goto (tgt := 123) S dX10_waits_119 (by decide) ?_
                refine z_istore (lv' := [(7, .int (1 : Int32)), (6, .int (0 : Int32)), (0, .ref (ad E x0)), (1, .int x1), (2, .int x2), (4, .int x4), (5, .int x5)]) S dX10_waits_123 (by decide) rfl ?_
                refine z_iload S 0 dX10_waits_125 rfl ?_
                refine z_if_eq (tgt := 135) S dX10_waits_127 (by decide) hf (fun hf => ?_) (fun hf => ?_)
                · refine z_iload S 5 dX10_waits_135 rfl ?_
                  refine z_istore (lv' := [(4, .int x4), (7, .int (1 : Int32)), (6, .int (0 : Int32)), (0, .ref (ad E x0)), (1, .int x1), (2, .int x2), (5, .int x5)]) S dX10_waits_137 (by decide) rfl ?_
                  refine z_iinc (v := (x5 + (1 : Int32))) (lv' := [(5, .int (x5 + (1 : Int32))), (4, .int x4), (7, .int (1 : Int32)), (6, .int (0 : Int32)), (0, .ref (ad E x0)), (1, .int x1), (2, .int x2)]) S 6 dX10_waits_139 rfl (by rfl) (by decide) rfl ?_
                  refine z_goto (tgt := 28) S dX10_waits_142 (by decide) ?_
                  refine z_sub [4, 5, 6, 1, 0] rfl ?_
                  exact ih q18.2 x4 (x5 + (1 : Int32)) hf
                · refine z_iload S 6 dX10_waits_130 rfl ?_
                  refine z_goto (tgt := 137) S dX10_waits_132 (by decide) ?_
                  refine z_istore (lv' := [(4, .int x5), (7, .int (1 : Int32)), (6, .int (0 : Int32)), (0, .ref (ad E x0)), (1, .int x1), (2, .int x2), (5, .int x5)]) S dX10_waits_137 (by decide) rfl ?_
                  refine z_iinc (v := (x5 + (1 : Int32))) (lv' := [(5, .int (x5 + (1 : Int32))), (4, .int x5), (7, .int (1 : Int32)), (6, .int (0 : Int32)), (0, .ref (ad E x0)), (1, .int x1), (2, .int x2)]) S 6 dX10_waits_139 rfl (by rfl) (by decide) rfl ?_
                  refine z_goto (tgt := 28) S dX10_waits_142 (by decide) ?_
                  refine z_sub [4, 5, 6, 1, 0] rfl ?_
                  exact ih q18.2 x5 (x5 + (1 : Int32)) hf
          · refine z_iconst (v := 0) S dX10_waits_122 (by decide) ?_
            refine z_istore (lv' := [(7, .int (0 : Int32)), (6, .int (0 : Int32)), (0, .ref (ad E x0)), (1, .int x1), (2, .int x2), (4, .int x4), (5, .int x5)]) S dX10_waits_123 (by decide) rfl ?_
            refine z_iload S 0 dX10_waits_125 rfl ?_
            refine z_if_eq (tgt := 135) S dX10_waits_127 (by decide) hf (fun hf => ?_) (fun hf => ?_)
            · refine z_iload S 5 dX10_waits_135 rfl ?_
              refine z_istore (lv' := [(4, .int x4), (7, .int (0 : Int32)), (6, .int (0 : Int32)), (0, .ref (ad E x0)), (1, .int x1), (2, .int x2), (5, .int x5)]) S dX10_waits_137 (by decide) rfl ?_
              refine z_iinc (v := (x5 + (1 : Int32))) (lv' := [(5, .int (x5 + (1 : Int32))), (4, .int x4), (7, .int (0 : Int32)), (6, .int (0 : Int32)), (0, .ref (ad E x0)), (1, .int x1), (2, .int x2)]) S 6 dX10_waits_139 rfl (by rfl) (by decide) rfl ?_
              refine z_goto (tgt := 28) S dX10_waits_142 (by decide) ?_
              refine z_sub [4, 5, 6, 1, 0] rfl ?_
              exact ih q18.2 x4 (x5 + (1 : Int32)) hf
            · refine z_iload S 6 dX10_waits_130 rfl ?_
              refine z_goto (tgt := 137) S dX10_waits_132 (by decide) ?_
              refine z_istore (lv' := [(4, .int x5), (7, .int (0 : Int32)), (6, .int (0 : Int32)), (0, .ref (ad E x0)), (1, .int x1), (2, .int x2), (5, .int x5)]) S dX10_waits_137 (by decide) rfl ?_
              refine z_iinc (v := (x5 + (1 : Int32))) (lv' := [(5, .int (x5 + (1 : Int32))), (4, .int x5), (7, .int (0 : Int32)), (6, .int (0 : Int32)), (0, .ref (ad E x0)), (1, .int x1), (2, .int x2)]) S 6 dX10_waits_139 rfl (by rfl) (by decide) rfl ?_
              refine z_goto (tgt := 28) S dX10_waits_142 (by decide) ?_
              refine z_sub [4, 5, 6, 1, 0] rfl ?_
              exact ih q18.2 x5 (x5 + (1 : Int32)) hf
def f_X10_waits (P : PH) (x0 : Nat) (x1 : Int32) (x2 : Int32) : Option (Int32 × PH) :=
  ((f_X10_isRoom P x0 x2).bind fun q21 => ((f_X10_refused P x0 x1 (b2i q21)).bind fun q22 => (if 0 ≤ q22 then ((f_X10_asItIs P x0).bind fun q23 => f_X10_waits_L28 (fun P25 v24 => some (v24, P25)) x0 x1 x2 1000 q23 (-9 : Int32) (0 : Int32)) else some (q22, P))))
theorem w_X10_waits {x : Fx} {E : Ev} (S : ZS x E r_X10_waits cX10_waits 8 RX10 (some .int)) (M : ZM x E) (P : PH) (x0 : Nat) (x1 : Int32) (x2 : Int32) (h_x0 : ok x0 8 0) (r : (Int32 × PH)) (hf : f_X10_waits P x0 x1 x2 = some r) : Wz x E 8 (QI E x r.1 r.2) P 0 [(0, .ref (ad E x0)), (1, .int x1), (2, .int x2)] [] := by
  unfold f_X10_waits at hf
  refine z_aload_n S 0 dX10_waits_0 rfl rfl ?_
  refine z_iload_n S 1 dX10_waits_1 rfl rfl ?_
  refine z_aload_n S 0 dX10_waits_2 rfl rfl ?_
  refine z_iload_n S 2 dX10_waits_3 rfl rfl ?_
  refine z_callVI (rc := r_X10_isRoom) [.int x2] S mo_X10_isRoom wd858 wd25 wd856 h_x0 (by decide) cl_8 rfl rfl (by decide) (z_room0 S M (by rfl) (by rfl)) rfl (Nat.le_of_ble_eq_true rfl) rfl dX10_waits_4 (fun q => b2i q) (fun _ => P) (fun q hq => m_X10_isRoom (xl x) E _ _ _ h_x0 q hq) hf (fun q21 hf => ?_)
  refine z_callVI (rc := r_X10_refused) [.int x1, .int (b2i q21)] S mo_X10_refused wd920 wd29 wd918 h_x0 (by decide) cl_8 rfl rfl (by decide) (z_room0 S M (by rfl) (by rfl)) rfl (Nat.le_of_ble_eq_true rfl) rfl dX10_waits_7 (fun q => q) (fun _ => P) (fun q hq => m_X10_refused (xl x) E _ _ _ _ h_x0 q hq) hf (fun q22 hf => ?_)
  refine z_istore_n (lv' := [(3, .int q22), (0, .ref (ad E x0)), (1, .int x1), (2, .int x2)]) S dX10_waits_10 rfl (by decide) rfl ?_
  refine z_iload_n S 0 dX10_waits_11 rfl rfl ?_
  refine z_if_ge (tgt := 17) S dX10_waits_12 (by decide) hf (fun hf => ?_) (fun hf => ?_)
  · refine z_aload_n S 1 dX10_waits_17 rfl rfl ?_
    refine z_callVV (rc := r_X10_asItIs) [] S mo_X10_asItIs wd819 wd17 wd817 h_x0 (by decide) cl_8 rfl rfl (by decide) (z_room0 S M (by rfl) (by rfl)) rfl (Nat.le_of_ble_eq_true rfl) rfl dX10_waits_18  (fun q => q) (fun q hq => m_X10_asItIs (xl x) E _ _ h_x0 q hq) hf (fun q23 hf => ?_)
    refine z_bipush (v := (-9 : Int32)) S dX10_waits_21 (by decide) ?_
    refine z_istore (lv' := [(4, .int (-9 : Int32)), (3, .int q22), (0, .ref (ad E x0)), (1, .int x1), (2, .int x2)]) S dX10_waits_23 (by decide) rfl ?_
    refine z_iconst (v := 0) S dX10_waits_25 (by decide) ?_
    refine z_istore (lv' := [(5, .int (0 : Int32)), (4, .int (-9 : Int32)), (3, .int q22), (0, .ref (ad E x0)), (1, .int x1), (2, .int x2)]) S dX10_waits_26 (by decide) rfl ?_
    refine z_sub [3, 4, 5, 1, 0] rfl ?_
    refine w_X10_waits_L28 S M x0 x1 x2 h_x0 r (fun P25 v24 hf => ?_) 1000 q23 (-9 : Int32) (0 : Int32) hf
    refine z_iload S 0 dX10_waits_145 rfl ?_
    exact z_iretI (v := v24) S M rfl dX10_waits_147 hf
  · refine z_iload_n S 0 dX10_waits_15 rfl rfl ?_
    exact z_iretI (v := q22) S M rfl dX10_waits_16 hf
theorem m_X10_waits (l : Launch) (E : Ev) (P : PH) (x0 : Nat) (x1 : Int32) (x2 : Int32) (h_x0 : ok x0 8 0) (r : (Int32 × PH)) (hf : f_X10_waits P x0 x1 x2 = some r) : CtI l E yX10_waits cX10_waits 8 (some .int) r_X10_waits [.ref (ad E x0), .int x1, .int x2] P r.1 r.2 :=
  z_body (own := RX10) (by decide +kernel) rfl (Nat.le_of_ble_eq_true rfl) rfl (fun x _ S M => w_X10_waits S M P x0 x1 x2 h_x0 r hf)
-- yX10_odds
theorem dX10_odds_0 : decode cX10_odds 0 = .ok (.aload_n 0, 1) := by decide +kernel
theorem dX10_odds_1 : decode cX10_odds 1 = .ok (.iload_n 1, 1) := by decide +kernel
theorem dX10_odds_2 : decode cX10_odds 2 = .ok (.iload_n 2, 1) := by decide +kernel
theorem dX10_odds_3 : decode cX10_odds 3 = .ok (.iconst 0, 1) := by decide +kernel
theorem dX10_odds_4 : decode cX10_odds 4 = .ok (.bipush 10, 2) := by decide +kernel
theorem dX10_odds_6 : decode cX10_odds 6 = .ok (.invokestatic 57, 3) := by decide +kernel
theorem dX10_odds_9 : decode cX10_odds 9 = .ok (.ifCond .eq 16, 3) := by decide +kernel
theorem dX10_odds_12 : decode cX10_odds 12 = .ok (.iload_n 3, 1) := by decide +kernel
theorem dX10_odds_13 : decode cX10_odds 13 = .ok (.iconst 0, 1) := by decide +kernel
theorem dX10_odds_14 : decode cX10_odds 14 = .ok (.iconst 1, 1) := by decide +kernel
theorem dX10_odds_15 : decode cX10_odds 15 = .ok (.invokestatic 57, 3) := by decide +kernel
theorem dX10_odds_18 : decode cX10_odds 18 = .ok (.ifCond .eq 7, 3) := by decide +kernel
theorem dX10_odds_21 : decode cX10_odds 21 = .ok (.iconst 1, 1) := by decide +kernel
theorem dX10_odds_22 : decode cX10_odds 22 = .ok (.goto 4, 3) := by decide +kernel
theorem dX10_odds_25 : decode cX10_odds 25 = .ok (.iconst 0, 1) := by decide +kernel
theorem dX10_odds_26 : decode cX10_odds 26 = .ok (.invokevirtual 189, 3) := by decide +kernel
theorem dX10_odds_29 : decode cX10_odds 29 = .ok (.istore 4, 2) := by decide +kernel
theorem dX10_odds_31 : decode cX10_odds 31 = .ok (.iload 4, 2) := by decide +kernel
theorem dX10_odds_33 : decode cX10_odds 33 = .ok (.ifCond .ge 6, 3) := by decide +kernel
theorem dX10_odds_36 : decode cX10_odds 36 = .ok (.iload 4, 2) := by decide +kernel
theorem dX10_odds_38 : decode cX10_odds 38 = .ok (.ireturn, 1) := by decide +kernel
theorem dX10_odds_39 : decode cX10_odds 39 = .ok (.aload_n 0, 1) := by decide +kernel
theorem dX10_odds_40 : decode cX10_odds 40 = .ok (.invokevirtual 166, 3) := by decide +kernel
theorem dX10_odds_43 : decode cX10_odds 43 = .ok (.iconst 0, 1) := by decide +kernel
theorem dX10_odds_44 : decode cX10_odds 44 = .ok (.istore 5, 2) := by decide +kernel
theorem dX10_odds_46 : decode cX10_odds 46 = .ok (.iconst 1, 1) := by decide +kernel
theorem dX10_odds_47 : decode cX10_odds 47 = .ok (.istore 6, 2) := by decide +kernel
theorem dX10_odds_49 : decode cX10_odds 49 = .ok (.iconst 0, 1) := by decide +kernel
theorem dX10_odds_50 : decode cX10_odds 50 = .ok (.istore 7, 2) := by decide +kernel
theorem dX10_odds_52 : decode cX10_odds 52 = .ok (.iload 7, 2) := by decide +kernel
theorem dX10_odds_54 : decode cX10_odds 54 = .ok (.aload_n 0, 1) := by decide +kernel
theorem dX10_odds_55 : decode cX10_odds 55 = .ok (.getfield 53, 3) := by decide +kernel
theorem dX10_odds_58 : decode cX10_odds 58 = .ok (.if_icmp .ge 40, 3) := by decide +kernel
theorem dX10_odds_61 : decode cX10_odds 61 = .ok (.iload 6, 2) := by decide +kernel
theorem dX10_odds_63 : decode cX10_odds 63 = .ok (.iload 7, 2) := by decide +kernel
theorem dX10_odds_65 : decode cX10_odds 65 = .ok (.iload_n 1, 1) := by decide +kernel
theorem dX10_odds_66 : decode cX10_odds 66 = .ok (.if_icmp .eq 22, 3) := by decide +kernel
theorem dX10_odds_69 : decode cX10_odds 69 = .ok (.aload_n 0, 1) := by decide +kernel
theorem dX10_odds_70 : decode cX10_odds 70 = .ok (.getfield 19, 3) := by decide +kernel
theorem dX10_odds_73 : decode cX10_odds 73 = .ok (.iconst 1, 1) := by decide +kernel
theorem dX10_odds_74 : decode cX10_odds 74 = .ok (.iaload, 1) := by decide +kernel
theorem dX10_odds_75 : decode cX10_odds 75 = .ok (.iload 7, 2) := by decide +kernel
theorem dX10_odds_77 : decode cX10_odds 77 = .ok (.invokestatic 137, 3) := by decide +kernel
theorem dX10_odds_80 : decode cX10_odds 80 = .ok (.ifCond .eq 8, 3) := by decide +kernel
theorem dX10_odds_83 : decode cX10_odds 83 = .ok (.bipush 10, 2) := by decide +kernel
theorem dX10_odds_85 : decode cX10_odds 85 = .ok (.goto 4, 3) := by decide +kernel
theorem dX10_odds_88 : decode cX10_odds 88 = .ok (.iconst 1, 1) := by decide +kernel
theorem dX10_odds_89 : decode cX10_odds 89 = .ok (.imul, 1) := by decide +kernel
theorem dX10_odds_90 : decode cX10_odds 90 = .ok (.istore 6, 2) := by decide +kernel
theorem dX10_odds_92 : decode cX10_odds 92 = .ok (.iinc 7 1, 3) := by decide +kernel
theorem dX10_odds_95 : decode cX10_odds 95 = .ok (.goto (-43), 3) := by decide +kernel
theorem dX10_odds_98 : decode cX10_odds 98 = .ok (.iconst 0, 1) := by decide +kernel
theorem dX10_odds_99 : decode cX10_odds 99 = .ok (.istore 7, 2) := by decide +kernel
theorem dX10_odds_101 : decode cX10_odds 101 = .ok (.iload 7, 2) := by decide +kernel
theorem dX10_odds_103 : decode cX10_odds 103 = .ok (.iconst 1, 1) := by decide +kernel
theorem dX10_odds_104 : decode cX10_odds 104 = .ok (.aload_n 0, 1) := by decide +kernel
theorem dX10_odds_105 : decode cX10_odds 105 = .ok (.getfield 53, 3) := by decide +kernel
theorem dX10_odds_108 : decode cX10_odds 108 = .ok (.ishl, 1) := by decide +kernel
theorem dX10_odds_109 : decode cX10_odds 109 = .ok (.if_icmp .ge 146, 3) := by decide +kernel
theorem dX10_odds_112 : decode cX10_odds 112 = .ok (.iload 7, 2) := by decide +kernel
theorem dX10_odds_114 : decode cX10_odds 114 = .ok (.aload_n 0, 1) := by decide +kernel
theorem dX10_odds_115 : decode cX10_odds 115 = .ok (.getfield 19, 3) := by decide +kernel
theorem dX10_odds_118 : decode cX10_odds 118 = .ok (.iconst 1, 1) := by decide +kernel
theorem dX10_odds_119 : decode cX10_odds 119 = .ok (.iaload, 1) := by decide +kernel
theorem dX10_odds_120 : decode cX10_odds 120 = .ok (.iconst (-1), 1) := by decide +kernel
theorem dX10_odds_121 : decode cX10_odds 121 = .ok (.ixor, 1) := by decide +kernel
theorem dX10_odds_122 : decode cX10_odds 122 = .ok (.iand, 1) := by decide +kernel
theorem dX10_odds_123 : decode cX10_odds 123 = .ok (.ifCond .ne 126, 3) := by decide +kernel
theorem dX10_odds_126 : decode cX10_odds 126 = .ok (.iload 7, 2) := by decide +kernel
theorem dX10_odds_128 : decode cX10_odds 128 = .ok (.iload_n 1, 1) := by decide +kernel
theorem dX10_odds_129 : decode cX10_odds 129 = .ok (.invokestatic 137, 3) := by decide +kernel
theorem dX10_odds_132 : decode cX10_odds 132 = .ok (.ifCond .ne 117, 3) := by decide +kernel
theorem dX10_odds_135 : decode cX10_odds 135 = .ok (.aload_n 0, 1) := by decide +kernel
theorem dX10_odds_136 : decode cX10_odds 136 = .ok (.getfield 50, 3) := by decide +kernel
theorem dX10_odds_139 : decode cX10_odds 139 = .ok (.iconst 1, 1) := by decide +kernel
theorem dX10_odds_140 : decode cX10_odds 140 = .ok (.aload_n 0, 1) := by decide +kernel
theorem dX10_odds_141 : decode cX10_odds 141 = .ok (.getfield 19, 3) := by decide +kernel
theorem dX10_odds_144 : decode cX10_odds 144 = .ok (.iconst 1, 1) := by decide +kernel
theorem dX10_odds_145 : decode cX10_odds 145 = .ok (.iaload, 1) := by decide +kernel
theorem dX10_odds_146 : decode cX10_odds 146 = .ok (.iload 7, 2) := by decide +kernel
theorem dX10_odds_148 : decode cX10_odds 148 = .ok (.isub, 1) := by decide +kernel
theorem dX10_odds_149 : decode cX10_odds 149 = .ok (.iastore, 1) := by decide +kernel
theorem dX10_odds_150 : decode cX10_odds 150 = .ok (.aload_n 0, 1) := by decide +kernel
theorem dX10_odds_151 : decode cX10_odds 151 = .ok (.iload_n 1, 1) := by decide +kernel
theorem dX10_odds_152 : decode cX10_odds 152 = .ok (.invokevirtual 163, 3) := by decide +kernel
theorem dX10_odds_155 : decode cX10_odds 155 = .ok (.ifCond .eq 7, 3) := by decide +kernel
theorem dX10_odds_158 : decode cX10_odds 158 = .ok (.iconst 0, 1) := by decide +kernel
theorem dX10_odds_159 : decode cX10_odds 159 = .ok (.goto 4, 3) := by decide +kernel
theorem dX10_odds_162 : decode cX10_odds 162 = .ok (.iconst 1, 1) := by decide +kernel
theorem dX10_odds_163 : decode cX10_odds 163 = .ok (.istore 8, 2) := by decide +kernel
theorem dX10_odds_165 : decode cX10_odds 165 = .ok (.iconst 0, 1) := by decide +kernel
theorem dX10_odds_166 : decode cX10_odds 166 = .ok (.istore 9, 2) := by decide +kernel
theorem dX10_odds_168 : decode cX10_odds 168 = .ok (.iload 9, 2) := by decide +kernel
theorem dX10_odds_170 : decode cX10_odds 170 = .ok (.aload_n 0, 1) := by decide +kernel
theorem dX10_odds_171 : decode cX10_odds 171 = .ok (.getfield 53, 3) := by decide +kernel
theorem dX10_odds_174 : decode cX10_odds 174 = .ok (.if_icmp .ge 68, 3) := by decide +kernel
theorem dX10_odds_177 : decode cX10_odds 177 = .ok (.iload 9, 2) := by decide +kernel
theorem dX10_odds_179 : decode cX10_odds 179 = .ok (.iload_n 1, 1) := by decide +kernel
theorem dX10_odds_180 : decode cX10_odds 180 = .ok (.if_icmp .eq 21, 3) := by decide +kernel
theorem dX10_odds_183 : decode cX10_odds 183 = .ok (.aload_n 0, 1) := by decide +kernel
theorem dX10_odds_184 : decode cX10_odds 184 = .ok (.getfield 19, 3) := by decide +kernel
theorem dX10_odds_187 : decode cX10_odds 187 = .ok (.iconst 1, 1) := by decide +kernel
theorem dX10_odds_188 : decode cX10_odds 188 = .ok (.iaload, 1) := by decide +kernel
theorem dX10_odds_189 : decode cX10_odds 189 = .ok (.iload 9, 2) := by decide +kernel
theorem dX10_odds_191 : decode cX10_odds 191 = .ok (.invokestatic 137, 3) := by decide +kernel
theorem dX10_odds_194 : decode cX10_odds 194 = .ok (.ifCond .eq 7, 3) := by decide +kernel
theorem dX10_odds_197 : decode cX10_odds 197 = .ok (.iconst 1, 1) := by decide +kernel
theorem dX10_odds_198 : decode cX10_odds 198 = .ok (.goto 4, 3) := by decide +kernel
theorem dX10_odds_201 : decode cX10_odds 201 = .ok (.iconst 0, 1) := by decide +kernel
theorem dX10_odds_202 : decode cX10_odds 202 = .ok (.istore 10, 2) := by decide +kernel
theorem dX10_odds_204 : decode cX10_odds 204 = .ok (.iload 8, 2) := by decide +kernel
theorem dX10_odds_206 : decode cX10_odds 206 = .ok (.iload 10, 2) := by decide +kernel
theorem dX10_odds_208 : decode cX10_odds 208 = .ok (.ifCond .ne 7, 3) := by decide +kernel
theorem dX10_odds_211 : decode cX10_odds 211 = .ok (.iconst 1, 1) := by decide +kernel
theorem dX10_odds_212 : decode cX10_odds 212 = .ok (.goto 21, 3) := by decide +kernel
theorem dX10_odds_215 : decode cX10_odds 215 = .ok (.iload 7, 2) := by decide +kernel
theorem dX10_odds_217 : decode cX10_odds 217 = .ok (.iload 9, 2) := by decide +kernel
theorem dX10_odds_219 : decode cX10_odds 219 = .ok (.invokestatic 137, 3) := by decide +kernel
theorem dX10_odds_222 : decode cX10_odds 222 = .ok (.ifCond .eq 7, 3) := by decide +kernel
theorem dX10_odds_225 : decode cX10_odds 225 = .ok (.iload_n 2, 1) := by decide +kernel
theorem dX10_odds_226 : decode cX10_odds 226 = .ok (.goto 7, 3) := by decide +kernel
theorem dX10_odds_229 : decode cX10_odds 229 = .ok (.bipush 10, 2) := by decide +kernel
theorem dX10_odds_231 : decode cX10_odds 231 = .ok (.iload_n 2, 1) := by decide +kernel
theorem dX10_odds_232 : decode cX10_odds 232 = .ok (.isub, 1) := by decide +kernel
theorem dX10_odds_233 : decode cX10_odds 233 = .ok (.imul, 1) := by decide +kernel
theorem dX10_odds_234 : decode cX10_odds 234 = .ok (.istore 8, 2) := by decide +kernel
theorem dX10_odds_236 : decode cX10_odds 236 = .ok (.iinc 9 1, 3) := by decide +kernel
theorem dX10_odds_239 : decode cX10_odds 239 = .ok (.goto (-71), 3) := by decide +kernel
theorem dX10_odds_242 : decode cX10_odds 242 = .ok (.iload 5, 2) := by decide +kernel
theorem dX10_odds_244 : decode cX10_odds 244 = .ok (.iload 8, 2) := by decide +kernel
theorem dX10_odds_246 : decode cX10_odds 246 = .ok (.iadd, 1) := by decide +kernel
theorem dX10_odds_247 : decode cX10_odds 247 = .ok (.istore 5, 2) := by decide +kernel
theorem dX10_odds_249 : decode cX10_odds 249 = .ok (.iinc 7 1, 3) := by decide +kernel
theorem dX10_odds_252 : decode cX10_odds 252 = .ok (.goto (-151), 3) := by decide +kernel
theorem dX10_odds_255 : decode cX10_odds 255 = .ok (.iload 5, 2) := by decide +kernel
theorem dX10_odds_257 : decode cX10_odds 257 = .ok (.istore 7, 2) := by decide +kernel
theorem dX10_odds_259 : decode cX10_odds 259 = .ok (.iload 6, 2) := by decide +kernel
theorem dX10_odds_261 : decode cX10_odds 261 = .ok (.istore 8, 2) := by decide +kernel
theorem dX10_odds_263 : decode cX10_odds 263 = .ok (.iload 8, 2) := by decide +kernel
theorem dX10_odds_265 : decode cX10_odds 265 = .ok (.ifCond .le 21, 3) := by decide +kernel
theorem dX10_odds_268 : decode cX10_odds 268 = .ok (.iload 7, 2) := by decide +kernel
theorem dX10_odds_270 : decode cX10_odds 270 = .ok (.iload 8, 2) := by decide +kernel
theorem dX10_odds_272 : decode cX10_odds 272 = .ok (.irem, 1) := by decide +kernel
theorem dX10_odds_273 : decode cX10_odds 273 = .ok (.istore 9, 2) := by decide +kernel
theorem dX10_odds_275 : decode cX10_odds 275 = .ok (.iload 8, 2) := by decide +kernel
theorem dX10_odds_277 : decode cX10_odds 277 = .ok (.istore 7, 2) := by decide +kernel
theorem dX10_odds_279 : decode cX10_odds 279 = .ok (.iload 9, 2) := by decide +kernel
theorem dX10_odds_281 : decode cX10_odds 281 = .ok (.istore 8, 2) := by decide +kernel
theorem dX10_odds_283 : decode cX10_odds 283 = .ok (.goto (-20), 3) := by decide +kernel
theorem dX10_odds_286 : decode cX10_odds 286 = .ok (.iload_n 3, 1) := by decide +kernel
theorem dX10_odds_287 : decode cX10_odds 287 = .ok (.ifCond .ne 8, 3) := by decide +kernel
theorem dX10_odds_290 : decode cX10_odds 290 = .ok (.iload 5, 2) := by decide +kernel
theorem dX10_odds_292 : decode cX10_odds 292 = .ok (.goto 5, 3) := by decide +kernel
theorem dX10_odds_295 : decode cX10_odds 295 = .ok (.iload 6, 2) := by decide +kernel
theorem dX10_odds_297 : decode cX10_odds 297 = .ok (.iload 7, 2) := by decide +kernel
theorem dX10_odds_299 : decode cX10_odds 299 = .ok (.idiv, 1) := by decide +kernel
theorem dX10_odds_300 : decode cX10_odds 300 = .ok (.ireturn, 1) := by decide +kernel
def r_X10_odds : Room := { frames := 7, cells := 0, slots := 0, locals := 155 }
def f_X10_odds_L263 (K : Int32 → Option (Int32 × PH)) (P : PH) (x3 : Int32) (x5 : Int32) (x6 : Int32) : Nat → Int32 → Int32 → Option (Int32 × PH)
  | 0, _, _ => none
  | n + 1, x7, x8 =>
    (if x8 ≤ 0 then K x7 else (if x8 = 0 then none else f_X10_odds_L263 K P x3 x5 x6 n x8 (x7 - x7 / x8 * x8)))
theorem w_X10_odds_L263 {x : Fx} {E : Ev} (S : ZS x E r_X10_odds cX10_odds 11 RX10 (some .int)) (M : ZM x E) {K : Int32 → Option (Int32 × PH)} (P : PH) (x3 : Int32) (x5 : Int32) (x6 : Int32)  (r : (Int32 × PH)) (hK : ∀ (y7 : Int32), K y7 = some r → Wz x E 11 (QI E x r.1 r.2) P 286 [(3, .int x3), (5, .int x5), (6, .int x6), (7, .int y7)] []) : ∀ (n : Nat) (x7 : Int32) (x8 : Int32), f_X10_odds_L263 K P x3 x5 x6 n x7 x8 = some r → Wz x E 11 (QI E x r.1 r.2) P 263 [(3, .int x3), (5, .int x5), (6, .int x6), (7, .int x7), (8, .int x8)] [] := by
  intro n
  induction n with
  | zero => intro x7 x8 hf; cases hf
  | succ n ih =>
    intro x7 x8 hf
    unfold f_X10_odds_L263 at hf
    refine z_iload S 4 dX10_odds_263 rfl ?_
    refine z_if_le (tgt := 286) S dX10_odds_265 (by decide) hf (fun hf => ?_) (fun hf => ?_)
    · refine z_sub [0, 1, 2, 3] rfl ?_
      exact hK x7 hf
    · refine z_iload S 3 dX10_odds_268 rfl ?_
      refine z_iload S 4 dX10_odds_270 rfl ?_
      refine z_irem S dX10_odds_272 hf (fun hf => ?_)
      refine z_istore (lv' := [(9, .int (x7 - x7 / x8 * x8)), (3, .int x3), (5, .int x5), (6, .int x6), (7, .int x7), (8, .int x8)]) S dX10_odds_273 (by decide) rfl ?_
      refine z_iload S 5 dX10_odds_275 rfl ?_
      refine z_istore (lv' := [(7, .int x8), (9, .int (x7 - x7 / x8 * x8)), (3, .int x3), (5, .int x5), (6, .int x6), (8, .int x8)]) S dX10_odds_277 (by decide) rfl ?_
      refine z_iload S 1 dX10_odds_279 rfl ?_
      refine z_istore (lv' := [(8, .int (x7 - x7 / x8 * x8)), (7, .int x8), (9, .int (x7 - x7 / x8 * x8)), (3, .int x3), (5, .int x5), (6, .int x6)]) S dX10_odds_281 (by decide) rfl ?_
      refine z_goto (tgt := 263) S dX10_odds_283 (by decide) ?_
      refine z_sub [3, 4, 5, 1, 0] rfl ?_
      exact ih x8 (x7 - x7 / x8 * x8) hf
def f_X10_odds_L168 (K : Int32 → Option (Int32 × PH)) (P : PH) (x0 : Nat) (x1 : Int32) (x2 : Int32) (x3 : Int32) (x5 : Int32) (x6 : Int32) (x7 : Int32) : Nat → Int32 → Int32 → Option (Int32 × PH)
  | 0, _, _ => none
  | n + 1, x8, x9 =>
    (if (P.1 x0 0) ≤ x9 then K x8 else (if x9 = x1 then (if (0 : Int32) = 0 then f_X10_odds_L168 K P x0 x1 x2 x3 x5 x6 x7 n (x8 * (1 : Int32)) (x9 + (1 : Int32)) else ((f_X10_has P x7 x9).bind fun q1 => (if (b2i q1) = 0 then f_X10_odds_L168 K P x0 x1 x2 x3 x5 x6 x7 n (x8 * ((10 : Int32) - x2)) (x9 + (1 : Int32)) else f_X10_odds_L168 K P x0 x1 x2 x3 x5 x6 x7 n (x8 * x2) (x9 + (1 : Int32))))) else (if ((1 : Int32) < 0 ∨ 46 ≤ (1 : Int32).toNatClampNeg) then none else ((f_X10_has P (P.1 (P.2.2 x0 5) (1 : Int32).toNatClampNeg) x9).bind fun q3 => (if (b2i q3) = 0 then (if (0 : Int32) = 0 then f_X10_odds_L168 K P x0 x1 x2 x3 x5 x6 x7 n (x8 * (1 : Int32)) (x9 + (1 : Int32)) else ((f_X10_has P x7 x9).bind fun q4 => (if (b2i q4) = 0 then f_X10_odds_L168 K P x0 x1 x2 x3 x5 x6 x7 n (x8 * ((10 : Int32) - x2)) (x9 + (1 : Int32)) else f_X10_odds_L168 K P x0 x1 x2 x3 x5 x6 x7 n (x8 * x2) (x9 + (1 : Int32))))) else (if (1 : Int32) = 0 then f_X10_odds_L168 K P x0 x1 x2 x3 x5 x6 x7 n (x8 * (1 : Int32)) (x9 + (1 : Int32)) else ((f_X10_has P x7 x9).bind fun q5 => (if (b2i q5) = 0 then f_X10_odds_L168 K P x0 x1 x2 x3 x5 x6 x7 n (x8 * ((10 : Int32) - x2)) (x9 + (1 : Int32)) else f_X10_odds_L168 K P x0 x1 x2 x3 x5 x6 x7 n (x8 * x2) (x9 + (1 : Int32))))))))))
theorem w_X10_odds_L168 {x : Fx} {E : Ev} (S : ZS x E r_X10_odds cX10_odds 11 RX10 (some .int)) (M : ZM x E) {K : Int32 → Option (Int32 × PH)} (P : PH) (x0 : Nat) (x1 : Int32) (x2 : Int32) (x3 : Int32) (x5 : Int32) (x6 : Int32) (x7 : Int32) (h_x0 : ok x0 8 0) (r : (Int32 × PH)) (hK : ∀ (y8 : Int32), K y8 = some r → Wz x E 11 (QI E x r.1 r.2) P 242 [(0, .ref (ad E x0)), (1, .int x1), (2, .int x2), (3, .int x3), (5, .int x5), (6, .int x6), (7, .int x7), (8, .int y8)] []) : ∀ (n : Nat) (x8 : Int32) (x9 : Int32), f_X10_odds_L168 K P x0 x1 x2 x3 x5 x6 x7 n x8 x9 = some r → Wz x E 11 (QI E x r.1 r.2) P 168 [(0, .ref (ad E x0)), (1, .int x1), (2, .int x2), (3, .int x3), (5, .int x5), (6, .int x6), (7, .int x7), (8, .int x8), (9, .int x9)] [] := by
  intro n
  induction n with
  | zero => intro x8 x9 hf; cases hf
  | succ n ih =>
    intro x8 x9 hf
    unfold f_X10_odds_L168 at hf
    refine z_iload S 8 dX10_odds_168 rfl ?_
    refine z_aload_n S 0 dX10_odds_170 rfl rfl ?_
    refine z_getI S cf_8 h_x0 0 (by decide) rfl wd667 dX10_odds_171 ?_
    refine z_icmp_ge (tgt := 242) S dX10_odds_174 (by decide) hf (fun hf => ?_) (fun hf => ?_)
    · refine z_sub [0, 1, 2, 3, 4, 5, 6, 7] rfl ?_
      exact hK x8 hf
    · refine z_iload S 8 dX10_odds_177 rfl ?_
      refine z_iload_n S 1 dX10_odds_179 rfl rfl ?_
      refine z_icmp_eq (tgt := 201) S dX10_odds_180 (by decide) hf (fun hf => ?_) (fun hf => ?_)
      · refine z_iconst (v := 0) S dX10_odds_201 (by decide) ?_
        refine z_istore (lv' := [(10, .int (0 : Int32)), (0, .ref (ad E x0)), (1, .int x1), (2, .int x2), (3, .int x3), (5, .int x5), (6, .int x6), (7, .int x7), (8, .int x8), (9, .int x9)]) S dX10_odds_202 (by decide) rfl ?_
        refine z_iload S 8 dX10_odds_204 rfl ?_
        refine z_iload S 0 dX10_odds_206 rfl ?_
        refine z_if_ne (tgt := 215) S dX10_odds_208 (by decide) hf (fun hf => ?_) (fun hf => ?_)
        · refine z_iconst (v := 1) S dX10_odds_211 (by decide) ?_
          refine z_goto (tgt := 233) S dX10_odds_212 (by decide) ?_
          refine z_imul S dX10_odds_233 ?_
          refine z_istore (lv' := [(8, .int (x8 * (1 : Int32))), (10, .int (0 : Int32)), (0, .ref (ad E x0)), (1, .int x1), (2, .int x2), (3, .int x3), (5, .int x5), (6, .int x6), (7, .int x7), (9, .int x9)]) S dX10_odds_234 (by decide) rfl ?_
          refine z_iinc (v := (x9 + (1 : Int32))) (lv' := [(9, .int (x9 + (1 : Int32))), (8, .int (x8 * (1 : Int32))), (10, .int (0 : Int32)), (0, .ref (ad E x0)), (1, .int x1), (2, .int x2), (3, .int x3), (5, .int x5), (6, .int x6), (7, .int x7)]) S 9 dX10_odds_236 rfl (by rfl) (by decide) rfl ?_
          refine z_goto (tgt := 168) S dX10_odds_239 (by decide) ?_
          refine z_sub [3, 4, 5, 6, 7, 8, 9, 1, 0] rfl ?_
          exact ih (x8 * (1 : Int32)) (x9 + (1 : Int32)) hf
        · refine z_iload S 7 dX10_odds_215 rfl ?_
          refine z_iload S 9 dX10_odds_217 rfl ?_
          refine z_callSI (rc := r_X10_has) [.int x7, .int x9] S mo_X10_has wd834 wd833 rfl rfl (by decide) (z_room0 S M (by rfl) (by rfl)) rfl (Nat.le_of_ble_eq_true rfl) rfl dX10_odds_219 (fun q => b2i q) (fun _ => P) (fun q hq => m_X10_has (xl x) E _ _ _  q hq) hf (fun q1 hf => ?_)
          refine z_if_eq (tgt := 229) S dX10_odds_222 (by decide) hf (fun hf => ?_) (fun hf => ?_)
          · refine z_bipush (v := 10) S dX10_odds_229 (by decide) ?_
            refine z_iload_n S 3 dX10_odds_231 rfl rfl ?_
            refine z_isub S dX10_odds_232 ?_
            refine z_imul S dX10_odds_233 ?_
            refine z_istore (lv' := [(8, .int (x8 * ((10 : Int32) - x2))), (10, .int (0 : Int32)), (0, .ref (ad E x0)), (1, .int x1), (2, .int x2), (3, .int x3), (5, .int x5), (6, .int x6), (7, .int x7), (9, .int x9)]) S dX10_odds_234 (by decide) rfl ?_
            refine z_iinc (v := (x9 + (1 : Int32))) (lv' := [(9, .int (x9 + (1 : Int32))), (8, .int (x8 * ((10 : Int32) - x2))), (10, .int (0 : Int32)), (0, .ref (ad E x0)), (1, .int x1), (2, .int x2), (3, .int x3), (5, .int x5), (6, .int x6), (7, .int x7)]) S 9 dX10_odds_236 rfl (by rfl) (by decide) rfl ?_
            refine z_goto (tgt := 168) S dX10_odds_239 (by decide) ?_
            refine z_sub [3, 4, 5, 6, 7, 8, 9, 1, 0] rfl ?_
            exact ih (x8 * ((10 : Int32) - x2)) (x9 + (1 : Int32)) hf
          · refine z_iload_n S 3 dX10_odds_225 rfl rfl ?_
            refine z_goto (tgt := 233) S dX10_odds_226 (by decide) ?_
            refine z_imul S dX10_odds_233 ?_
            refine z_istore (lv' := [(8, .int (x8 * x2)), (10, .int (0 : Int32)), (0, .ref (ad E x0)), (1, .int x1), (2, .int x2), (3, .int x3), (5, .int x5), (6, .int x6), (7, .int x7), (9, .int x9)]) S dX10_odds_234 (by decide) rfl ?_
            refine z_iinc (v := (x9 + (1 : Int32))) (lv' := [(9, .int (x9 + (1 : Int32))), (8, .int (x8 * x2)), (10, .int (0 : Int32)), (0, .ref (ad E x0)), (1, .int x1), (2, .int x2), (3, .int x3), (5, .int x5), (6, .int x6), (7, .int x7)]) S 9 dX10_odds_236 rfl (by rfl) (by decide) rfl ?_
            refine z_goto (tgt := 168) S dX10_odds_239 (by decide) ?_
            refine z_sub [3, 4, 5, 6, 7, 8, 9, 1, 0] rfl ?_
            exact ih (x8 * x2) (x9 + (1 : Int32)) hf
      · refine z_aload_n S 0 dX10_odds_183 rfl rfl ?_
        refine z_getR (K' := 9) (n' := 46) S cf_8 h_x0 5 (by decide) rfl rfl rfl wd672 dX10_odds_184 (fun h2 => ?_)
        refine z_iconst (v := 1) S dX10_odds_187 (by decide) ?_
        refine z_iald S h2 dX10_odds_188 hf (fun hf => ?_)
        refine z_iload S 8 dX10_odds_189 rfl ?_
        refine z_callSI (rc := r_X10_has) [.int (P.1 (P.2.2 x0 5) (1 : Int32).toNatClampNeg), .int x9] S mo_X10_has wd834 wd833 rfl rfl (by decide) (z_room0 S M (by rfl) (by rfl)) rfl (Nat.le_of_ble_eq_true rfl) rfl dX10_odds_191 (fun q => b2i q) (fun _ => P) (fun q hq => m_X10_has (xl x) E _ _ _  q hq) hf (fun q3 hf => ?_)
        refine z_if_eq (tgt := 201) S dX10_odds_194 (by decide) hf (fun hf => ?_) (fun hf => ?_)
        · refine z_iconst (v := 0) S dX10_odds_201 (by decide) ?_
          refine z_istore (lv' := [(10, .int (0 : Int32)), (0, .ref (ad E x0)), (1, .int x1), (2, .int x2), (3, .int x3), (5, .int x5), (6, .int x6), (7, .int x7), (8, .int x8), (9, .int x9)]) S dX10_odds_202 (by decide) rfl ?_
          refine z_iload S 8 dX10_odds_204 rfl ?_
          refine z_iload S 0 dX10_odds_206 rfl ?_
          refine z_if_ne (tgt := 215) S dX10_odds_208 (by decide) hf (fun hf => ?_) (fun hf => ?_)
          · refine z_iconst (v := 1) S dX10_odds_211 (by decide) ?_
            refine z_goto (tgt := 233) S dX10_odds_212 (by decide) ?_
            refine z_imul S dX10_odds_233 ?_
            refine z_istore (lv' := [(8, .int (x8 * (1 : Int32))), (10, .int (0 : Int32)), (0, .ref (ad E x0)), (1, .int x1), (2, .int x2), (3, .int x3), (5, .int x5), (6, .int x6), (7, .int x7), (9, .int x9)]) S dX10_odds_234 (by decide) rfl ?_
            refine z_iinc (v := (x9 + (1 : Int32))) (lv' := [(9, .int (x9 + (1 : Int32))), (8, .int (x8 * (1 : Int32))), (10, .int (0 : Int32)), (0, .ref (ad E x0)), (1, .int x1), (2, .int x2), (3, .int x3), (5, .int x5), (6, .int x6), (7, .int x7)]) S 9 dX10_odds_236 rfl (by rfl) (by decide) rfl ?_
            refine z_goto (tgt := 168) S dX10_odds_239 (by decide) ?_
            refine z_sub [3, 4, 5, 6, 7, 8, 9, 1, 0] rfl ?_
            exact ih (x8 * (1 : Int32)) (x9 + (1 : Int32)) hf
          · refine z_iload S 7 dX10_odds_215 rfl ?_
            refine z_iload S 9 dX10_odds_217 rfl ?_
            refine z_callSI (rc := r_X10_has) [.int x7, .int x9] S mo_X10_has wd834 wd833 rfl rfl (by decide) (z_room0 S M (by rfl) (by rfl)) rfl (Nat.le_of_ble_eq_true rfl) rfl dX10_odds_219 (fun q => b2i q) (fun _ => P) (fun q hq => m_X10_has (xl x) E _ _ _  q hq) hf (fun q4 hf => ?_)
            refine z_if_eq (tgt := 229) S dX10_odds_222 (by decide) hf (fun hf => ?_) (fun hf => ?_)
            · refine z_bipush (v := 10) S dX10_odds_229 (by decide) ?_
              refine z_iload_n S 3 dX10_odds_231 rfl rfl ?_
              refine z_isub S dX10_odds_232 ?_
              refine z_imul S dX10_odds_233 ?_
              refine z_istore (lv' := [(8, .int (x8 * ((10 : Int32) - x2))), (10, .int (0 : Int32)), (0, .ref (ad E x0)), (1, .int x1), (2, .int x2), (3, .int x3), (5, .int x5), (6, .int x6), (7, .int x7), (9, .int x9)]) S dX10_odds_234 (by decide) rfl ?_
              refine z_iinc (v := (x9 + (1 : Int32))) (lv' := [(9, .int (x9 + (1 : Int32))), (8, .int (x8 * ((10 : Int32) - x2))), (10, .int (0 : Int32)), (0, .ref (ad E x0)), (1, .int x1), (2, .int x2), (3, .int x3), (5, .int x5), (6, .int x6), (7, .int x7)]) S 9 dX10_odds_236 rfl (by rfl) (by decide) rfl ?_
              refine z_goto (tgt := 168) S dX10_odds_239 (by decide) ?_
              refine z_sub [3, 4, 5, 6, 7, 8, 9, 1, 0] rfl ?_
              exact ih (x8 * ((10 : Int32) - x2)) (x9 + (1 : Int32)) hf
            · refine z_iload_n S 3 dX10_odds_225 rfl rfl ?_
              refine z_goto (tgt := 233) S dX10_odds_226 (by decide) ?_
              refine z_imul S dX10_odds_233 ?_
              refine z_istore (lv' := [(8, .int (x8 * x2)), (10, .int (0 : Int32)), (0, .ref (ad E x0)), (1, .int x1), (2, .int x2), (3, .int x3), (5, .int x5), (6, .int x6), (7, .int x7), (9, .int x9)]) S dX10_odds_234 (by decide) rfl ?_
              refine z_iinc (v := (x9 + (1 : Int32))) (lv' := [(9, .int (x9 + (1 : Int32))), (8, .int (x8 * x2)), (10, .int (0 : Int32)), (0, .ref (ad E x0)), (1, .int x1), (2, .int x2), (3, .int x3), (5, .int x5), (6, .int x6), (7, .int x7)]) S 9 dX10_odds_236 rfl (by rfl) (by decide) rfl ?_
              refine z_goto (tgt := 168) S dX10_odds_239 (by decide) ?_
              refine z_sub [3, 4, 5, 6, 7, 8, 9, 1, 0] rfl ?_
              exact ih (x8 * x2) (x9 + (1 : Int32)) hf
        · refine z_iconst (v := 1) S dX10_odds_197 (by decide) ?_
          refine z_goto (tgt := 202) S dX10_odds_198 (by decide) ?_
          refine z_istore (lv' := [(10, .int (1 : Int32)), (0, .ref (ad E x0)), (1, .int x1), (2, .int x2), (3, .int x3), (5, .int x5), (6, .int x6), (7, .int x7), (8, .int x8), (9, .int x9)]) S dX10_odds_202 (by decide) rfl ?_
          refine z_iload S 8 dX10_odds_204 rfl ?_
          refine z_iload S 0 dX10_odds_206 rfl ?_
          refine z_if_ne (tgt := 215) S dX10_odds_208 (by decide) hf (fun hf => ?_) (fun hf => ?_)
          · refine z_iconst (v := 1) S dX10_odds_211 (by decide) ?_
            refine z_goto (tgt := 233) S dX10_odds_212 (by decide) ?_
            refine z_imul S dX10_odds_233 ?_
            refine z_istore (lv' := [(8, .int (x8 * (1 : Int32))), (10, .int (1 : Int32)), (0, .ref (ad E x0)), (1, .int x1), (2, .int x2), (3, .int x3), (5, .int x5), (6, .int x6), (7, .int x7), (9, .int x9)]) S dX10_odds_234 (by decide) rfl ?_
            refine z_iinc (v := (x9 + (1 : Int32))) (lv' := [(9, .int (x9 + (1 : Int32))), (8, .int (x8 * (1 : Int32))), (10, .int (1 : Int32)), (0, .ref (ad E x0)), (1, .int x1), (2, .int x2), (3, .int x3), (5, .int x5), (6, .int x6), (7, .int x7)]) S 9 dX10_odds_236 rfl (by rfl) (by decide) rfl ?_
            refine z_goto (tgt := 168) S dX10_odds_239 (by decide) ?_
            refine z_sub [3, 4, 5, 6, 7, 8, 9, 1, 0] rfl ?_
            exact ih (x8 * (1 : Int32)) (x9 + (1 : Int32)) hf
          · refine z_iload S 7 dX10_odds_215 rfl ?_
            refine z_iload S 9 dX10_odds_217 rfl ?_
            refine z_callSI (rc := r_X10_has) [.int x7, .int x9] S mo_X10_has wd834 wd833 rfl rfl (by decide) (z_room0 S M (by rfl) (by rfl)) rfl (Nat.le_of_ble_eq_true rfl) rfl dX10_odds_219 (fun q => b2i q) (fun _ => P) (fun q hq => m_X10_has (xl x) E _ _ _  q hq) hf (fun q5 hf => ?_)
            refine z_if_eq (tgt := 229) S dX10_odds_222 (by decide) hf (fun hf => ?_) (fun hf => ?_)
            · refine z_bipush (v := 10) S dX10_odds_229 (by decide) ?_
              refine z_iload_n S 3 dX10_odds_231 rfl rfl ?_
              refine z_isub S dX10_odds_232 ?_
              refine z_imul S dX10_odds_233 ?_
              refine z_istore (lv' := [(8, .int (x8 * ((10 : Int32) - x2))), (10, .int (1 : Int32)), (0, .ref (ad E x0)), (1, .int x1), (2, .int x2), (3, .int x3), (5, .int x5), (6, .int x6), (7, .int x7), (9, .int x9)]) S dX10_odds_234 (by decide) rfl ?_
              refine z_iinc (v := (x9 + (1 : Int32))) (lv' := [(9, .int (x9 + (1 : Int32))), (8, .int (x8 * ((10 : Int32) - x2))), (10, .int (1 : Int32)), (0, .ref (ad E x0)), (1, .int x1), (2, .int x2), (3, .int x3), (5, .int x5), (6, .int x6), (7, .int x7)]) S 9 dX10_odds_236 rfl (by rfl) (by decide) rfl ?_
              refine z_goto (tgt := 168) S dX10_odds_239 (by decide) ?_
              refine z_sub [3, 4, 5, 6, 7, 8, 9, 1, 0] rfl ?_
              exact ih (x8 * ((10 : Int32) - x2)) (x9 + (1 : Int32)) hf
            · refine z_iload_n S 3 dX10_odds_225 rfl rfl ?_
              refine z_goto (tgt := 233) S dX10_odds_226 (by decide) ?_
              refine z_imul S dX10_odds_233 ?_
              refine z_istore (lv' := [(8, .int (x8 * x2)), (10, .int (1 : Int32)), (0, .ref (ad E x0)), (1, .int x1), (2, .int x2), (3, .int x3), (5, .int x5), (6, .int x6), (7, .int x7), (9, .int x9)]) S dX10_odds_234 (by decide) rfl ?_
              refine z_iinc (v := (x9 + (1 : Int32))) (lv' := [(9, .int (x9 + (1 : Int32))), (8, .int (x8 * x2)), (10, .int (1 : Int32)), (0, .ref (ad E x0)), (1, .int x1), (2, .int x2), (3, .int x3), (5, .int x5), (6, .int x6), (7, .int x7)]) S 9 dX10_odds_236 rfl (by rfl) (by decide) rfl ?_
              refine z_goto (tgt := 168) S dX10_odds_239 (by decide) ?_
              refine z_sub [3, 4, 5, 6, 7, 8, 9, 1, 0] rfl ?_
              exact ih (x8 * x2) (x9 + (1 : Int32)) hf
def f_X10_odds_L101 (K : PH → Int32 → Option (Int32 × PH)) (x0 : Nat) (x1 : Int32) (x2 : Int32) (x3 : Int32) (x6 : Int32) : Nat → PH → Int32 → Int32 → Option (Int32 × PH)
  | 0, _, _, _ => none
  | n + 1, P, x5, x7 =>
    (if ((1 : Int32) <<< ((P.1 x0 0) &&& 31)) ≤ x7 then K P x5 else (if ((1 : Int32) < 0 ∨ 46 ≤ (1 : Int32).toNatClampNeg) then none else (if (x7 &&& ((P.1 (P.2.2 x0 5) (1 : Int32).toNatClampNeg) ^^^ (-1 : Int32))) = 0 then ((f_X10_has P x7 x1).bind fun q7 => (if (b2i q7) = 0 then (if ((1 : Int32) < 0 ∨ 46 ≤ (1 : Int32).toNatClampNeg) then none else (if ((1 : Int32) < 0 ∨ 46 ≤ (1 : Int32).toNatClampNeg) then none else ((some (sI P (P.2.2 x0 26) (1 : Int32).toNatClampNeg ((P.1 (P.2.2 x0 5) (1 : Int32).toNatClampNeg) - x7))).bind fun P10 => ((f_X10_isCutOff P10 x0 x1).bind fun q11 => (if (b2i q11.1) = 0 then f_X10_odds_L168 (fun v12 => f_X10_odds_L101 K x0 x1 x2 x3 x6 n q11.2 (x5 + v12) (x7 + (1 : Int32))) q11.2 x0 x1 x2 x3 x5 x6 x7 1000 (1 : Int32) (0 : Int32) else f_X10_odds_L168 (fun v13 => f_X10_odds_L101 K x0 x1 x2 x3 x6 n q11.2 (x5 + v13) (x7 + (1 : Int32))) q11.2 x0 x1 x2 x3 x5 x6 x7 1000 (0 : Int32) (0 : Int32)))))) else f_X10_odds_L101 K x0 x1 x2 x3 x6 n P x5 (x7 + (1 : Int32)))) else f_X10_odds_L101 K x0 x1 x2 x3 x6 n P x5 (x7 + (1 : Int32)))))
theorem w_X10_odds_L101 {x : Fx} {E : Ev} (S : ZS x E r_X10_odds cX10_odds 11 RX10 (some .int)) (M : ZM x E) {K : PH → Int32 → Option (Int32 × PH)} (x0 : Nat) (x1 : Int32) (x2 : Int32) (x3 : Int32) (x6 : Int32) (h_x0 : ok x0 8 0) (r : (Int32 × PH)) (hK : ∀ (P1 : PH) (y5 : Int32), K P1 y5 = some r → Wz x E 11 (QI E x r.1 r.2) P1 255 [(3, .int x3), (5, .int y5), (6, .int x6)] []) : ∀ (n : Nat) (P : PH) (x5 : Int32) (x7 : Int32), f_X10_odds_L101 K x0 x1 x2 x3 x6 n P x5 x7 = some r → Wz x E 11 (QI E x r.1 r.2) P 101 [(0, .ref (ad E x0)), (1, .int x1), (2, .int x2), (3, .int x3), (5, .int x5), (6, .int x6), (7, .int x7)] [] := by
  intro n
  induction n with
  | zero => intro P x5 x7 hf; cases hf
  | succ n ih =>
    intro P x5 x7 hf
    unfold f_X10_odds_L101 at hf
    refine z_iload S 6 dX10_odds_101 rfl ?_
    refine z_iconst (v := 1) S dX10_odds_103 (by decide) ?_
    refine z_aload_n S 0 dX10_odds_104 rfl rfl ?_
    refine z_getI S cf_8 h_x0 0 (by decide) rfl wd667 dX10_odds_105 ?_
    refine z_ishl S dX10_odds_108 ?_
    refine z_icmp_ge (tgt := 255) S dX10_odds_109 (by decide) hf (fun hf => ?_) (fun hf => ?_)
    · refine z_sub [3, 4, 5] rfl ?_
      exact hK P x5 hf
    · refine z_iload S 6 dX10_odds_112 rfl ?_
      refine z_aload_n S 0 dX10_odds_114 rfl rfl ?_
      refine z_getR (K' := 9) (n' := 46) S cf_8 h_x0 5 (by decide) rfl rfl rfl wd672 dX10_odds_115 (fun h6 => ?_)
      refine z_iconst (v := 1) S dX10_odds_118 (by decide) ?_
      refine z_iald S h6 dX10_odds_119 hf (fun hf => ?_)
      refine z_iconst (v := (-1 : Int32)) S dX10_odds_120 (by decide) ?_
      refine z_ixor S dX10_odds_121 ?_
      refine z_iand S dX10_odds_122 ?_
      refine z_if_ne (tgt := 249) S dX10_odds_123 (by decide) hf (fun hf => ?_) (fun hf => ?_)
      · refine z_iload S 6 dX10_odds_126 rfl ?_
        refine z_iload_n S 1 dX10_odds_128 rfl rfl ?_
        refine z_callSI (rc := r_X10_has) [.int x7, .int x1] S mo_X10_has wd834 wd833 rfl rfl (by decide) (z_room0 S M (by rfl) (by rfl)) rfl (Nat.le_of_ble_eq_true rfl) rfl dX10_odds_129 (fun q => b2i q) (fun _ => P) (fun q hq => m_X10_has (xl x) E _ _ _  q hq) hf (fun q7 hf => ?_)
        refine z_if_ne (tgt := 249) S dX10_odds_132 (by decide) hf (fun hf => ?_) (fun hf => ?_)
        · refine z_aload_n S 0 dX10_odds_135 rfl rfl ?_
          refine z_getR (K' := 9) (n' := 46) S cf_8 h_x0 26 (by decide) rfl rfl rfl wd693 dX10_odds_136 (fun h8 => ?_)
          refine z_iconst (v := 1) S dX10_odds_139 (by decide) ?_
          refine z_aload_n S 0 dX10_odds_140 rfl rfl ?_
          refine z_getR (K' := 9) (n' := 46) S cf_8 h_x0 5 (by decide) rfl rfl rfl wd672 dX10_odds_141 (fun h9 => ?_)
          refine z_iconst (v := 1) S dX10_odds_144 (by decide) ?_
          refine z_iald S h9 dX10_odds_145 hf (fun hf => ?_)
          refine z_iload S 6 dX10_odds_146 rfl ?_
          refine z_isub S dX10_odds_148 ?_
          refine z_iast S h8 dX10_odds_149 hf (fun hf => ?_)
          refine z_nmP hf (fun P10 hf => ?_)
          refine z_aload_n S 0 dX10_odds_150 rfl rfl ?_
          refine z_iload_n S 1 dX10_odds_151 rfl rfl ?_
          refine z_callVI (rc := r_X10_isCutOff) [.int x1] S mo_X10_isCutOff wd846 wd23 wd844 h_x0 (by decide) cl_8 rfl rfl (by decide) (z_room0 S M (by rfl) (by rfl)) rfl (Nat.le_of_ble_eq_true rfl) rfl dX10_odds_152 (fun q => b2i q.1) (fun q => q.2) (fun q hq => m_X10_isCutOff (xl x) E _ _ _ h_x0 q hq) hf (fun q11 hf => ?_)
          refine z_if_eq (tgt := 162) S dX10_odds_155 (by decide) hf (fun hf => ?_) (fun hf => ?_)
          · refine z_iconst (v := 1) S dX10_odds_162 (by decide) ?_
            refine z_istore (lv' := [(8, .int (1 : Int32)), (0, .ref (ad E x0)), (1, .int x1), (2, .int x2), (3, .int x3), (5, .int x5), (6, .int x6), (7, .int x7)]) S dX10_odds_163 (by decide) rfl ?_
            refine z_iconst (v := 0) S dX10_odds_165 (by decide) ?_
            refine z_istore (lv' := [(9, .int (0 : Int32)), (8, .int (1 : Int32)), (0, .ref (ad E x0)), (1, .int x1), (2, .int x2), (3, .int x3), (5, .int x5), (6, .int x6), (7, .int x7)]) S dX10_odds_166 (by decide) rfl ?_
            refine z_sub [2, 3, 4, 5, 6, 7, 8, 1, 0] rfl ?_
            refine w_X10_odds_L168 S M _ x0 x1 x2 x3 x5 x6 x7 h_x0 r (fun v12 hf => ?_) 1000 (1 : Int32) (0 : Int32) hf
            refine z_iload S 4 dX10_odds_242 rfl ?_
            refine z_iload S 7 dX10_odds_244 rfl ?_
            refine z_iadd S dX10_odds_246 ?_
            refine z_istore (lv' := [(5, .int (x5 + v12)), (0, .ref (ad E x0)), (1, .int x1), (2, .int x2), (3, .int x3), (6, .int x6), (7, .int x7), (8, .int v12)]) S dX10_odds_247 (by decide) rfl ?_
            refine z_iinc (v := (x7 + (1 : Int32))) (lv' := [(7, .int (x7 + (1 : Int32))), (5, .int (x5 + v12)), (0, .ref (ad E x0)), (1, .int x1), (2, .int x2), (3, .int x3), (6, .int x6), (8, .int v12)]) S 6 dX10_odds_249 rfl (by rfl) (by decide) rfl ?_
            refine z_goto (tgt := 101) S dX10_odds_252 (by decide) ?_
            refine z_sub [2, 3, 4, 5, 1, 6, 0] rfl ?_
            exact ih q11.2 (x5 + v12) (x7 + (1 : Int32)) hf
          · refine z_iconst (v := 0) S dX10_odds_158 (by decide) ?_
            refine z_goto (tgt := 163) S dX10_odds_159 (by decide) ?_
            refine z_istore (lv' := [(8, .int (0 : Int32)), (0, .ref (ad E x0)), (1, .int x1), (2, .int x2), (3, .int x3), (5, .int x5), (6, .int x6), (7, .int x7)]) S dX10_odds_163 (by decide) rfl ?_
            refine z_iconst (v := 0) S dX10_odds_165 (by decide) ?_
            refine z_istore (lv' := [(9, .int (0 : Int32)), (8, .int (0 : Int32)), (0, .ref (ad E x0)), (1, .int x1), (2, .int x2), (3, .int x3), (5, .int x5), (6, .int x6), (7, .int x7)]) S dX10_odds_166 (by decide) rfl ?_
            refine z_sub [2, 3, 4, 5, 6, 7, 8, 1, 0] rfl ?_
            refine w_X10_odds_L168 S M _ x0 x1 x2 x3 x5 x6 x7 h_x0 r (fun v13 hf => ?_) 1000 (0 : Int32) (0 : Int32) hf
            refine z_iload S 4 dX10_odds_242 rfl ?_
            refine z_iload S 7 dX10_odds_244 rfl ?_
            refine z_iadd S dX10_odds_246 ?_
            refine z_istore (lv' := [(5, .int (x5 + v13)), (0, .ref (ad E x0)), (1, .int x1), (2, .int x2), (3, .int x3), (6, .int x6), (7, .int x7), (8, .int v13)]) S dX10_odds_247 (by decide) rfl ?_
            refine z_iinc (v := (x7 + (1 : Int32))) (lv' := [(7, .int (x7 + (1 : Int32))), (5, .int (x5 + v13)), (0, .ref (ad E x0)), (1, .int x1), (2, .int x2), (3, .int x3), (6, .int x6), (8, .int v13)]) S 6 dX10_odds_249 rfl (by rfl) (by decide) rfl ?_
            refine z_goto (tgt := 101) S dX10_odds_252 (by decide) ?_
            refine z_sub [2, 3, 4, 5, 1, 6, 0] rfl ?_
            exact ih q11.2 (x5 + v13) (x7 + (1 : Int32)) hf
        · refine z_iinc (v := (x7 + (1 : Int32))) (lv' := [(7, .int (x7 + (1 : Int32))), (0, .ref (ad E x0)), (1, .int x1), (2, .int x2), (3, .int x3), (5, .int x5), (6, .int x6)]) S 6 dX10_odds_249 rfl (by rfl) (by decide) rfl ?_
          refine z_goto (tgt := 101) S dX10_odds_252 (by decide) ?_
          refine z_sub [1, 2, 3, 4, 5, 6, 0] rfl ?_
          exact ih P x5 (x7 + (1 : Int32)) hf
      · refine z_iinc (v := (x7 + (1 : Int32))) (lv' := [(7, .int (x7 + (1 : Int32))), (0, .ref (ad E x0)), (1, .int x1), (2, .int x2), (3, .int x3), (5, .int x5), (6, .int x6)]) S 6 dX10_odds_249 rfl (by rfl) (by decide) rfl ?_
        refine z_goto (tgt := 101) S dX10_odds_252 (by decide) ?_
        refine z_sub [1, 2, 3, 4, 5, 6, 0] rfl ?_
        exact ih P x5 (x7 + (1 : Int32)) hf
def f_X10_odds_L52 (K : Int32 → Option (Int32 × PH)) (P : PH) (x0 : Nat) (x1 : Int32) (x2 : Int32) (x3 : Int32) (x5 : Bool) : Nat → Int32 → Int32 → Option (Int32 × PH)
  | 0, _, _ => none
  | n + 1, x6, x7 =>
    (if (P.1 x0 0) ≤ x7 then K x6 else (if x7 = x1 then f_X10_odds_L52 K P x0 x1 x2 x3 x5 n (x6 * (1 : Int32)) (x7 + (1 : Int32)) else (if ((1 : Int32) < 0 ∨ 46 ≤ (1 : Int32).toNatClampNeg) then none else ((f_X10_has P (P.1 (P.2.2 x0 5) (1 : Int32).toNatClampNeg) x7).bind fun q15 => (if (b2i q15) = 0 then f_X10_odds_L52 K P x0 x1 x2 x3 x5 n (x6 * (1 : Int32)) (x7 + (1 : Int32)) else f_X10_odds_L52 K P x0 x1 x2 x3 x5 n (x6 * (10 : Int32)) (x7 + (1 : Int32)))))))
theorem w_X10_odds_L52 {x : Fx} {E : Ev} (S : ZS x E r_X10_odds cX10_odds 11 RX10 (some .int)) (M : ZM x E) {K : Int32 → Option (Int32 × PH)} (P : PH) (x0 : Nat) (x1 : Int32) (x2 : Int32) (x3 : Int32) (x5 : Bool) (h_x0 : ok x0 8 0) (r : (Int32 × PH)) (hK : ∀ (y6 : Int32), K y6 = some r → Wz x E 11 (QI E x r.1 r.2) P 98 [(0, .ref (ad E x0)), (1, .int x1), (2, .int x2), (3, .int x3), (5, .int (b2i x5)), (6, .int y6)] []) : ∀ (n : Nat) (x6 : Int32) (x7 : Int32), f_X10_odds_L52 K P x0 x1 x2 x3 x5 n x6 x7 = some r → Wz x E 11 (QI E x r.1 r.2) P 52 [(0, .ref (ad E x0)), (1, .int x1), (2, .int x2), (3, .int x3), (5, .int (b2i x5)), (6, .int x6), (7, .int x7)] [] := by
  intro n
  induction n with
  | zero => intro x6 x7 hf; cases hf
  | succ n ih =>
    intro x6 x7 hf
    unfold f_X10_odds_L52 at hf
    refine z_iload S 6 dX10_odds_52 rfl ?_
    refine z_aload_n S 0 dX10_odds_54 rfl rfl ?_
    refine z_getI S cf_8 h_x0 0 (by decide) rfl wd667 dX10_odds_55 ?_
    refine z_icmp_ge (tgt := 98) S dX10_odds_58 (by decide) hf (fun hf => ?_) (fun hf => ?_)
    · refine z_sub [0, 1, 2, 3, 4, 5] rfl ?_
      exact hK x6 hf
    · refine z_iload S 5 dX10_odds_61 rfl ?_
      refine z_iload S 6 dX10_odds_63 rfl ?_
      refine z_iload_n S 1 dX10_odds_65 rfl rfl ?_
      refine z_icmp_eq (tgt := 88) S dX10_odds_66 (by decide) hf (fun hf => ?_) (fun hf => ?_)
      · refine z_iconst (v := 1) S dX10_odds_88 (by decide) ?_
        refine z_imul S dX10_odds_89 ?_
        refine z_istore (lv' := [(6, .int (x6 * (1 : Int32))), (0, .ref (ad E x0)), (1, .int x1), (2, .int x2), (3, .int x3), (5, .int (b2i x5)), (7, .int x7)]) S dX10_odds_90 (by decide) rfl ?_
        refine z_iinc (v := (x7 + (1 : Int32))) (lv' := [(7, .int (x7 + (1 : Int32))), (6, .int (x6 * (1 : Int32))), (0, .ref (ad E x0)), (1, .int x1), (2, .int x2), (3, .int x3), (5, .int (b2i x5))]) S 6 dX10_odds_92 rfl (by rfl) (by decide) rfl ?_
        refine z_goto (tgt := 52) S dX10_odds_95 (by decide) ?_
        refine z_sub [2, 3, 4, 5, 6, 1, 0] rfl ?_
        exact ih (x6 * (1 : Int32)) (x7 + (1 : Int32)) hf
      · refine z_aload_n S 0 dX10_odds_69 rfl rfl ?_
        refine z_getR (K' := 9) (n' := 46) S cf_8 h_x0 5 (by decide) rfl rfl rfl wd672 dX10_odds_70 (fun h14 => ?_)
        refine z_iconst (v := 1) S dX10_odds_73 (by decide) ?_
        refine z_iald S h14 dX10_odds_74 hf (fun hf => ?_)
        refine z_iload S 6 dX10_odds_75 rfl ?_
        refine z_callSI (rc := r_X10_has) [.int (P.1 (P.2.2 x0 5) (1 : Int32).toNatClampNeg), .int x7] S mo_X10_has wd834 wd833 rfl rfl (by decide) (z_room0 S M (by rfl) (by rfl)) rfl (Nat.le_of_ble_eq_true rfl) rfl dX10_odds_77 (fun q => b2i q) (fun _ => P) (fun q hq => m_X10_has (xl x) E _ _ _  q hq) hf (fun q15 hf => ?_)
        refine z_if_eq (tgt := 88) S dX10_odds_80 (by decide) hf (fun hf => ?_) (fun hf => ?_)
        · refine z_iconst (v := 1) S dX10_odds_88 (by decide) ?_
          refine z_imul S dX10_odds_89 ?_
          refine z_istore (lv' := [(6, .int (x6 * (1 : Int32))), (0, .ref (ad E x0)), (1, .int x1), (2, .int x2), (3, .int x3), (5, .int (b2i x5)), (7, .int x7)]) S dX10_odds_90 (by decide) rfl ?_
          refine z_iinc (v := (x7 + (1 : Int32))) (lv' := [(7, .int (x7 + (1 : Int32))), (6, .int (x6 * (1 : Int32))), (0, .ref (ad E x0)), (1, .int x1), (2, .int x2), (3, .int x3), (5, .int (b2i x5))]) S 6 dX10_odds_92 rfl (by rfl) (by decide) rfl ?_
          refine z_goto (tgt := 52) S dX10_odds_95 (by decide) ?_
          refine z_sub [2, 3, 4, 5, 6, 1, 0] rfl ?_
          exact ih (x6 * (1 : Int32)) (x7 + (1 : Int32)) hf
        · refine z_bipush (v := 10) S dX10_odds_83 (by decide) ?_
          refine z_goto (tgt := 89) S dX10_odds_85 (by decide) ?_
          refine z_imul S dX10_odds_89 ?_
          refine z_istore (lv' := [(6, .int (x6 * (10 : Int32))), (0, .ref (ad E x0)), (1, .int x1), (2, .int x2), (3, .int x3), (5, .int (b2i x5)), (7, .int x7)]) S dX10_odds_90 (by decide) rfl ?_
          refine z_iinc (v := (x7 + (1 : Int32))) (lv' := [(7, .int (x7 + (1 : Int32))), (6, .int (x6 * (10 : Int32))), (0, .ref (ad E x0)), (1, .int x1), (2, .int x2), (3, .int x3), (5, .int (b2i x5))]) S 6 dX10_odds_92 rfl (by rfl) (by decide) rfl ?_
          refine z_goto (tgt := 52) S dX10_odds_95 (by decide) ?_
          refine z_sub [2, 3, 4, 5, 6, 1, 0] rfl ?_
          exact ih (x6 * (10 : Int32)) (x7 + (1 : Int32)) hf
def f_X10_odds_J26 (P : PH) (x0 : Nat) (x1 : Int32) (x2 : Int32) (x3 : Int32) (s0 : Nat) (s1 : Int32) (s2 : Bool) : Option (Int32 × PH) :=
  ((f_X10_refused P s0 s1 (b2i s2)).bind fun q16 => (if 0 ≤ q16 then ((f_X10_asItIs P x0).bind fun q17 => f_X10_odds_L52 (fun v18 => f_X10_odds_L101 (fun P20 v19 => f_X10_odds_L263 (fun v21 => (if x3 = 0 then (if v21 = 0 then none else some ((v19 / v21), P20)) else (if v21 = 0 then none else some ((v18 / v21), P20)))) P20 x3 v19 v18 1000 v19 v18) x0 x1 x2 x3 v18 1000 q17 (0 : Int32) (0 : Int32)) q17 x0 x1 x2 x3 false 1000 (1 : Int32) (0 : Int32)) else some (q16, P)))
theorem w_X10_odds_J26 {x : Fx} {E : Ev} (S : ZS x E r_X10_odds cX10_odds 11 RX10 (some .int)) (M : ZM x E) (P : PH) (x0 : Nat) (x1 : Int32) (x2 : Int32) (x3 : Int32) (s0 : Nat) (s1 : Int32) (s2 : Bool) (h_x0 : ok x0 8 0) (h_s0 : ok s0 8 0) (r : (Int32 × PH)) (hf : f_X10_odds_J26 P x0 x1 x2 x3 s0 s1 s2 = some r) : Wz x E 11 (QI E x r.1 r.2) P 26 [(0, .ref (ad E x0)), (1, .int x1), (2, .int x2), (3, .int x3)] [.int (b2i s2), .int s1, .ref (ad E s0)] := by
  unfold f_X10_odds_J26 at hf
  refine z_callVI (rc := r_X10_refused) [.int s1, .int (b2i s2)] S mo_X10_refused wd920 wd29 wd918 h_s0 (by decide) cl_8 rfl rfl (by decide) (z_room0 S M (by rfl) (by rfl)) rfl (Nat.le_of_ble_eq_true rfl) rfl dX10_odds_26 (fun q => q) (fun _ => P) (fun q hq => m_X10_refused (xl x) E _ _ _ _ h_s0 q hq) hf (fun q16 hf => ?_)
  refine z_istore (lv' := [(4, .int q16), (0, .ref (ad E x0)), (1, .int x1), (2, .int x2), (3, .int x3)]) S dX10_odds_29 (by decide) rfl ?_
  refine z_iload S 0 dX10_odds_31 rfl ?_
  refine z_if_ge (tgt := 39) S dX10_odds_33 (by decide) hf (fun hf => ?_) (fun hf => ?_)
  · refine z_aload_n S 1 dX10_odds_39 rfl rfl ?_
    refine z_callVV (rc := r_X10_asItIs) [] S mo_X10_asItIs wd819 wd17 wd817 h_x0 (by decide) cl_8 rfl rfl (by decide) (z_room0 S M (by rfl) (by rfl)) rfl (Nat.le_of_ble_eq_true rfl) rfl dX10_odds_40  (fun q => q) (fun q hq => m_X10_asItIs (xl x) E _ _ h_x0 q hq) hf (fun q17 hf => ?_)
    refine z_iconst (v := 0) S dX10_odds_43 (by decide) ?_
    refine z_istore (lv' := [(5, .int (0 : Int32)), (4, .int q16), (0, .ref (ad E x0)), (1, .int x1), (2, .int x2), (3, .int x3)]) S dX10_odds_44 (by decide) rfl ?_
    refine z_iconst (v := 1) S dX10_odds_46 (by decide) ?_
    refine z_istore (lv' := [(6, .int (1 : Int32)), (5, .int (0 : Int32)), (4, .int q16), (0, .ref (ad E x0)), (1, .int x1), (2, .int x2), (3, .int x3)]) S dX10_odds_47 (by decide) rfl ?_
    refine z_iconst (v := 0) S dX10_odds_49 (by decide) ?_
    refine z_istore (lv' := [(7, .int (0 : Int32)), (6, .int (1 : Int32)), (5, .int (0 : Int32)), (4, .int q16), (0, .ref (ad E x0)), (1, .int x1), (2, .int x2), (3, .int x3)]) S dX10_odds_50 (by decide) rfl ?_
    refine z_sub [4, 5, 6, 7, 2, 1, 0] rfl ?_
    refine w_X10_odds_L52 S M _ x0 x1 x2 x3 false h_x0 r (fun v18 hf => ?_) 1000 (1 : Int32) (0 : Int32) hf
    refine z_iconst (v := 0) S dX10_odds_98 (by decide) ?_
    refine z_istore (lv' := [(7, .int (0 : Int32)), (0, .ref (ad E x0)), (1, .int x1), (2, .int x2), (3, .int x3), (5, .int (0 : Int32)), (6, .int v18)]) S dX10_odds_99 (by decide) rfl ?_
    refine z_sub [1, 2, 3, 4, 5, 6, 0] rfl ?_
    refine w_X10_odds_L101 S M x0 x1 x2 x3 v18 h_x0 r (fun P20 v19 hf => ?_) 1000 q17 (0 : Int32) (0 : Int32) hf
    refine z_iload S 1 dX10_odds_255 rfl ?_
    refine z_istore (lv' := [(7, .int v19), (3, .int x3), (5, .int v19), (6, .int v18)]) S dX10_odds_257 (by decide) rfl ?_
    refine z_iload S 3 dX10_odds_259 rfl ?_
    refine z_istore (lv' := [(8, .int v18), (7, .int v19), (3, .int x3), (5, .int v19), (6, .int v18)]) S dX10_odds_261 (by decide) rfl ?_
    refine z_sub [2, 3, 4, 1, 0] rfl ?_
    refine w_X10_odds_L263 S M _ x3 v19 v18  r (fun v21 hf => ?_) 1000 v19 v18 hf
    refine z_iload_n S 0 dX10_odds_286 rfl rfl ?_
    refine z_if_ne (tgt := 295) S dX10_odds_287 (by decide) hf (fun hf => ?_) (fun hf => ?_)
    · refine z_iload S 1 dX10_odds_290 rfl ?_
      refine z_goto (tgt := 297) S dX10_odds_292 (by decide) ?_
      refine z_iload S 3 dX10_odds_297 rfl ?_
      refine z_idiv S dX10_odds_299 hf (fun hf => ?_)
      exact z_iretI (v := (v19 / v21)) S M rfl dX10_odds_300 hf
    · refine z_iload S 2 dX10_odds_295 rfl ?_
      refine z_iload S 3 dX10_odds_297 rfl ?_
      refine z_idiv S dX10_odds_299 hf (fun hf => ?_)
      exact z_iretI (v := (v18 / v21)) S M rfl dX10_odds_300 hf
  · refine z_iload S 0 dX10_odds_36 rfl ?_
    exact z_iretI (v := q16) S M rfl dX10_odds_38 hf
def f_X10_odds_J25 (P : PH) (x0 : Nat) (x1 : Int32) (x2 : Int32) (x3 : Int32) (s0 : Nat) (s1 : Int32) : Option (Int32 × PH) :=
  f_X10_odds_J26 P x0 x1 x2 x3 s0 s1 false
theorem w_X10_odds_J25 {x : Fx} {E : Ev} (S : ZS x E r_X10_odds cX10_odds 11 RX10 (some .int)) (M : ZM x E) (P : PH) (x0 : Nat) (x1 : Int32) (x2 : Int32) (x3 : Int32) (s0 : Nat) (s1 : Int32) (h_x0 : ok x0 8 0) (h_s0 : ok s0 8 0) (r : (Int32 × PH)) (hf : f_X10_odds_J25 P x0 x1 x2 x3 s0 s1 = some r) : Wz x E 11 (QI E x r.1 r.2) P 25 [(0, .ref (ad E x0)), (1, .int x1), (2, .int x2), (3, .int x3)] [.int s1, .ref (ad E s0)] := by
  unfold f_X10_odds_J25 at hf
  refine z_iconst (v := 0) S dX10_odds_25 (by decide) ?_
  exact w_X10_odds_J26 S M P x0 x1 x2 x3 s0 s1 false h_x0 h_s0 r hf
def f_X10_odds (P : PH) (x0 : Nat) (x1 : Int32) (x2 : Int32) (x3 : Int32) : Option (Int32 × PH) :=
  ((f_X10_in P x2 (0 : Int32) (10 : Int32)).bind fun q22 => (if (b2i q22) = 0 then f_X10_odds_J25 P x0 x1 x2 x3 x0 x1 else ((f_X10_in P x3 (0 : Int32) (1 : Int32)).bind fun q23 => (if (b2i q23) = 0 then f_X10_odds_J25 P x0 x1 x2 x3 x0 x1 else f_X10_odds_J26 P x0 x1 x2 x3 x0 x1 true))))
theorem w_X10_odds {x : Fx} {E : Ev} (S : ZS x E r_X10_odds cX10_odds 11 RX10 (some .int)) (M : ZM x E) (P : PH) (x0 : Nat) (x1 : Int32) (x2 : Int32) (x3 : Int32) (h_x0 : ok x0 8 0) (r : (Int32 × PH)) (hf : f_X10_odds P x0 x1 x2 x3 = some r) : Wz x E 11 (QI E x r.1 r.2) P 0 [(0, .ref (ad E x0)), (1, .int x1), (2, .int x2), (3, .int x3)] [] := by
  unfold f_X10_odds at hf
  refine z_aload_n S 0 dX10_odds_0 rfl rfl ?_
  refine z_iload_n S 1 dX10_odds_1 rfl rfl ?_
  refine z_iload_n S 2 dX10_odds_2 rfl rfl ?_
  refine z_iconst (v := 0) S dX10_odds_3 (by decide) ?_
  refine z_bipush (v := 10) S dX10_odds_4 (by decide) ?_
  refine z_callSI (rc := r_X10_in) [.int x2, .int (0 : Int32), .int (10 : Int32)] S mo_X10_in wd758 wd757 rfl rfl (by decide) (z_room0 S M (by rfl) (by rfl)) rfl (Nat.le_of_ble_eq_true rfl) rfl dX10_odds_6 (fun q => b2i q) (fun _ => P) (fun q hq => m_X10_in (xl x) E _ _ _ _  q hq) hf (fun q22 hf => ?_)
  refine z_if_eq (tgt := 25) S dX10_odds_9 (by decide) hf (fun hf => ?_) (fun hf => ?_)
  · exact w_X10_odds_J25 S M P x0 x1 x2 x3 x0 x1 h_x0 h_x0 r hf
  · refine z_iload_n S 3 dX10_odds_12 rfl rfl ?_
    refine z_iconst (v := 0) S dX10_odds_13 (by decide) ?_
    refine z_iconst (v := 1) S dX10_odds_14 (by decide) ?_
    refine z_callSI (rc := r_X10_in) [.int x3, .int (0 : Int32), .int (1 : Int32)] S mo_X10_in wd758 wd757 rfl rfl (by decide) (z_room0 S M (by rfl) (by rfl)) rfl (Nat.le_of_ble_eq_true rfl) rfl dX10_odds_15 (fun q => b2i q) (fun _ => P) (fun q hq => m_X10_in (xl x) E _ _ _ _  q hq) hf (fun q23 hf => ?_)
    refine z_if_eq (tgt := 25) S dX10_odds_18 (by decide) hf (fun hf => ?_) (fun hf => ?_)
    · exact w_X10_odds_J25 S M P x0 x1 x2 x3 x0 x1 h_x0 h_x0 r hf
    · refine z_iconst (v := 1) S dX10_odds_21 (by decide) ?_
      refine z_goto (tgt := 26) S dX10_odds_22 (by decide) ?_
      exact w_X10_odds_J26 S M P x0 x1 x2 x3 x0 x1 true h_x0 h_x0 r hf
theorem m_X10_odds (l : Launch) (E : Ev) (P : PH) (x0 : Nat) (x1 : Int32) (x2 : Int32) (x3 : Int32) (h_x0 : ok x0 8 0) (r : (Int32 × PH)) (hf : f_X10_odds P x0 x1 x2 x3 = some r) : CtI l E yX10_odds cX10_odds 11 (some .int) r_X10_odds [.ref (ad E x0), .int x1, .int x2, .int x3] P r.1 r.2 :=
  z_body (own := RX10) (by decide +kernel) rfl (Nat.le_of_ble_eq_true rfl) rfl (fun x _ S M => w_X10_odds S M P x0 x1 x2 x3 h_x0 r hf)
-- yX10_roomRate
theorem dX10_roomRate_0 : decode cX10_roomRate 0 = .ok (.aload_n 0, 1) := by decide +kernel
theorem dX10_roomRate_1 : decode cX10_roomRate 1 = .ok (.dup, 1) := by decide +kernel
theorem dX10_roomRate_2 : decode cX10_roomRate 2 = .ok (.getfield 193, 3) := by decide +kernel
theorem dX10_roomRate_5 : decode cX10_roomRate 5 = .ok (.lconst 1, 1) := by decide +kernel
theorem dX10_roomRate_6 : decode cX10_roomRate 6 = .ok (.ladd, 1) := by decide +kernel
theorem dX10_roomRate_7 : decode cX10_roomRate 7 = .ok (.putfield 193, 3) := by decide +kernel
theorem dX10_roomRate_10 : decode cX10_roomRate 10 = .ok (.aload_n 0, 1) := by decide +kernel
theorem dX10_roomRate_11 : decode cX10_roomRate 11 = .ok (.getfield 16, 3) := by decide +kernel
theorem dX10_roomRate_14 : decode cX10_roomRate 14 = .ok (.iload_n 1, 1) := by decide +kernel
theorem dX10_roomRate_15 : decode cX10_roomRate 15 = .ok (.iaload, 1) := by decide +kernel
theorem dX10_roomRate_16 : decode cX10_roomRate 16 = .ok (.invokestatic 182, 3) := by decide +kernel
theorem dX10_roomRate_19 : decode cX10_roomRate 19 = .ok (.ireturn, 1) := by decide +kernel
def r_X10_roomRate : Room := { frames := 1, cells := 0, slots := 0, locals := 22 }
def f_X10_roomRate (P : PH) (x0 : Nat) (x1 : Int32) : Option (Int32 × PH) :=
  (if (x1 < 0 ∨ 7 ≤ x1.toNatClampNeg) then none else ((f_X10_bits (sL P x0 ((P.2.1 x0) + (1 : Int64))) ((sL P x0 ((P.2.1 x0) + (1 : Int64))).1 ((sL P x0 ((P.2.1 x0) + (1 : Int64))).2.2 x0 4) x1.toNatClampNeg)).bind fun q2 => some (q2, (sL P x0 ((P.2.1 x0) + (1 : Int64))))))
theorem w_X10_roomRate {x : Fx} {E : Ev} (S : ZS x E r_X10_roomRate cX10_roomRate 2 RX10 (some .int)) (M : ZM x E) (P : PH) (x0 : Nat) (x1 : Int32) (h_x0 : ok x0 8 0) (r : (Int32 × PH)) (hf : f_X10_roomRate P x0 x1 = some r) : Wz x E 2 (QI E x r.1 r.2) P 0 [(0, .ref (ad E x0)), (1, .int x1)] [] := by
  unfold f_X10_roomRate at hf
  refine z_aload_n S 0 dX10_roomRate_0 rfl rfl ?_
  refine z_dup S dX10_roomRate_1 rfl ?_
  refine z_getL S cf_8 h_x0 12 (by decide) rfl wd679 dX10_roomRate_2 ?_
  refine z_lconst (v := 1) S dX10_roomRate_5 (by decide) ?_
  refine z_ladd S dX10_roomRate_6 ?_
  refine z_putL S cf_8 h_x0 12 (by decide) rfl sole_8 rfl rfl rfl wd679 dX10_roomRate_7 ?_
  refine z_aload_n S 0 dX10_roomRate_10 rfl rfl ?_
  refine z_getR (K' := 9) (n' := 7) S cf_8 h_x0 4 (by decide) rfl rfl rfl wd671 dX10_roomRate_11 (fun h1 => ?_)
  refine z_iload_n S 1 dX10_roomRate_14 rfl rfl ?_
  refine z_iald S h1 dX10_roomRate_15 hf (fun hf => ?_)
  refine z_callSI (rc := r_X10_bits) [.int ((sL P x0 ((P.2.1 x0) + (1 : Int64))).1 ((sL P x0 ((P.2.1 x0) + (1 : Int64))).2.2 x0 4) x1.toNatClampNeg)] S mo_X10_bits wd889 wd888 rfl rfl (by decide) (z_room0 S M (by rfl) (by rfl)) rfl (Nat.le_of_ble_eq_true rfl) rfl dX10_roomRate_16 (fun q => q) (fun _ => (sL P x0 ((P.2.1 x0) + (1 : Int64)))) (fun q hq => m_X10_bits (xl x) E _ _  q hq) hf (fun q2 hf => ?_)
  exact z_iretI (v := q2) S M rfl dX10_roomRate_19 hf
theorem m_X10_roomRate (l : Launch) (E : Ev) (P : PH) (x0 : Nat) (x1 : Int32) (h_x0 : ok x0 8 0) (r : (Int32 × PH)) (hf : f_X10_roomRate P x0 x1 = some r) : CtI l E yX10_roomRate cX10_roomRate 2 (some .int) r_X10_roomRate [.ref (ad E x0), .int x1] P r.1 r.2 :=
  z_body (own := RX10) (by decide +kernel) rfl (Nat.le_of_ble_eq_true rfl) rfl (fun x _ S M => w_X10_roomRate S M P x0 x1 h_x0 r hf)
-- yX10_hallRate
theorem dX10_hallRate_0 : decode cX10_hallRate 0 = .ok (.aload_n 0, 1) := by decide +kernel
theorem dX10_hallRate_1 : decode cX10_hallRate 1 = .ok (.dup, 1) := by decide +kernel
theorem dX10_hallRate_2 : decode cX10_hallRate 2 = .ok (.getfield 193, 3) := by decide +kernel
theorem dX10_hallRate_5 : decode cX10_hallRate 5 = .ok (.ldc2_w 197, 3) := by decide +kernel
theorem dX10_hallRate_8 : decode cX10_hallRate 8 = .ok (.ladd, 1) := by decide +kernel
theorem dX10_hallRate_9 : decode cX10_hallRate 9 = .ok (.putfield 193, 3) := by decide +kernel
theorem dX10_hallRate_12 : decode cX10_hallRate 12 = .ok (.aload_n 0, 1) := by decide +kernel
theorem dX10_hallRate_13 : decode cX10_hallRate 13 = .ok (.iload_n 1, 1) := by decide +kernel
theorem dX10_hallRate_14 : decode cX10_hallRate 14 = .ok (.invokevirtual 199, 3) := by decide +kernel
theorem dX10_hallRate_17 : decode cX10_hallRate 17 = .ok (.aload_n 0, 1) := by decide +kernel
theorem dX10_hallRate_18 : decode cX10_hallRate 18 = .ok (.iload_n 1, 1) := by decide +kernel
theorem dX10_hallRate_19 : decode cX10_hallRate 19 = .ok (.invokevirtual 172, 3) := by decide +kernel
theorem dX10_hallRate_22 : decode cX10_hallRate 22 = .ok (.invokestatic 182, 3) := by decide +kernel
theorem dX10_hallRate_25 : decode cX10_hallRate 25 = .ok (.iadd, 1) := by decide +kernel
theorem dX10_hallRate_26 : decode cX10_hallRate 26 = .ok (.ireturn, 1) := by decide +kernel
def r_X10_hallRate : Room := { frames := 6, cells := 0, slots := 0, locals := 134 }
def f_X10_hallRate (P : PH) (x0 : Nat) (x1 : Int32) : Option (Int32 × PH) :=
  ((f_X10_roomRate (sL P x0 ((P.2.1 x0) + (10 : Int64))) x0 x1).bind fun q1 => ((f_X10_whoMay q1.2 x0 x1).bind fun q2 => ((f_X10_bits q2.2 q2.1).bind fun q3 => some ((q1.1 + q3), q2.2))))
theorem w_X10_hallRate {x : Fx} {E : Ev} (S : ZS x E r_X10_hallRate cX10_hallRate 2 RX10 (some .int)) (M : ZM x E) (P : PH) (x0 : Nat) (x1 : Int32) (h_x0 : ok x0 8 0) (r : (Int32 × PH)) (hf : f_X10_hallRate P x0 x1 = some r) : Wz x E 2 (QI E x r.1 r.2) P 0 [(0, .ref (ad E x0)), (1, .int x1)] [] := by
  unfold f_X10_hallRate at hf
  refine z_aload_n S 0 dX10_hallRate_0 rfl rfl ?_
  refine z_dup S dX10_hallRate_1 rfl ?_
  refine z_getL S cf_8 h_x0 12 (by decide) rfl wd679 dX10_hallRate_2 ?_
  refine z_ldc2 (v := 10) S wd975 dX10_hallRate_5 ?_
  refine z_ladd S dX10_hallRate_8 ?_
  refine z_putL S cf_8 h_x0 12 (by decide) rfl sole_8 rfl rfl rfl wd679 dX10_hallRate_9 ?_
  refine z_aload_n S 0 dX10_hallRate_12 rfl rfl ?_
  refine z_iload_n S 1 dX10_hallRate_13 rfl rfl ?_
  refine z_callVI (rc := r_X10_roomRate) [.int x1] S mo_X10_roomRate wd969 wd30 wd967 h_x0 (by decide) cl_8 rfl rfl (by decide) (z_room0 S M (by rfl) (by rfl)) rfl (Nat.le_of_ble_eq_true rfl) rfl dX10_hallRate_14 (fun q => q.1) (fun q => q.2) (fun q hq => m_X10_roomRate (xl x) E _ _ _ h_x0 q hq) hf (fun q1 hf => ?_)
  refine z_aload_n S 0 dX10_hallRate_17 rfl rfl ?_
  refine z_iload_n S 1 dX10_hallRate_18 rfl rfl ?_
  refine z_callVI (rc := r_X10_whoMay) [.int x1] S mo_X10_whoMay wd862 wd26 wd860 h_x0 (by decide) cl_8 rfl rfl (by decide) (z_room0 S M (by rfl) (by rfl)) rfl (Nat.le_of_ble_eq_true rfl) rfl dX10_hallRate_19 (fun q => q.1) (fun q => q.2) (fun q hq => m_X10_whoMay (xl x) E _ _ _ h_x0 q hq) hf (fun q2 hf => ?_)
  refine z_callSI (rc := r_X10_bits) [.int q2.1] S mo_X10_bits wd889 wd888 rfl rfl (by decide) (z_room0 S M (by rfl) (by rfl)) rfl (Nat.le_of_ble_eq_true rfl) rfl dX10_hallRate_22 (fun q => q) (fun _ => q2.2) (fun q hq => m_X10_bits (xl x) E _ _  q hq) hf (fun q3 hf => ?_)
  refine z_iadd S dX10_hallRate_25 ?_
  exact z_iretI (v := (q1.1 + q3)) S M rfl dX10_hallRate_26 hf
theorem m_X10_hallRate (l : Launch) (E : Ev) (P : PH) (x0 : Nat) (x1 : Int32) (h_x0 : ok x0 8 0) (r : (Int32 × PH)) (hf : f_X10_hallRate P x0 x1 = some r) : CtI l E yX10_hallRate cX10_hallRate 2 (some .int) r_X10_hallRate [.ref (ad E x0), .int x1] P r.1 r.2 :=
  z_body (own := RX10) (by decide +kernel) rfl (Nat.le_of_ble_eq_true rfl) rfl (fun x _ S M => w_X10_hallRate S M P x0 x1 h_x0 r hf)
-- yX10_stairRate
theorem dX10_stairRate_0 : decode cX10_stairRate 0 = .ok (.aload_n 0, 1) := by decide +kernel
theorem dX10_stairRate_1 : decode cX10_stairRate 1 = .ok (.dup, 1) := by decide +kernel
theorem dX10_stairRate_2 : decode cX10_stairRate 2 = .ok (.getfield 193, 3) := by decide +kernel
theorem dX10_stairRate_5 : decode cX10_stairRate 5 = .ok (.ldc2_w 202, 3) := by decide +kernel
theorem dX10_stairRate_8 : decode cX10_stairRate 8 = .ok (.ladd, 1) := by decide +kernel
theorem dX10_stairRate_9 : decode cX10_stairRate 9 = .ok (.putfield 193, 3) := by decide +kernel
theorem dX10_stairRate_12 : decode cX10_stairRate 12 = .ok (.iconst 0, 1) := by decide +kernel
theorem dX10_stairRate_13 : decode cX10_stairRate 13 = .ok (.istore_n 2, 1) := by decide +kernel
theorem dX10_stairRate_14 : decode cX10_stairRate 14 = .ok (.iconst 0, 1) := by decide +kernel
theorem dX10_stairRate_15 : decode cX10_stairRate 15 = .ok (.istore_n 3, 1) := by decide +kernel
theorem dX10_stairRate_16 : decode cX10_stairRate 16 = .ok (.iload_n 3, 1) := by decide +kernel
theorem dX10_stairRate_17 : decode cX10_stairRate 17 = .ok (.aload_n 0, 1) := by decide +kernel
theorem dX10_stairRate_18 : decode cX10_stairRate 18 = .ok (.getfield 19, 3) := by decide +kernel
theorem dX10_stairRate_21 : decode cX10_stairRate 21 = .ok (.bipush 15, 2) := by decide +kernel
theorem dX10_stairRate_23 : decode cX10_stairRate 23 = .ok (.iaload, 1) := by decide +kernel
theorem dX10_stairRate_24 : decode cX10_stairRate 24 = .ok (.if_icmp .ge 34, 3) := by decide +kernel
theorem dX10_stairRate_27 : decode cX10_stairRate 27 = .ok (.iload_n 2, 1) := by decide +kernel
theorem dX10_stairRate_28 : decode cX10_stairRate 28 = .ok (.aload_n 0, 1) := by decide +kernel
theorem dX10_stairRate_29 : decode cX10_stairRate 29 = .ok (.getfield 19, 3) := by decide +kernel
theorem dX10_stairRate_32 : decode cX10_stairRate 32 = .ok (.bipush 16, 2) := by decide +kernel
theorem dX10_stairRate_34 : decode cX10_stairRate 34 = .ok (.iconst 3, 1) := by decide +kernel
theorem dX10_stairRate_35 : decode cX10_stairRate 35 = .ok (.iload_n 3, 1) := by decide +kernel
theorem dX10_stairRate_36 : decode cX10_stairRate 36 = .ok (.imul, 1) := by decide +kernel
theorem dX10_stairRate_37 : decode cX10_stairRate 37 = .ok (.iadd, 1) := by decide +kernel
theorem dX10_stairRate_38 : decode cX10_stairRate 38 = .ok (.iconst 1, 1) := by decide +kernel
theorem dX10_stairRate_39 : decode cX10_stairRate 39 = .ok (.iadd, 1) := by decide +kernel
theorem dX10_stairRate_40 : decode cX10_stairRate 40 = .ok (.iaload, 1) := by decide +kernel
theorem dX10_stairRate_41 : decode cX10_stairRate 41 = .ok (.iload_n 1, 1) := by decide +kernel
theorem dX10_stairRate_42 : decode cX10_stairRate 42 = .ok (.if_icmp .ne 7, 3) := by decide +kernel
theorem dX10_stairRate_45 : decode cX10_stairRate 45 = .ok (.iconst 1, 1) := by decide +kernel
theorem dX10_stairRate_46 : decode cX10_stairRate 46 = .ok (.goto 4, 3) := by decide +kernel
theorem dX10_stairRate_49 : decode cX10_stairRate 49 = .ok (.iconst 0, 1) := by decide +kernel
theorem dX10_stairRate_50 : decode cX10_stairRate 50 = .ok (.iadd, 1) := by decide +kernel
theorem dX10_stairRate_51 : decode cX10_stairRate 51 = .ok (.istore_n 2, 1) := by decide +kernel
theorem dX10_stairRate_52 : decode cX10_stairRate 52 = .ok (.iinc 3 1, 3) := by decide +kernel
theorem dX10_stairRate_55 : decode cX10_stairRate 55 = .ok (.goto (-39), 3) := by decide +kernel
theorem dX10_stairRate_58 : decode cX10_stairRate 58 = .ok (.aload_n 0, 1) := by decide +kernel
theorem dX10_stairRate_59 : decode cX10_stairRate 59 = .ok (.iload_n 1, 1) := by decide +kernel
theorem dX10_stairRate_60 : decode cX10_stairRate 60 = .ok (.invokevirtual 199, 3) := by decide +kernel
theorem dX10_stairRate_63 : decode cX10_stairRate 63 = .ok (.iload_n 2, 1) := by decide +kernel
theorem dX10_stairRate_64 : decode cX10_stairRate 64 = .ok (.isub, 1) := by decide +kernel
theorem dX10_stairRate_65 : decode cX10_stairRate 65 = .ok (.ireturn, 1) := by decide +kernel
def r_X10_stairRate : Room := { frames := 2, cells := 0, slots := 0, locals := 43 }
def f_X10_stairRate_L16 (K : Int32 → Option (Int32 × PH)) (P : PH) (x0 : Nat) (x1 : Int32) : Nat → Int32 → Int32 → Option (Int32 × PH)
  | 0, _, _ => none
  | n + 1, x2, x3 =>
    (if ((15 : Int32) < 0 ∨ 46 ≤ (15 : Int32).toNatClampNeg) then none else (if (P.1 (P.2.2 x0 5) (15 : Int32).toNatClampNeg) ≤ x3 then K x2 else (if ((((16 : Int32) + ((3 : Int32) * x3)) + (1 : Int32)) < 0 ∨ 46 ≤ (((16 : Int32) + ((3 : Int32) * x3)) + (1 : Int32)).toNatClampNeg) then none else (if (P.1 (P.2.2 x0 5) (((16 : Int32) + ((3 : Int32) * x3)) + (1 : Int32)).toNatClampNeg) = x1 then f_X10_stairRate_L16 K P x0 x1 n (x2 + (1 : Int32)) (x3 + (1 : Int32)) else f_X10_stairRate_L16 K P x0 x1 n (x2 + (0 : Int32)) (x3 + (1 : Int32))))))
theorem w_X10_stairRate_L16 {x : Fx} {E : Ev} (S : ZS x E r_X10_stairRate cX10_stairRate 4 RX10 (some .int)) (M : ZM x E) {K : Int32 → Option (Int32 × PH)} (P : PH) (x0 : Nat) (x1 : Int32) (h_x0 : ok x0 8 0) (r : (Int32 × PH)) (hK : ∀ (y2 : Int32), K y2 = some r → Wz x E 4 (QI E x r.1 r.2) P 58 [(0, .ref (ad E x0)), (1, .int x1), (2, .int y2)] []) : ∀ (n : Nat) (x2 : Int32) (x3 : Int32), f_X10_stairRate_L16 K P x0 x1 n x2 x3 = some r → Wz x E 4 (QI E x r.1 r.2) P 16 [(0, .ref (ad E x0)), (1, .int x1), (2, .int x2), (3, .int x3)] [] := by
  intro n
  induction n with
  | zero => intro x2 x3 hf; cases hf
  | succ n ih =>
    intro x2 x3 hf
    unfold f_X10_stairRate_L16 at hf
    refine z_iload_n S 3 dX10_stairRate_16 rfl rfl ?_
    refine z_aload_n S 0 dX10_stairRate_17 rfl rfl ?_
    refine z_getR (K' := 9) (n' := 46) S cf_8 h_x0 5 (by decide) rfl rfl rfl wd672 dX10_stairRate_18 (fun h1 => ?_)
    refine z_bipush (v := 15) S dX10_stairRate_21 (by decide) ?_
    refine z_iald S h1 dX10_stairRate_23 hf (fun hf => ?_)
    refine z_icmp_ge (tgt := 58) S dX10_stairRate_24 (by decide) hf (fun hf => ?_) (fun hf => ?_)
    · refine z_sub [0, 1, 2] rfl ?_
      exact hK x2 hf
    · refine z_iload_n S 2 dX10_stairRate_27 rfl rfl ?_
      refine z_aload_n S 0 dX10_stairRate_28 rfl rfl ?_
      refine z_getR (K' := 9) (n' := 46) S cf_8 h_x0 5 (by decide) rfl rfl rfl wd672 dX10_stairRate_29 (fun h2 => ?_)
      refine z_bipush (v := 16) S dX10_stairRate_32 (by decide) ?_
      refine z_iconst (v := 3) S dX10_stairRate_34 (by decide) ?_
      refine z_iload_n S 3 dX10_stairRate_35 rfl rfl ?_
      refine z_imul S dX10_stairRate_36 ?_
      refine z_iadd S dX10_stairRate_37 ?_
      refine z_iconst (v := 1) S dX10_stairRate_38 (by decide) ?_
      refine z_iadd S dX10_stairRate_39 ?_
      refine z_iald S h2 dX10_stairRate_40 hf (fun hf => ?_)
      refine z_iload_n S 1 dX10_stairRate_41 rfl rfl ?_
      refine z_icmp_ne (tgt := 49) S dX10_stairRate_42 (by decide) hf (fun hf => ?_) (fun hf => ?_)
      · refine z_iconst (v := 1) S dX10_stairRate_45 (by decide) ?_
        refine z_goto (tgt := 50) S dX10_stairRate_46 (by decide) ?_
        refine z_iadd S dX10_stairRate_50 ?_
        refine z_istore_n (lv' := [(2, .int (x2 + (1 : Int32))), (0, .ref (ad E x0)), (1, .int x1), (3, .int x3)]) S dX10_stairRate_51 rfl (by decide) rfl ?_
        refine z_iinc (v := (x3 + (1 : Int32))) (lv' := [(3, .int (x3 + (1 : Int32))), (2, .int (x2 + (1 : Int32))), (0, .ref (ad E x0)), (1, .int x1)]) S 3 dX10_stairRate_52 rfl (by rfl) (by decide) rfl ?_
        refine z_goto (tgt := 16) S dX10_stairRate_55 (by decide) ?_
        refine z_sub [2, 3, 1, 0] rfl ?_
        exact ih (x2 + (1 : Int32)) (x3 + (1 : Int32)) hf
      · refine z_iconst (v := 0) S dX10_stairRate_49 (by decide) ?_
        refine z_iadd S dX10_stairRate_50 ?_
        refine z_istore_n (lv' := [(2, .int (x2 + (0 : Int32))), (0, .ref (ad E x0)), (1, .int x1), (3, .int x3)]) S dX10_stairRate_51 rfl (by decide) rfl ?_
        refine z_iinc (v := (x3 + (1 : Int32))) (lv' := [(3, .int (x3 + (1 : Int32))), (2, .int (x2 + (0 : Int32))), (0, .ref (ad E x0)), (1, .int x1)]) S 3 dX10_stairRate_52 rfl (by rfl) (by decide) rfl ?_
        refine z_goto (tgt := 16) S dX10_stairRate_55 (by decide) ?_
        refine z_sub [2, 3, 1, 0] rfl ?_
        exact ih (x2 + (0 : Int32)) (x3 + (1 : Int32)) hf
def f_X10_stairRate (P : PH) (x0 : Nat) (x1 : Int32) : Option (Int32 × PH) :=
  f_X10_stairRate_L16 (fun v3 => ((f_X10_roomRate (sL P x0 ((P.2.1 x0) + (100 : Int64))) x0 x1).bind fun q4 => some ((q4.1 - v3), q4.2))) (sL P x0 ((P.2.1 x0) + (100 : Int64))) x0 x1 1000 (0 : Int32) (0 : Int32)
theorem w_X10_stairRate {x : Fx} {E : Ev} (S : ZS x E r_X10_stairRate cX10_stairRate 4 RX10 (some .int)) (M : ZM x E) (P : PH) (x0 : Nat) (x1 : Int32) (h_x0 : ok x0 8 0) (r : (Int32 × PH)) (hf : f_X10_stairRate P x0 x1 = some r) : Wz x E 4 (QI E x r.1 r.2) P 0 [(0, .ref (ad E x0)), (1, .int x1)] [] := by
  unfold f_X10_stairRate at hf
  refine z_aload_n S 0 dX10_stairRate_0 rfl rfl ?_
  refine z_dup S dX10_stairRate_1 rfl ?_
  refine z_getL S cf_8 h_x0 12 (by decide) rfl wd679 dX10_stairRate_2 ?_
  refine z_ldc2 (v := 100) S wd980 dX10_stairRate_5 ?_
  refine z_ladd S dX10_stairRate_8 ?_
  refine z_putL S cf_8 h_x0 12 (by decide) rfl sole_8 rfl rfl rfl wd679 dX10_stairRate_9 ?_
  refine z_iconst (v := 0) S dX10_stairRate_12 (by decide) ?_
  refine z_istore_n (lv' := [(2, .int (0 : Int32)), (0, .ref (ad E x0)), (1, .int x1)]) S dX10_stairRate_13 rfl (by decide) rfl ?_
  refine z_iconst (v := 0) S dX10_stairRate_14 (by decide) ?_
  refine z_istore_n (lv' := [(3, .int (0 : Int32)), (2, .int (0 : Int32)), (0, .ref (ad E x0)), (1, .int x1)]) S dX10_stairRate_15 rfl (by decide) rfl ?_
  refine z_sub [2, 3, 1, 0] rfl ?_
  refine w_X10_stairRate_L16 S M _ x0 x1 h_x0 r (fun v3 hf => ?_) 1000 (0 : Int32) (0 : Int32) hf
  refine z_aload_n S 0 dX10_stairRate_58 rfl rfl ?_
  refine z_iload_n S 1 dX10_stairRate_59 rfl rfl ?_
  refine z_callVI (rc := r_X10_roomRate) [.int x1] S mo_X10_roomRate wd969 wd30 wd967 h_x0 (by decide) cl_8 rfl rfl (by decide) (z_room0 S M (by rfl) (by rfl)) rfl (Nat.le_of_ble_eq_true rfl) rfl dX10_stairRate_60 (fun q => q.1) (fun q => q.2) (fun q hq => m_X10_roomRate (xl x) E _ _ _ h_x0 q hq) hf (fun q4 hf => ?_)
  refine z_iload_n S 2 dX10_stairRate_63 rfl rfl ?_
  refine z_isub S dX10_stairRate_64 ?_
  exact z_iretI (v := (q4.1 - v3)) S M rfl dX10_stairRate_65 hf
theorem m_X10_stairRate (l : Launch) (E : Ev) (P : PH) (x0 : Nat) (x1 : Int32) (h_x0 : ok x0 8 0) (r : (Int32 × PH)) (hf : f_X10_stairRate P x0 x1 = some r) : CtI l E yX10_stairRate cX10_stairRate 4 (some .int) r_X10_stairRate [.ref (ad E x0), .int x1] P r.1 r.2 :=
  z_body (own := RX10) (by decide +kernel) rfl (Nat.le_of_ble_eq_true rfl) rfl (fun x _ S M => w_X10_stairRate S M P x0 x1 h_x0 r hf)
-- yX10_rate
theorem dX10_rate_0 : decode cX10_rate 0 = .ok (.iload_n 1, 1) := by decide +kernel
theorem dX10_rate_1 : decode cX10_rate 1 = .ok (.iconst 0, 1) := by decide +kernel
theorem dX10_rate_2 : decode cX10_rate 2 = .ok (.iconst 5, 1) := by decide +kernel
theorem dX10_rate_3 : decode cX10_rate 3 = .ok (.invokestatic 57, 3) := by decide +kernel
theorem dX10_rate_6 : decode cX10_rate 6 = .ok (.ifCond .eq 11, 3) := by decide +kernel
theorem dX10_rate_9 : decode cX10_rate 9 = .ok (.aload_n 0, 1) := by decide +kernel
theorem dX10_rate_10 : decode cX10_rate 10 = .ok (.iload_n 2, 1) := by decide +kernel
theorem dX10_rate_11 : decode cX10_rate 11 = .ok (.invokevirtual 169, 3) := by decide +kernel
theorem dX10_rate_14 : decode cX10_rate 14 = .ok (.ifCond .ne 6, 3) := by decide +kernel
theorem dX10_rate_17 : decode cX10_rate 17 = .ok (.ldc 204, 2) := by decide +kernel
theorem dX10_rate_19 : decode cX10_rate 19 = .ok (.ireturn, 1) := by decide +kernel
theorem dX10_rate_20 : decode cX10_rate 20 = .ok (.aload_n 0, 1) := by decide +kernel
theorem dX10_rate_21 : decode cX10_rate 21 = .ok (.invokevirtual 166, 3) := by decide +kernel
theorem dX10_rate_24 : decode cX10_rate 24 = .ok (.iload_n 1, 1) := by decide +kernel
theorem dX10_rate_25 : decode cX10_rate 25 = .ok (.tableswitch 93 0 4 #[35, 41, 47, 53, 73], 35) := by decide +kernel
theorem dX10_rate_60 : decode cX10_rate 60 = .ok (.aload_n 0, 1) := by decide +kernel
theorem dX10_rate_61 : decode cX10_rate 61 = .ok (.iload_n 2, 1) := by decide +kernel
theorem dX10_rate_62 : decode cX10_rate 62 = .ok (.invokevirtual 199, 3) := by decide +kernel
theorem dX10_rate_65 : decode cX10_rate 65 = .ok (.ireturn, 1) := by decide +kernel
theorem dX10_rate_66 : decode cX10_rate 66 = .ok (.aload_n 0, 1) := by decide +kernel
theorem dX10_rate_67 : decode cX10_rate 67 = .ok (.iload_n 2, 1) := by decide +kernel
theorem dX10_rate_68 : decode cX10_rate 68 = .ok (.invokevirtual 205, 3) := by decide +kernel
theorem dX10_rate_71 : decode cX10_rate 71 = .ok (.ireturn, 1) := by decide +kernel
theorem dX10_rate_72 : decode cX10_rate 72 = .ok (.aload_n 0, 1) := by decide +kernel
theorem dX10_rate_73 : decode cX10_rate 73 = .ok (.iload_n 2, 1) := by decide +kernel
theorem dX10_rate_74 : decode cX10_rate 74 = .ok (.invokevirtual 208, 3) := by decide +kernel
theorem dX10_rate_77 : decode cX10_rate 77 = .ok (.ireturn, 1) := by decide +kernel
theorem dX10_rate_78 : decode cX10_rate 78 = .ok (.aload_n 0, 1) := by decide +kernel
theorem dX10_rate_79 : decode cX10_rate 79 = .ok (.dup, 1) := by decide +kernel
theorem dX10_rate_80 : decode cX10_rate 80 = .ok (.getfield 193, 3) := by decide +kernel
theorem dX10_rate_83 : decode cX10_rate 83 = .ok (.ldc2_w 211, 3) := by decide +kernel
theorem dX10_rate_86 : decode cX10_rate 86 = .ok (.ladd, 1) := by decide +kernel
theorem dX10_rate_87 : decode cX10_rate 87 = .ok (.putfield 193, 3) := by decide +kernel
theorem dX10_rate_90 : decode cX10_rate 90 = .ok (.iconst 2, 1) := by decide +kernel
theorem dX10_rate_91 : decode cX10_rate 91 = .ok (.aload_n 0, 1) := by decide +kernel
theorem dX10_rate_92 : decode cX10_rate 92 = .ok (.iload_n 2, 1) := by decide +kernel
theorem dX10_rate_93 : decode cX10_rate 93 = .ok (.invokevirtual 205, 3) := by decide +kernel
theorem dX10_rate_96 : decode cX10_rate 96 = .ok (.imul, 1) := by decide +kernel
theorem dX10_rate_97 : decode cX10_rate 97 = .ok (.ireturn, 1) := by decide +kernel
theorem dX10_rate_98 : decode cX10_rate 98 = .ok (.aload_n 0, 1) := by decide +kernel
theorem dX10_rate_99 : decode cX10_rate 99 = .ok (.dup, 1) := by decide +kernel
theorem dX10_rate_100 : decode cX10_rate 100 = .ok (.getfield 193, 3) := by decide +kernel
theorem dX10_rate_103 : decode cX10_rate 103 = .ok (.ldc2_w 213, 3) := by decide +kernel
theorem dX10_rate_106 : decode cX10_rate 106 = .ok (.ladd, 1) := by decide +kernel
theorem dX10_rate_107 : decode cX10_rate 107 = .ok (.putfield 193, 3) := by decide +kernel
theorem dX10_rate_110 : decode cX10_rate 110 = .ok (.aload_n 0, 1) := by decide +kernel
theorem dX10_rate_111 : decode cX10_rate 111 = .ok (.iload_n 2, 1) := by decide +kernel
theorem dX10_rate_112 : decode cX10_rate 112 = .ok (.invokevirtual 208, 3) := by decide +kernel
theorem dX10_rate_115 : decode cX10_rate 115 = .ok (.iload_n 2, 1) := by decide +kernel
theorem dX10_rate_116 : decode cX10_rate 116 = .ok (.iadd, 1) := by decide +kernel
theorem dX10_rate_117 : decode cX10_rate 117 = .ok (.ireturn, 1) := by decide +kernel
theorem dX10_rate_118 : decode cX10_rate 118 = .ok (.aload_n 0, 1) := by decide +kernel
theorem dX10_rate_119 : decode cX10_rate 119 = .ok (.dup, 1) := by decide +kernel
theorem dX10_rate_120 : decode cX10_rate 120 = .ok (.getfield 193, 3) := by decide +kernel
theorem dX10_rate_123 : decode cX10_rate 123 = .ok (.ldc2_w 215, 3) := by decide +kernel
theorem dX10_rate_126 : decode cX10_rate 126 = .ok (.ladd, 1) := by decide +kernel
theorem dX10_rate_127 : decode cX10_rate 127 = .ok (.putfield 193, 3) := by decide +kernel
theorem dX10_rate_130 : decode cX10_rate 130 = .ok (.aload_n 0, 1) := by decide +kernel
theorem dX10_rate_131 : decode cX10_rate 131 = .ok (.iload_n 2, 1) := by decide +kernel
theorem dX10_rate_132 : decode cX10_rate 132 = .ok (.invokevirtual 199, 3) := by decide +kernel
theorem dX10_rate_135 : decode cX10_rate 135 = .ok (.aload_n 0, 1) := by decide +kernel
theorem dX10_rate_136 : decode cX10_rate 136 = .ok (.getfield 19, 3) := by decide +kernel
theorem dX10_rate_139 : decode cX10_rate 139 = .ok (.iconst 0, 1) := by decide +kernel
theorem dX10_rate_140 : decode cX10_rate 140 = .ok (.iaload, 1) := by decide +kernel
theorem dX10_rate_141 : decode cX10_rate 141 = .ok (.iadd, 1) := by decide +kernel
theorem dX10_rate_142 : decode cX10_rate 142 = .ok (.ireturn, 1) := by decide +kernel
def r_X10_rate : Room := { frames := 7, cells := 0, slots := 0, locals := 155 }
def f_X10_rate (P : PH) (x0 : Nat) (x1 : Int32) (x2 : Int32) : Option (Int32 × PH) :=
  ((f_X10_in P x1 (0 : Int32) (5 : Int32)).bind fun q1 => (if (b2i q1) = 0 then some ((-1000000 : Int32), P) else ((f_X10_isRoom P x0 x2).bind fun q2 => (if (b2i q2) = 0 then some ((-1000000 : Int32), P) else ((f_X10_asItIs P x0).bind fun q3 => (if x1 = (0 : Int32) then ((f_X10_roomRate q3 x0 x2).bind fun q5 => some (q5.1, q5.2)) else (if x1 = (1 : Int32) then ((f_X10_hallRate q3 x0 x2).bind fun q7 => some (q7.1, q7.2)) else (if x1 = (2 : Int32) then ((f_X10_stairRate q3 x0 x2).bind fun q9 => some (q9.1, q9.2)) else (if x1 = (3 : Int32) then ((some (sL q3 x0 ((q3.2.1 x0) + (1000 : Int64)))).bind fun P11 => ((f_X10_hallRate P11 x0 x2).bind fun q12 => some (((2 : Int32) * q12.1), q12.2))) else (if x1 = (4 : Int32) then ((some (sL q3 x0 ((q3.2.1 x0) + (10000 : Int64)))).bind fun P14 => ((f_X10_stairRate P14 x0 x2).bind fun q15 => some ((q15.1 + x2), q15.2))) else ((some (sL q3 x0 ((q3.2.1 x0) + (100000 : Int64)))).bind fun P16 => ((f_X10_roomRate P16 x0 x2).bind fun q17 => (if ((0 : Int32) < 0 ∨ 46 ≤ (0 : Int32).toNatClampNeg) then none else some ((q17.1 + (q17.2.1 (q17.2.2.2 x0 5) (0 : Int32).toNatClampNeg)), q17.2))))))))))))))
theorem w_X10_rate {x : Fx} {E : Ev} (S : ZS x E r_X10_rate cX10_rate 3 RX10 (some .int)) (M : ZM x E) (P : PH) (x0 : Nat) (x1 : Int32) (x2 : Int32) (h_x0 : ok x0 8 0) (r : (Int32 × PH)) (hf : f_X10_rate P x0 x1 x2 = some r) : Wz x E 3 (QI E x r.1 r.2) P 0 [(0, .ref (ad E x0)), (1, .int x1), (2, .int x2)] [] := by
  unfold f_X10_rate at hf
  refine z_iload_n S 1 dX10_rate_0 rfl rfl ?_
  refine z_iconst (v := 0) S dX10_rate_1 (by decide) ?_
  refine z_iconst (v := 5) S dX10_rate_2 (by decide) ?_
  refine z_callSI (rc := r_X10_in) [.int x1, .int (0 : Int32), .int (5 : Int32)] S mo_X10_in wd758 wd757 rfl rfl (by decide) (z_room0 S M (by rfl) (by rfl)) rfl (Nat.le_of_ble_eq_true rfl) rfl dX10_rate_3 (fun q => b2i q) (fun _ => P) (fun q hq => m_X10_in (xl x) E _ _ _ _  q hq) hf (fun q1 hf => ?_)
  refine z_if_eq (tgt := 17) S dX10_rate_6 (by decide) hf (fun hf => ?_) (fun hf => ?_)
  · refine z_ldc (v := (-1000000)) S wd966 dX10_rate_17 ?_
    exact z_iretI (v := (-1000000 : Int32)) S M rfl dX10_rate_19 hf
  · refine z_aload_n S 0 dX10_rate_9 rfl rfl ?_
    refine z_iload_n S 2 dX10_rate_10 rfl rfl ?_
    refine z_callVI (rc := r_X10_isRoom) [.int x2] S mo_X10_isRoom wd858 wd25 wd856 h_x0 (by decide) cl_8 rfl rfl (by decide) (z_room0 S M (by rfl) (by rfl)) rfl (Nat.le_of_ble_eq_true rfl) rfl dX10_rate_11 (fun q => b2i q) (fun _ => P) (fun q hq => m_X10_isRoom (xl x) E _ _ _ h_x0 q hq) hf (fun q2 hf => ?_)
    refine z_if_ne (tgt := 20) S dX10_rate_14 (by decide) hf (fun hf => ?_) (fun hf => ?_)
    · refine z_ldc (v := (-1000000)) S wd966 dX10_rate_17 ?_
      exact z_iretI (v := (-1000000 : Int32)) S M rfl dX10_rate_19 hf
    · refine z_aload_n S 0 dX10_rate_20 rfl rfl ?_
      refine z_callVV (rc := r_X10_asItIs) [] S mo_X10_asItIs wd819 wd17 wd817 h_x0 (by decide) cl_8 rfl rfl (by decide) (z_room0 S M (by rfl) (by rfl)) rfl (Nat.le_of_ble_eq_true rfl) rfl dX10_rate_21  (fun q => q) (fun q hq => m_X10_asItIs (xl x) E _ _ h_x0 q hq) hf (fun q3 hf => ?_)
      refine z_iload_n S 1 dX10_rate_24 rfl rfl ?_
      refine z_tif hf (fun h4 hf => ?_) (fun h4 hf => ?_)
      · refine z_tabIn (tgt := 60) S 0 dX10_rate_25 (by rw [h4]; rfl) (by decide) rfl (by decide) ?_
        refine z_aload_n S 0 dX10_rate_60 rfl rfl ?_
        refine z_iload_n S 2 dX10_rate_61 rfl rfl ?_
        refine z_callVI (rc := r_X10_roomRate) [.int x2] S mo_X10_roomRate wd969 wd30 wd967 h_x0 (by decide) cl_8 rfl rfl (by decide) (z_room0 S M (by rfl) (by rfl)) rfl (Nat.le_of_ble_eq_true rfl) rfl dX10_rate_62 (fun q => q.1) (fun q => q.2) (fun q hq => m_X10_roomRate (xl x) E _ _ _ h_x0 q hq) hf (fun q5 hf => ?_)
        exact z_iretI (v := q5.1) S M rfl dX10_rate_65 hf
      refine z_tif hf (fun h6 hf => ?_) (fun h6 hf => ?_)
      · refine z_tabIn (tgt := 66) S 1 dX10_rate_25 (by rw [h6]; rfl) (by decide) rfl (by decide) ?_
        refine z_aload_n S 0 dX10_rate_66 rfl rfl ?_
        refine z_iload_n S 2 dX10_rate_67 rfl rfl ?_
        refine z_callVI (rc := r_X10_hallRate) [.int x2] S mo_X10_hallRate wd973 wd31 wd971 h_x0 (by decide) cl_8 rfl rfl (by decide) (z_room0 S M (by rfl) (by rfl)) rfl (Nat.le_of_ble_eq_true rfl) rfl dX10_rate_68 (fun q => q.1) (fun q => q.2) (fun q hq => m_X10_hallRate (xl x) E _ _ _ h_x0 q hq) hf (fun q7 hf => ?_)
        exact z_iretI (v := q7.1) S M rfl dX10_rate_71 hf
      refine z_tif hf (fun h8 hf => ?_) (fun h8 hf => ?_)
      · refine z_tabIn (tgt := 72) S 2 dX10_rate_25 (by rw [h8]; rfl) (by decide) rfl (by decide) ?_
        refine z_aload_n S 0 dX10_rate_72 rfl rfl ?_
        refine z_iload_n S 2 dX10_rate_73 rfl rfl ?_
        refine z_callVI (rc := r_X10_stairRate) [.int x2] S mo_X10_stairRate wd978 wd32 wd976 h_x0 (by decide) cl_8 rfl rfl (by decide) (z_room0 S M (by rfl) (by rfl)) rfl (Nat.le_of_ble_eq_true rfl) rfl dX10_rate_74 (fun q => q.1) (fun q => q.2) (fun q hq => m_X10_stairRate (xl x) E _ _ _ h_x0 q hq) hf (fun q9 hf => ?_)
        exact z_iretI (v := q9.1) S M rfl dX10_rate_77 hf
      refine z_tif hf (fun h10 hf => ?_) (fun h10 hf => ?_)
      · refine z_tabIn (tgt := 78) S 3 dX10_rate_25 (by rw [h10]; rfl) (by decide) rfl (by decide) ?_
        refine z_aload_n S 0 dX10_rate_78 rfl rfl ?_
        refine z_dup S dX10_rate_79 rfl ?_
        refine z_getL S cf_8 h_x0 12 (by decide) rfl wd679 dX10_rate_80 ?_
        refine z_ldc2 (v := 1000) S wd981 dX10_rate_83 ?_
        refine z_ladd S dX10_rate_86 ?_
        refine z_putL S cf_8 h_x0 12 (by decide) rfl sole_8 rfl rfl rfl wd679 dX10_rate_87 ?_
        refine z_nmP hf (fun P11 hf => ?_)
        refine z_iconst (v := 2) S dX10_rate_90 (by decide) ?_
        refine z_aload_n S 0 dX10_rate_91 rfl rfl ?_
        refine z_iload_n S 2 dX10_rate_92 rfl rfl ?_
        refine z_callVI (rc := r_X10_hallRate) [.int x2] S mo_X10_hallRate wd973 wd31 wd971 h_x0 (by decide) cl_8 rfl rfl (by decide) (z_room0 S M (by rfl) (by rfl)) rfl (Nat.le_of_ble_eq_true rfl) rfl dX10_rate_93 (fun q => q.1) (fun q => q.2) (fun q hq => m_X10_hallRate (xl x) E _ _ _ h_x0 q hq) hf (fun q12 hf => ?_)
        refine z_imul S dX10_rate_96 ?_
        exact z_iretI (v := ((2 : Int32) * q12.1)) S M rfl dX10_rate_97 hf
      refine z_tif hf (fun h13 hf => ?_) (fun h13 hf => ?_)
      · refine z_tabIn (tgt := 98) S 4 dX10_rate_25 (by rw [h13]; rfl) (by decide) rfl (by decide) ?_
        refine z_aload_n S 0 dX10_rate_98 rfl rfl ?_
        refine z_dup S dX10_rate_99 rfl ?_
        refine z_getL S cf_8 h_x0 12 (by decide) rfl wd679 dX10_rate_100 ?_
        refine z_ldc2 (v := 10000) S wd982 dX10_rate_103 ?_
        refine z_ladd S dX10_rate_106 ?_
        refine z_putL S cf_8 h_x0 12 (by decide) rfl sole_8 rfl rfl rfl wd679 dX10_rate_107 ?_
        refine z_nmP hf (fun P14 hf => ?_)
        refine z_aload_n S 0 dX10_rate_110 rfl rfl ?_
        refine z_iload_n S 2 dX10_rate_111 rfl rfl ?_
        refine z_callVI (rc := r_X10_stairRate) [.int x2] S mo_X10_stairRate wd978 wd32 wd976 h_x0 (by decide) cl_8 rfl rfl (by decide) (z_room0 S M (by rfl) (by rfl)) rfl (Nat.le_of_ble_eq_true rfl) rfl dX10_rate_112 (fun q => q.1) (fun q => q.2) (fun q hq => m_X10_stairRate (xl x) E _ _ _ h_x0 q hq) hf (fun q15 hf => ?_)
        refine z_iload_n S 2 dX10_rate_115 rfl rfl ?_
        refine z_iadd S dX10_rate_116 ?_
        exact z_iretI (v := (q15.1 + x2)) S M rfl dX10_rate_117 hf
      refine z_tabOut (tgt := 118) S dX10_rate_25 (by have e0 := lv_neT h4 (a := 0) rfl; have e1 := lv_neT h6 (a := 1) rfl; have e2 := lv_neT h8 (a := 2) rfl; have e3 := lv_neT h10 (a := 3) rfl; have e4 := lv_neT h13 (a := 4) rfl; omega) (by decide) ?_
      refine z_aload_n S 0 dX10_rate_118 rfl rfl ?_
      refine z_dup S dX10_rate_119 rfl ?_
      refine z_getL S cf_8 h_x0 12 (by decide) rfl wd679 dX10_rate_120 ?_
      refine z_ldc2 (v := 100000) S wd983 dX10_rate_123 ?_
      refine z_ladd S dX10_rate_126 ?_
      refine z_putL S cf_8 h_x0 12 (by decide) rfl sole_8 rfl rfl rfl wd679 dX10_rate_127 ?_
      refine z_nmP hf (fun P16 hf => ?_)
      refine z_aload_n S 0 dX10_rate_130 rfl rfl ?_
      refine z_iload_n S 2 dX10_rate_131 rfl rfl ?_
      refine z_callVI (rc := r_X10_roomRate) [.int x2] S mo_X10_roomRate wd969 wd30 wd967 h_x0 (by decide) cl_8 rfl rfl (by decide) (z_room0 S M (by rfl) (by rfl)) rfl (Nat.le_of_ble_eq_true rfl) rfl dX10_rate_132 (fun q => q.1) (fun q => q.2) (fun q hq => m_X10_roomRate (xl x) E _ _ _ h_x0 q hq) hf (fun q17 hf => ?_)
      refine z_aload_n S 0 dX10_rate_135 rfl rfl ?_
      refine z_getR (K' := 9) (n' := 46) S cf_8 h_x0 5 (by decide) rfl rfl rfl wd672 dX10_rate_136 (fun h18 => ?_)
      refine z_iconst (v := 0) S dX10_rate_139 (by decide) ?_
      refine z_iald S h18 dX10_rate_140 hf (fun hf => ?_)
      refine z_iadd S dX10_rate_141 ?_
      exact z_iretI (v := (q17.1 + (q17.2.1 (q17.2.2.2 x0 5) (0 : Int32).toNatClampNeg))) S M rfl dX10_rate_142 hf
theorem m_X10_rate (l : Launch) (E : Ev) (P : PH) (x0 : Nat) (x1 : Int32) (x2 : Int32) (h_x0 : ok x0 8 0) (r : (Int32 × PH)) (hf : f_X10_rate P x0 x1 x2 = some r) : CtI l E yX10_rate cX10_rate 3 (some .int) r_X10_rate [.ref (ad E x0), .int x1, .int x2] P r.1 r.2 :=
  z_body (own := RX10) (by decide +kernel) rfl (Nat.le_of_ble_eq_true rfl) rfl (fun x _ S M => w_X10_rate S M P x0 x1 x2 h_x0 r hf)
-- yX10_keep
theorem dX10_keep_0 : decode cX10_keep 0 = .ok (.iload_n 1, 1) := by decide +kernel
theorem dX10_keep_1 : decode cX10_keep 1 = .ok (.iconst 0, 1) := by decide +kernel
theorem dX10_keep_2 : decode cX10_keep 2 = .ok (.iconst 1, 1) := by decide +kernel
theorem dX10_keep_3 : decode cX10_keep 3 = .ok (.invokestatic 57, 3) := by decide +kernel
theorem dX10_keep_6 : decode cX10_keep 6 = .ok (.ifCond .ne 5, 3) := by decide +kernel
theorem dX10_keep_9 : decode cX10_keep 9 = .ok (.iconst (-1), 1) := by decide +kernel
theorem dX10_keep_10 : decode cX10_keep 10 = .ok (.ireturn, 1) := by decide +kernel
theorem dX10_keep_11 : decode cX10_keep 11 = .ok (.aload_n 0, 1) := by decide +kernel
theorem dX10_keep_12 : decode cX10_keep 12 = .ok (.getfield 25, 3) := by decide +kernel
theorem dX10_keep_15 : decode cX10_keep 15 = .ok (.bipush 46, 2) := by decide +kernel
theorem dX10_keep_17 : decode cX10_keep 17 = .ok (.iload_n 1, 1) := by decide +kernel
theorem dX10_keep_18 : decode cX10_keep 18 = .ok (.imul, 1) := by decide +kernel
theorem dX10_keep_19 : decode cX10_keep 19 = .ok (.aload_n 0, 1) := by decide +kernel
theorem dX10_keep_20 : decode cX10_keep 20 = .ok (.getfield 19, 3) := by decide +kernel
theorem dX10_keep_23 : decode cX10_keep 23 = .ok (.iconst 0, 1) := by decide +kernel
theorem dX10_keep_24 : decode cX10_keep 24 = .ok (.invokestatic 124, 3) := by decide +kernel
theorem dX10_keep_27 : decode cX10_keep 27 = .ok (.aload_n 0, 1) := by decide +kernel
theorem dX10_keep_28 : decode cX10_keep 28 = .ok (.getfield 28, 3) := by decide +kernel
theorem dX10_keep_31 : decode cX10_keep 31 = .ok (.iload_n 1, 1) := by decide +kernel
theorem dX10_keep_32 : decode cX10_keep 32 = .ok (.iconst 1, 1) := by decide +kernel
theorem dX10_keep_33 : decode cX10_keep 33 = .ok (.bastore, 1) := by decide +kernel
theorem dX10_keep_34 : decode cX10_keep 34 = .ok (.aload_n 0, 1) := by decide +kernel
theorem dX10_keep_35 : decode cX10_keep 35 = .ok (.getfield 19, 3) := by decide +kernel
theorem dX10_keep_38 : decode cX10_keep 38 = .ok (.iconst 0, 1) := by decide +kernel
theorem dX10_keep_39 : decode cX10_keep 39 = .ok (.iaload, 1) := by decide +kernel
theorem dX10_keep_40 : decode cX10_keep 40 = .ok (.ireturn, 1) := by decide +kernel
def r_X10_keep : Room := { frames := 1, cells := 0, slots := 0, locals := 24 }
def f_X10_keep (P : PH) (x0 : Nat) (x1 : Int32) : Option (Int32 × PH) :=
  ((f_X10_in P x1 (0 : Int32) (1 : Int32)).bind fun q1 => (if (b2i q1) = 0 then some ((-1 : Int32), P) else ((f_X10_copy 92 46 P (P.2.2 x0 8) ((46 : Int32) * x1) (P.2.2 x0 5) (0 : Int32)).bind fun q4 => (if (x1 < 0 ∨ 2 ≤ x1.toNatClampNeg) then none else ((some (sI q4 (q4.2.2 x0 9) x1.toNatClampNeg (1 : Int32))).bind fun P6 => (if ((0 : Int32) < 0 ∨ 46 ≤ (0 : Int32).toNatClampNeg) then none else some ((P6.1 (P6.2.2 x0 5) (0 : Int32).toNatClampNeg), P6)))))))
theorem w_X10_keep {x : Fx} {E : Ev} (S : ZS x E r_X10_keep cX10_keep 2 RX10 (some .int)) (M : ZM x E) (P : PH) (x0 : Nat) (x1 : Int32) (h_x0 : ok x0 8 0) (r : (Int32 × PH)) (hf : f_X10_keep P x0 x1 = some r) : Wz x E 2 (QI E x r.1 r.2) P 0 [(0, .ref (ad E x0)), (1, .int x1)] [] := by
  unfold f_X10_keep at hf
  refine z_iload_n S 1 dX10_keep_0 rfl rfl ?_
  refine z_iconst (v := 0) S dX10_keep_1 (by decide) ?_
  refine z_iconst (v := 1) S dX10_keep_2 (by decide) ?_
  refine z_callSI (rc := r_X10_in) [.int x1, .int (0 : Int32), .int (1 : Int32)] S mo_X10_in wd758 wd757 rfl rfl (by decide) (z_room0 S M (by rfl) (by rfl)) rfl (Nat.le_of_ble_eq_true rfl) rfl dX10_keep_3 (fun q => b2i q) (fun _ => P) (fun q hq => m_X10_in (xl x) E _ _ _ _  q hq) hf (fun q1 hf => ?_)
  refine z_if_ne (tgt := 11) S dX10_keep_6 (by decide) hf (fun hf => ?_) (fun hf => ?_)
  · refine z_iconst (v := (-1 : Int32)) S dX10_keep_9 (by decide) ?_
    exact z_iretI (v := (-1 : Int32)) S M rfl dX10_keep_10 hf
  · refine z_aload_n S 0 dX10_keep_11 rfl rfl ?_
    refine z_getR (K' := 9) (n' := 92) S cf_8 h_x0 8 (by decide) rfl rfl rfl wd675 dX10_keep_12 (fun h2 => ?_)
    refine z_bipush (v := 46) S dX10_keep_15 (by decide) ?_
    refine z_iload_n S 1 dX10_keep_17 rfl rfl ?_
    refine z_imul S dX10_keep_18 ?_
    refine z_aload_n S 0 dX10_keep_19 rfl rfl ?_
    refine z_getR (K' := 9) (n' := 46) S cf_8 h_x0 5 (by decide) rfl rfl rfl wd672 dX10_keep_20 (fun h3 => ?_)
    refine z_iconst (v := 0) S dX10_keep_23 (by decide) ?_
    refine z_callSV (rc := r_X10_copy) [.ref (ad E (P.2.2 x0 8)), .int ((46 : Int32) * x1), .ref (ad E (P.2.2 x0 5)), .int (0 : Int32)] S mo_X10_copy wd807 wd806 rfl rfl (by decide) (z_room0 S M (by rfl) (by rfl)) rfl (Nat.le_of_ble_eq_true rfl) rfl dX10_keep_24  (fun q => q) (fun q hq => m_X10_copy (xl x) E _ _ _ _ _ _ _ h2 h3 q hq) hf (fun q4 hf => ?_)
    refine z_aload_n S 0 dX10_keep_27 rfl rfl ?_
    refine z_getR (K' := 10) (n' := 2) S cf_8 h_x0 9 (by decide) rfl rfl rfl wd676 dX10_keep_28 (fun h5 => ?_)
    refine z_iload_n S 1 dX10_keep_31 rfl rfl ?_
    refine z_iconst (v := 1) S dX10_keep_32 (by decide) ?_
    refine z_bast S h5 (by decide) dX10_keep_33 hf (fun hf => ?_)
    refine z_nmP hf (fun P6 hf => ?_)
    refine z_aload_n S 0 dX10_keep_34 rfl rfl ?_
    refine z_getR (K' := 9) (n' := 46) S cf_8 h_x0 5 (by decide) rfl rfl rfl wd672 dX10_keep_35 (fun h7 => ?_)
    refine z_iconst (v := 0) S dX10_keep_38 (by decide) ?_
    refine z_iald S h7 dX10_keep_39 hf (fun hf => ?_)
    exact z_iretI (v := (P6.1 (P6.2.2 x0 5) (0 : Int32).toNatClampNeg)) S M rfl dX10_keep_40 hf
theorem m_X10_keep (l : Launch) (E : Ev) (P : PH) (x0 : Nat) (x1 : Int32) (h_x0 : ok x0 8 0) (r : (Int32 × PH)) (hf : f_X10_keep P x0 x1 = some r) : CtI l E yX10_keep cX10_keep 2 (some .int) r_X10_keep [.ref (ad E x0), .int x1] P r.1 r.2 :=
  z_body (own := RX10) (by decide +kernel) rfl (Nat.le_of_ble_eq_true rfl) rfl (fun x _ S M => w_X10_keep S M P x0 x1 h_x0 r hf)
-- yX10_back
theorem dX10_back_0 : decode cX10_back 0 = .ok (.iload_n 1, 1) := by decide +kernel
theorem dX10_back_1 : decode cX10_back 1 = .ok (.iconst 0, 1) := by decide +kernel
theorem dX10_back_2 : decode cX10_back 2 = .ok (.iconst 1, 1) := by decide +kernel
theorem dX10_back_3 : decode cX10_back 3 = .ok (.invokestatic 57, 3) := by decide +kernel
theorem dX10_back_6 : decode cX10_back 6 = .ok (.ifCond .ne 5, 3) := by decide +kernel
theorem dX10_back_9 : decode cX10_back 9 = .ok (.iconst (-1), 1) := by decide +kernel
theorem dX10_back_10 : decode cX10_back 10 = .ok (.ireturn, 1) := by decide +kernel
theorem dX10_back_11 : decode cX10_back 11 = .ok (.aload_n 0, 1) := by decide +kernel
theorem dX10_back_12 : decode cX10_back 12 = .ok (.getfield 28, 3) := by decide +kernel
theorem dX10_back_15 : decode cX10_back 15 = .ok (.iload_n 1, 1) := by decide +kernel
theorem dX10_back_16 : decode cX10_back 16 = .ok (.baload, 1) := by decide +kernel
theorem dX10_back_17 : decode cX10_back 17 = .ok (.ifCond .ne 6, 3) := by decide +kernel
theorem dX10_back_20 : decode cX10_back 20 = .ok (.bipush (-2), 2) := by decide +kernel
theorem dX10_back_22 : decode cX10_back 22 = .ok (.ireturn, 1) := by decide +kernel
theorem dX10_back_23 : decode cX10_back 23 = .ok (.aload_n 0, 1) := by decide +kernel
theorem dX10_back_24 : decode cX10_back 24 = .ok (.getfield 19, 3) := by decide +kernel
theorem dX10_back_27 : decode cX10_back 27 = .ok (.iconst 0, 1) := by decide +kernel
theorem dX10_back_28 : decode cX10_back 28 = .ok (.aload_n 0, 1) := by decide +kernel
theorem dX10_back_29 : decode cX10_back 29 = .ok (.getfield 25, 3) := by decide +kernel
theorem dX10_back_32 : decode cX10_back 32 = .ok (.bipush 46, 2) := by decide +kernel
theorem dX10_back_34 : decode cX10_back 34 = .ok (.iload_n 1, 1) := by decide +kernel
theorem dX10_back_35 : decode cX10_back 35 = .ok (.imul, 1) := by decide +kernel
theorem dX10_back_36 : decode cX10_back 36 = .ok (.invokestatic 124, 3) := by decide +kernel
theorem dX10_back_39 : decode cX10_back 39 = .ok (.aload_n 0, 1) := by decide +kernel
theorem dX10_back_40 : decode cX10_back 40 = .ok (.iconst 0, 1) := by decide +kernel
theorem dX10_back_41 : decode cX10_back 41 = .ok (.putfield 128, 3) := by decide +kernel
theorem dX10_back_44 : decode cX10_back 44 = .ok (.aload_n 0, 1) := by decide +kernel
theorem dX10_back_45 : decode cX10_back 45 = .ok (.getfield 19, 3) := by decide +kernel
theorem dX10_back_48 : decode cX10_back 48 = .ok (.iconst 0, 1) := by decide +kernel
theorem dX10_back_49 : decode cX10_back 49 = .ok (.iaload, 1) := by decide +kernel
theorem dX10_back_50 : decode cX10_back 50 = .ok (.ireturn, 1) := by decide +kernel
def r_X10_back : Room := { frames := 1, cells := 0, slots := 0, locals := 24 }
def f_X10_back (P : PH) (x0 : Nat) (x1 : Int32) : Option (Int32 × PH) :=
  ((f_X10_in P x1 (0 : Int32) (1 : Int32)).bind fun q1 => (if (b2i q1) = 0 then some ((-1 : Int32), P) else (if (x1 < 0 ∨ 2 ≤ x1.toNatClampNeg) then none else (if (P.1 (P.2.2 x0 9) x1.toNatClampNeg) = 0 then some ((-2 : Int32), P) else ((f_X10_copy 46 92 P (P.2.2 x0 5) (0 : Int32) (P.2.2 x0 8) ((46 : Int32) * x1)).bind fun q5 => (if ((0 : Int32) < 0 ∨ 46 ≤ (0 : Int32).toNatClampNeg) then none else some (((sI q5 x0 7 (0 : Int32)).1 ((sI q5 x0 7 (0 : Int32)).2.2 x0 5) (0 : Int32).toNatClampNeg), (sI q5 x0 7 (0 : Int32)))))))))
theorem w_X10_back {x : Fx} {E : Ev} (S : ZS x E r_X10_back cX10_back 2 RX10 (some .int)) (M : ZM x E) (P : PH) (x0 : Nat) (x1 : Int32) (h_x0 : ok x0 8 0) (r : (Int32 × PH)) (hf : f_X10_back P x0 x1 = some r) : Wz x E 2 (QI E x r.1 r.2) P 0 [(0, .ref (ad E x0)), (1, .int x1)] [] := by
  unfold f_X10_back at hf
  refine z_iload_n S 1 dX10_back_0 rfl rfl ?_
  refine z_iconst (v := 0) S dX10_back_1 (by decide) ?_
  refine z_iconst (v := 1) S dX10_back_2 (by decide) ?_
  refine z_callSI (rc := r_X10_in) [.int x1, .int (0 : Int32), .int (1 : Int32)] S mo_X10_in wd758 wd757 rfl rfl (by decide) (z_room0 S M (by rfl) (by rfl)) rfl (Nat.le_of_ble_eq_true rfl) rfl dX10_back_3 (fun q => b2i q) (fun _ => P) (fun q hq => m_X10_in (xl x) E _ _ _ _  q hq) hf (fun q1 hf => ?_)
  refine z_if_ne (tgt := 11) S dX10_back_6 (by decide) hf (fun hf => ?_) (fun hf => ?_)
  · refine z_iconst (v := (-1 : Int32)) S dX10_back_9 (by decide) ?_
    exact z_iretI (v := (-1 : Int32)) S M rfl dX10_back_10 hf
  · refine z_aload_n S 0 dX10_back_11 rfl rfl ?_
    refine z_getR (K' := 10) (n' := 2) S cf_8 h_x0 9 (by decide) rfl rfl rfl wd676 dX10_back_12 (fun h2 => ?_)
    refine z_iload_n S 1 dX10_back_15 rfl rfl ?_
    refine z_bald S h2 dX10_back_16 hf (fun hf => ?_)
    refine z_if_ne (tgt := 23) S dX10_back_17 (by decide) hf (fun hf => ?_) (fun hf => ?_)
    · refine z_bipush (v := (-2 : Int32)) S dX10_back_20 (by decide) ?_
      exact z_iretI (v := (-2 : Int32)) S M rfl dX10_back_22 hf
    · refine z_aload_n S 0 dX10_back_23 rfl rfl ?_
      refine z_getR (K' := 9) (n' := 46) S cf_8 h_x0 5 (by decide) rfl rfl rfl wd672 dX10_back_24 (fun h3 => ?_)
      refine z_iconst (v := 0) S dX10_back_27 (by decide) ?_
      refine z_aload_n S 0 dX10_back_28 rfl rfl ?_
      refine z_getR (K' := 9) (n' := 92) S cf_8 h_x0 8 (by decide) rfl rfl rfl wd675 dX10_back_29 (fun h4 => ?_)
      refine z_bipush (v := 46) S dX10_back_32 (by decide) ?_
      refine z_iload_n S 1 dX10_back_34 rfl rfl ?_
      refine z_imul S dX10_back_35 ?_
      refine z_callSV (rc := r_X10_copy) [.ref (ad E (P.2.2 x0 5)), .int (0 : Int32), .ref (ad E (P.2.2 x0 8)), .int ((46 : Int32) * x1)] S mo_X10_copy wd807 wd806 rfl rfl (by decide) (z_room0 S M (by rfl) (by rfl)) rfl (Nat.le_of_ble_eq_true rfl) rfl dX10_back_36  (fun q => q) (fun q hq => m_X10_copy (xl x) E _ _ _ _ _ _ _ h3 h4 q hq) hf (fun q5 hf => ?_)
      refine z_aload_n S 0 dX10_back_39 rfl rfl ?_
      refine z_iconst (v := 0) S dX10_back_40 (by decide) ?_
      refine z_putI S cf_8 h_x0 7 (by decide) rfl rfl rfl rfl wd674 dX10_back_41 ?_
      refine z_aload_n S 0 dX10_back_44 rfl rfl ?_
      refine z_getR (K' := 9) (n' := 46) S cf_8 h_x0 5 (by decide) rfl rfl rfl wd672 dX10_back_45 (fun h6 => ?_)
      refine z_iconst (v := 0) S dX10_back_48 (by decide) ?_
      refine z_iald S h6 dX10_back_49 hf (fun hf => ?_)
      exact z_iretI (v := ((sI q5 x0 7 (0 : Int32)).1 ((sI q5 x0 7 (0 : Int32)).2.2 x0 5) (0 : Int32).toNatClampNeg)) S M rfl dX10_back_50 hf
theorem m_X10_back (l : Launch) (E : Ev) (P : PH) (x0 : Nat) (x1 : Int32) (h_x0 : ok x0 8 0) (r : (Int32 × PH)) (hf : f_X10_back P x0 x1 = some r) : CtI l E yX10_back cX10_back 2 (some .int) r_X10_back [.ref (ad E x0), .int x1] P r.1 r.2 :=
  z_body (own := RX10) (by decide +kernel) rfl (Nat.le_of_ble_eq_true rfl) rfl (fun x _ S M => w_X10_back S M P x0 x1 h_x0 r hf)
-- yX10_count
theorem dX10_count_0 : decode cX10_count 0 = .ok (.iload_n 1, 1) := by decide +kernel
theorem dX10_count_1 : decode cX10_count 1 = .ok (.tableswitch 51 0 3 #[31, 36, 41, 46], 31) := by decide +kernel
theorem dX10_count_32 : decode cX10_count 32 = .ok (.aload_n 0, 1) := by decide +kernel
theorem dX10_count_33 : decode cX10_count 33 = .ok (.getfield 53, 3) := by decide +kernel
theorem dX10_count_36 : decode cX10_count 36 = .ok (.ireturn, 1) := by decide +kernel
theorem dX10_count_37 : decode cX10_count 37 = .ok (.aload_n 0, 1) := by decide +kernel
theorem dX10_count_38 : decode cX10_count 38 = .ok (.getfield 61, 3) := by decide +kernel
theorem dX10_count_41 : decode cX10_count 41 = .ok (.ireturn, 1) := by decide +kernel
theorem dX10_count_42 : decode cX10_count 42 = .ok (.aload_n 0, 1) := by decide +kernel
theorem dX10_count_43 : decode cX10_count 43 = .ok (.getfield 131, 3) := by decide +kernel
theorem dX10_count_46 : decode cX10_count 46 = .ok (.ireturn, 1) := by decide +kernel
theorem dX10_count_47 : decode cX10_count 47 = .ok (.aload_n 0, 1) := by decide +kernel
theorem dX10_count_48 : decode cX10_count 48 = .ok (.getfield 64, 3) := by decide +kernel
theorem dX10_count_51 : decode cX10_count 51 = .ok (.ireturn, 1) := by decide +kernel
theorem dX10_count_52 : decode cX10_count 52 = .ok (.iconst (-1), 1) := by decide +kernel
theorem dX10_count_53 : decode cX10_count 53 = .ok (.ireturn, 1) := by decide +kernel
def r_X10_count : Room := { frames := 0, cells := 0, slots := 0, locals := 0 }
def f_X10_count (P : PH) (x0 : Nat) (x1 : Int32) : Option Int32 :=
  (if x1 = (0 : Int32) then some (P.1 x0 0) else (if x1 = (1 : Int32) then some (P.1 x0 1) else (if x1 = (2 : Int32) then some (P.1 x0 10) else (if x1 = (3 : Int32) then some (P.1 x0 14) else some (-1 : Int32)))))
theorem w_X10_count {x : Fx} {E : Ev} (S : ZS x E r_X10_count cX10_count 2 RX10 (some .int)) (M : ZM x E) (P : PH) (x0 : Nat) (x1 : Int32) (h_x0 : ok x0 8 0) (r : Int32) (hf : f_X10_count P x0 x1 = some r) : Wz x E 2 (QI E x r P) P 0 [(0, .ref (ad E x0)), (1, .int x1)] [] := by
  unfold f_X10_count at hf
  refine z_iload_n S 1 dX10_count_0 rfl rfl ?_
  refine z_tif hf (fun h1 hf => ?_) (fun h1 hf => ?_)
  · refine z_tabIn (tgt := 32) S 0 dX10_count_1 (by rw [h1]; rfl) (by decide) rfl (by decide) ?_
    refine z_aload_n S 0 dX10_count_32 rfl rfl ?_
    refine z_getI S cf_8 h_x0 0 (by decide) rfl wd667 dX10_count_33 ?_
    exact z_iretP (v := (P.1 x0 0)) S M rfl dX10_count_36 hf
  refine z_tif hf (fun h2 hf => ?_) (fun h2 hf => ?_)
  · refine z_tabIn (tgt := 37) S 1 dX10_count_1 (by rw [h2]; rfl) (by decide) rfl (by decide) ?_
    refine z_aload_n S 0 dX10_count_37 rfl rfl ?_
    refine z_getI S cf_8 h_x0 1 (by decide) rfl wd668 dX10_count_38 ?_
    exact z_iretP (v := (P.1 x0 1)) S M rfl dX10_count_41 hf
  refine z_tif hf (fun h3 hf => ?_) (fun h3 hf => ?_)
  · refine z_tabIn (tgt := 42) S 2 dX10_count_1 (by rw [h3]; rfl) (by decide) rfl (by decide) ?_
    refine z_aload_n S 0 dX10_count_42 rfl rfl ?_
    refine z_getI S cf_8 h_x0 10 (by decide) rfl wd677 dX10_count_43 ?_
    exact z_iretP (v := (P.1 x0 10)) S M rfl dX10_count_46 hf
  refine z_tif hf (fun h4 hf => ?_) (fun h4 hf => ?_)
  · refine z_tabIn (tgt := 47) S 3 dX10_count_1 (by rw [h4]; rfl) (by decide) rfl (by decide) ?_
    refine z_aload_n S 0 dX10_count_47 rfl rfl ?_
    refine z_getI S cf_8 h_x0 14 (by decide) rfl wd681 dX10_count_48 ?_
    exact z_iretP (v := (P.1 x0 14)) S M rfl dX10_count_51 hf
  refine z_tabOut (tgt := 52) S dX10_count_1 (by have e0 := lv_neT h1 (a := 0) rfl; have e1 := lv_neT h2 (a := 1) rfl; have e2 := lv_neT h3 (a := 2) rfl; have e3 := lv_neT h4 (a := 3) rfl; omega) (by decide) ?_
  refine z_iconst (v := (-1 : Int32)) S dX10_count_52 (by decide) ?_
  exact z_iretP (v := (-1 : Int32)) S M rfl dX10_count_53 hf
theorem m_X10_count (l : Launch) (E : Ev) (P : PH) (x0 : Nat) (x1 : Int32) (h_x0 : ok x0 8 0) (r : Int32) (hf : f_X10_count P x0 x1 = some r) : CtI l E yX10_count cX10_count 2 (some .int) r_X10_count [.ref (ad E x0), .int x1] P r P :=
  z_body (own := RX10) (by decide +kernel) rfl (Nat.le_of_ble_eq_true rfl) rfl (fun x _ S M => w_X10_count S M P x0 x1 h_x0 r hf)
-- yX10_trace
theorem dX10_trace_0 : decode cX10_trace 0 = .ok (.aload_n 0, 1) := by decide +kernel
theorem dX10_trace_1 : decode cX10_trace 1 = .ok (.getfield 193, 3) := by decide +kernel
theorem dX10_trace_4 : decode cX10_trace 4 = .ok (.lreturn, 1) := by decide +kernel
def r_X10_trace : Room := { frames := 0, cells := 0, slots := 0, locals := 0 }
def f_X10_trace (P : PH) (x0 : Nat) : Option Int64 :=
  some (P.2.1 x0)
theorem w_X10_trace {x : Fx} {E : Ev} (S : ZS x E r_X10_trace cX10_trace 1 RX10 (some .long)) (M : ZM x E) (P : PH) (x0 : Nat) (h_x0 : ok x0 8 0) (r : Int64) (hf : f_X10_trace P x0 = some r) : Wz x E 1 (QL E x r P) P 0 [(0, .ref (ad E x0))] [] := by
  unfold f_X10_trace at hf
  refine z_aload_n S 0 dX10_trace_0 rfl rfl ?_
  refine z_getL S cf_8 h_x0 12 (by decide) rfl wd679 dX10_trace_1 ?_
  exact z_lretP (v := (P.2.1 x0)) S M rfl dX10_trace_4 hf
theorem m_X10_trace (l : Launch) (E : Ev) (P : PH) (x0 : Nat) (h_x0 : ok x0 8 0) (r : Int64) (hf : f_X10_trace P x0 = some r) : CtL l E yX10_trace cX10_trace 1 (some .long) r_X10_trace [.ref (ad E x0)] P r P :=
  z_body (own := RX10) (by decide +kernel) rfl (Nat.le_of_ble_eq_true rfl) rfl (fun x _ S M => w_X10_trace S M P x0 h_x0 r hf)
