-- yX9_type
theorem dX9_type_0 : decode cX9_type 0 = .ok (.iload_n 1, 1) := by decide +kernel
theorem dX9_type_1 : decode cX9_type 1 = .ok (.ifCond .lt 10, 3) := by decide +kernel
theorem dX9_type_4 : decode cX9_type 4 = .ok (.iload_n 1, 1) := by decide +kernel
theorem dX9_type_5 : decode cX9_type 5 = .ok (.sipush 255, 3) := by decide +kernel
theorem dX9_type_8 : decode cX9_type 8 = .ok (.if_icmp .le 5, 3) := by decide +kernel
theorem dX9_type_11 : decode cX9_type 11 = .ok (.iconst (-1), 1) := by decide +kernel
theorem dX9_type_12 : decode cX9_type 12 = .ok (.ireturn, 1) := by decide +kernel
theorem dX9_type_13 : decode cX9_type 13 = .ok (.aload_n 0, 1) := by decide +kernel
theorem dX9_type_14 : decode cX9_type 14 = .ok (.getfield 10, 3) := by decide +kernel
theorem dX9_type_17 : decode cX9_type 17 = .ok (.getfield 54, 3) := by decide +kernel
theorem dX9_type_20 : decode cX9_type 20 = .ok (.iload_n 1, 1) := by decide +kernel
theorem dX9_type_21 : decode cX9_type 21 = .ok (.invokevirtual 58, 3) := by decide +kernel
theorem dX9_type_24 : decode cX9_type 24 = .ok (.ifCond .eq 16, 3) := by decide +kernel
theorem dX9_type_27 : decode cX9_type 27 = .ok (.aload_n 0, 1) := by decide +kernel
theorem dX9_type_28 : decode cX9_type 28 = .ok (.getfield 10, 3) := by decide +kernel
theorem dX9_type_31 : decode cX9_type 31 = .ok (.getfield 54, 3) := by decide +kernel
theorem dX9_type_34 : decode cX9_type 34 = .ok (.getfield 64, 3) := by decide +kernel
theorem dX9_type_37 : decode cX9_type 37 = .ok (.goto 5, 3) := by decide +kernel
theorem dX9_type_40 : decode cX9_type 40 = .ok (.bipush (-3), 2) := by decide +kernel
theorem dX9_type_42 : decode cX9_type 42 = .ok (.ireturn, 1) := by decide +kernel
def r_X9_type : Room := { frames := 1, cells := 0, slots := 0, locals := 21 }
def f_X9_type (P : PH) (x0 : Nat) (x1 : Int32) : Option (Int32 × PH) :=
  (if x1 < 0 then some ((-1 : Int32), P) else (if x1 ≤ (255 : Int32) then ((f_X8_add P (P.2.2 (P.2.2 x0 0) 0) x1).bind fun q3 => (if (b2i q3.1) = 0 then some ((-3 : Int32), q3.2) else some ((q3.2.1 (q3.2.2.2 (q3.2.2.2 x0 0) 0) 1), q3.2))) else some ((-1 : Int32), P)))
theorem w_X9_type {x : Fx} {E : Ev} (S : ZS x E r_X9_type cX9_type 2 RX9 (some .int)) (M : ZM x E) (P : PH) (x0 : Nat) (x1 : Int32) (h_x0 : ok x0 7 0) (r : (Int32 × PH)) (hf : f_X9_type P x0 x1 = some r) : Wz x E 2 (QI E x r.1 r.2) P 0 [(0, .ref (ad E x0)), (1, .int x1)] [] := by
  unfold f_X9_type at hf
  refine z_iload_n S 1 dX9_type_0 rfl rfl ?_
  refine z_if_lt (tgt := 11) S dX9_type_1 (by decide) hf (fun hf => ?_) (fun hf => ?_)
  · refine z_iconst (v := (-1 : Int32)) S dX9_type_11 (by decide) ?_
    exact z_iretI (v := (-1 : Int32)) S M rfl dX9_type_12 hf
  · refine z_iload_n S 1 dX9_type_4 rfl rfl ?_
    refine z_sipush (v := 255) S dX9_type_5 (by decide) ?_
    refine z_icmp_le (tgt := 13) S dX9_type_8 (by decide) hf (fun hf => ?_) (fun hf => ?_)
    · refine z_aload_n S 0 dX9_type_13 rfl rfl ?_
      refine z_getR (K' := 4) (n' := 0) S cf_7 h_x0 0 (by decide) rfl rfl rfl wd251 dX9_type_14 (fun h1 => ?_)
      refine z_getR (K' := 6) (n' := 0) S cf_4 h1 0 (by decide) rfl rfl rfl wd92 dX9_type_17 (fun h2 => ?_)
      refine z_iload_n S 1 dX9_type_20 rfl rfl ?_
      refine z_callVI (rc := r_X8_add) [.int x1] S mo_X8_add wd281 wd282 wd280 h2 (by decide) cl_6 rfl rfl (by decide) (z_room0 S M (by rfl) (by rfl)) rfl (Nat.le_of_ble_eq_true rfl) rfl dX9_type_21 (fun q => b2i q.1) (fun q => q.2) (fun q hq => m_X8_add (xl x) E _ _ _ h2 q hq) hf (fun q3 hf => ?_)
      refine z_if_eq (tgt := 40) S dX9_type_24 (by decide) hf (fun hf => ?_) (fun hf => ?_)
      · refine z_bipush (v := (-3 : Int32)) S dX9_type_40 (by decide) ?_
        exact z_iretI (v := (-3 : Int32)) S M rfl dX9_type_42 hf
      · refine z_aload_n S 0 dX9_type_27 rfl rfl ?_
        refine z_getR (K' := 4) (n' := 0) S cf_7 h_x0 0 (by decide) rfl rfl rfl wd251 dX9_type_28 (fun h4 => ?_)
        refine z_getR (K' := 6) (n' := 0) S cf_4 h4 0 (by decide) rfl rfl rfl wd92 dX9_type_31 (fun h5 => ?_)
        refine z_getI S cf_6 h5 1 (by decide) rfl wd69 dX9_type_34 ?_
        refine z_goto (tgt := 42) S dX9_type_37 (by decide) ?_
        exact z_iretI (v := (q3.2.1 (q3.2.2.2 (q3.2.2.2 x0 0) 0) 1)) S M rfl dX9_type_42 hf
    · refine z_iconst (v := (-1 : Int32)) S dX9_type_11 (by decide) ?_
      exact z_iretI (v := (-1 : Int32)) S M rfl dX9_type_12 hf
theorem m_X9_type (l : Launch) (E : Ev) (P : PH) (x0 : Nat) (x1 : Int32) (h_x0 : ok x0 7 0) (r : (Int32 × PH)) (hf : f_X9_type P x0 x1 = some r) : CtI l E yX9_type cX9_type 2 (some .int) r_X9_type [.ref (ad E x0), .int x1] P r.1 r.2 :=
  z_body (own := RX9) (by decide +kernel) rfl (Nat.le_of_ble_eq_true rfl) rfl (fun x _ S M => w_X9_type S M P x0 x1 h_x0 r hf)
-- yX9_clear
theorem dX9_clear_0 : decode cX9_clear 0 = .ok (.aload_n 0, 1) := by decide +kernel
theorem dX9_clear_1 : decode cX9_clear 1 = .ok (.getfield 10, 3) := by decide +kernel
theorem dX9_clear_4 : decode cX9_clear 4 = .ok (.getfield 54, 3) := by decide +kernel
theorem dX9_clear_7 : decode cX9_clear 7 = .ok (.getfield 64, 3) := by decide +kernel
theorem dX9_clear_10 : decode cX9_clear 10 = .ok (.istore_n 1, 1) := by decide +kernel
theorem dX9_clear_11 : decode cX9_clear 11 = .ok (.aload_n 0, 1) := by decide +kernel
theorem dX9_clear_12 : decode cX9_clear 12 = .ok (.getfield 10, 3) := by decide +kernel
theorem dX9_clear_15 : decode cX9_clear 15 = .ok (.getfield 54, 3) := by decide +kernel
theorem dX9_clear_18 : decode cX9_clear 18 = .ok (.iconst 0, 1) := by decide +kernel
theorem dX9_clear_19 : decode cX9_clear 19 = .ok (.putfield 64, 3) := by decide +kernel
theorem dX9_clear_22 : decode cX9_clear 22 = .ok (.iload_n 1, 1) := by decide +kernel
theorem dX9_clear_23 : decode cX9_clear 23 = .ok (.ireturn, 1) := by decide +kernel
def r_X9_clear : Room := { frames := 0, cells := 0, slots := 0, locals := 0 }
def f_X9_clear (P : PH) (x0 : Nat) : Option (Int32 × PH) :=
  ((some (sI P (P.2.2 (P.2.2 x0 0) 0) 1 (0 : Int32))).bind fun P5 => some ((P.1 (P.2.2 (P.2.2 x0 0) 0) 1), P5))
theorem w_X9_clear {x : Fx} {E : Ev} (S : ZS x E r_X9_clear cX9_clear 2 RX9 (some .int)) (M : ZM x E) (P : PH) (x0 : Nat) (h_x0 : ok x0 7 0) (r : (Int32 × PH)) (hf : f_X9_clear P x0 = some r) : Wz x E 2 (QI E x r.1 r.2) P 0 [(0, .ref (ad E x0))] [] := by
  unfold f_X9_clear at hf
  refine z_aload_n S 0 dX9_clear_0 rfl rfl ?_
  refine z_getR (K' := 4) (n' := 0) S cf_7 h_x0 0 (by decide) rfl rfl rfl wd251 dX9_clear_1 (fun h1 => ?_)
  refine z_getR (K' := 6) (n' := 0) S cf_4 h1 0 (by decide) rfl rfl rfl wd92 dX9_clear_4 (fun h2 => ?_)
  refine z_getI S cf_6 h2 1 (by decide) rfl wd69 dX9_clear_7 ?_
  refine z_istore_n (lv' := [(1, .int (P.1 (P.2.2 (P.2.2 x0 0) 0) 1)), (0, .ref (ad E x0))]) S dX9_clear_10 rfl (by decide) rfl ?_
  refine z_aload_n S 1 dX9_clear_11 rfl rfl ?_
  refine z_getR (K' := 4) (n' := 0) S cf_7 h_x0 0 (by decide) rfl rfl rfl wd251 dX9_clear_12 (fun h3 => ?_)
  refine z_getR (K' := 6) (n' := 0) S cf_4 h3 0 (by decide) rfl rfl rfl wd92 dX9_clear_15 (fun h4 => ?_)
  refine z_iconst (v := 0) S dX9_clear_18 (by decide) ?_
  refine z_putI S cf_6 h4 1 (by decide) rfl rfl rfl rfl wd69 dX9_clear_19 ?_
  refine z_nmP hf (fun P5 hf => ?_)
  refine z_iload_n S 0 dX9_clear_22 rfl rfl ?_
  exact z_iretI (v := (P.1 (P.2.2 (P.2.2 x0 0) 0) 1)) S M rfl dX9_clear_23 hf
theorem m_X9_clear (l : Launch) (E : Ev) (P : PH) (x0 : Nat) (h_x0 : ok x0 7 0) (r : (Int32 × PH)) (hf : f_X9_clear P x0 = some r) : CtI l E yX9_clear cX9_clear 2 (some .int) r_X9_clear [.ref (ad E x0)] P r.1 r.2 :=
  z_body (own := RX9) (by decide +kernel) rfl (Nat.le_of_ble_eq_true rfl) rfl (fun x _ S M => w_X9_clear S M P x0 h_x0 r hf)
-- yX9_house
theorem dX9_house_0 : decode cX9_house 0 = .ok (.aload_n 0, 1) := by decide +kernel
theorem dX9_house_1 : decode cX9_house 1 = .ok (.getfield 10, 3) := by decide +kernel
theorem dX9_house_4 : decode cX9_house 4 = .ok (.aload_n 0, 1) := by decide +kernel
theorem dX9_house_5 : decode cX9_house 5 = .ok (.getfield 50, 3) := by decide +kernel
theorem dX9_house_8 : decode cX9_house 8 = .ok (.invokevirtual 68, 3) := by decide +kernel
theorem dX9_house_11 : decode cX9_house 11 = .ok (.istore_n 1, 1) := by decide +kernel
theorem dX9_house_12 : decode cX9_house 12 = .ok (.iload_n 1, 1) := by decide +kernel
theorem dX9_house_13 : decode cX9_house 13 = .ok (.ifCond .ge 5, 3) := by decide +kernel
theorem dX9_house_16 : decode cX9_house 16 = .ok (.iload_n 1, 1) := by decide +kernel
theorem dX9_house_17 : decode cX9_house 17 = .ok (.ireturn, 1) := by decide +kernel
theorem dX9_house_18 : decode cX9_house 18 = .ok (.aload_n 0, 1) := by decide +kernel
theorem dX9_house_19 : decode cX9_house 19 = .ok (.getfield 46, 3) := by decide +kernel
theorem dX9_house_22 : decode cX9_house 22 = .ok (.astore_n 2, 1) := by decide +kernel
theorem dX9_house_23 : decode cX9_house 23 = .ok (.aload_n 0, 1) := by decide +kernel
theorem dX9_house_24 : decode cX9_house 24 = .ok (.aload_n 0, 1) := by decide +kernel
theorem dX9_house_25 : decode cX9_house 25 = .ok (.getfield 50, 3) := by decide +kernel
theorem dX9_house_28 : decode cX9_house 28 = .ok (.putfield 46, 3) := by decide +kernel
theorem dX9_house_31 : decode cX9_house 31 = .ok (.aload_n 0, 1) := by decide +kernel
theorem dX9_house_32 : decode cX9_house 32 = .ok (.aload_n 2, 1) := by decide +kernel
theorem dX9_house_33 : decode cX9_house 33 = .ok (.putfield 50, 3) := by decide +kernel
theorem dX9_house_36 : decode cX9_house 36 = .ok (.aload_n 0, 1) := by decide +kernel
theorem dX9_house_37 : decode cX9_house 37 = .ok (.getfield 10, 3) := by decide +kernel
theorem dX9_house_40 : decode cX9_house 40 = .ok (.getfield 54, 3) := by decide +kernel
theorem dX9_house_43 : decode cX9_house 43 = .ok (.iconst 0, 1) := by decide +kernel
theorem dX9_house_44 : decode cX9_house 44 = .ok (.putfield 64, 3) := by decide +kernel
theorem dX9_house_47 : decode cX9_house 47 = .ok (.aload_n 0, 1) := by decide +kernel
theorem dX9_house_48 : decode cX9_house 48 = .ok (.getfield 26, 3) := by decide +kernel
theorem dX9_house_51 : decode cX9_house 51 = .ok (.iconst 0, 1) := by decide +kernel
theorem dX9_house_52 : decode cX9_house 52 = .ok (.putfield 72, 3) := by decide +kernel
theorem dX9_house_55 : decode cX9_house 55 = .ok (.aload_n 0, 1) := by decide +kernel
theorem dX9_house_56 : decode cX9_house 56 = .ok (.getfield 19, 3) := by decide +kernel
theorem dX9_house_59 : decode cX9_house 59 = .ok (.iconst 0, 1) := by decide +kernel
theorem dX9_house_60 : decode cX9_house 60 = .ok (.putfield 75, 3) := by decide +kernel
theorem dX9_house_63 : decode cX9_house 63 = .ok (.aload_n 0, 1) := by decide +kernel
theorem dX9_house_64 : decode cX9_house 64 = .ok (.iconst 0, 1) := by decide +kernel
theorem dX9_house_65 : decode cX9_house 65 = .ok (.putfield 76, 3) := by decide +kernel
theorem dX9_house_68 : decode cX9_house 68 = .ok (.iload_n 1, 1) := by decide +kernel
theorem dX9_house_69 : decode cX9_house 69 = .ok (.ireturn, 1) := by decide +kernel
def r_X9_house : Room := { frames := 5, cells := 0, slots := 0, locals := 108 }
def f_X9_house (P : PH) (x0 : Nat) : Option (Int32 × PH) :=
  ((f_X6_readInto P (P.2.2 x0 0) (P.2.2 x0 7)).bind fun q3 => (if 0 ≤ q3.1 then ((some (sR (sR q3.2 x0 6 (q3.2.2.2 x0 7)) x0 7 (q3.2.2.2 x0 6))).bind fun P6 => ((some (sI P6 (P6.2.2 (P6.2.2 x0 0) 0) 1 (0 : Int32))).bind fun P9 => ((some (sI (sI P9 (P9.2.2 x0 2) 0 (0 : Int32)) ((sI P9 (P9.2.2 x0 2) 0 (0 : Int32)).2.2 x0 1) 0 (0 : Int32))).bind fun P12 => some (q3.1, (sI P12 x0 5 (0 : Int32)))))) else some (q3.1, q3.2)))
theorem w_X9_house {x : Fx} {E : Ev} (S : ZS x E r_X9_house cX9_house 3 RX9 (some .int)) (M : ZM x E) (P : PH) (x0 : Nat) (h_x0 : ok x0 7 0) (r : (Int32 × PH)) (hf : f_X9_house P x0 = some r) : Wz x E 3 (QI E x r.1 r.2) P 0 [(0, .ref (ad E x0))] [] := by
  unfold f_X9_house at hf
  refine z_aload_n S 0 dX9_house_0 rfl rfl ?_
  refine z_getR (K' := 4) (n' := 0) S cf_7 h_x0 0 (by decide) rfl rfl rfl wd251 dX9_house_1 (fun h1 => ?_)
  refine z_aload_n S 0 dX9_house_4 rfl rfl ?_
  refine z_getR (K' := 1) (n' := 0) S cf_7 h_x0 7 (by decide) rfl rfl rfl wd258 dX9_house_5 (fun h2 => ?_)
  refine z_callVI (rc := r_X6_readInto) [.ref (ad E (P.2.2 x0 7))] S mo_X6_readInto wd293 wd294 wd292 h1 (by decide) cl_4 rfl rfl (by decide) (z_room0 S M (by rfl) (by rfl)) rfl (Nat.le_of_ble_eq_true rfl) rfl dX9_house_8 (fun q => q.1) (fun q => q.2) (fun q hq => m_X6_readInto (xl x) E _ _ _ h1 h2 q hq) hf (fun q3 hf => ?_)
  refine z_istore_n (lv' := [(1, .int q3.1), (0, .ref (ad E x0))]) S dX9_house_11 rfl (by decide) rfl ?_
  refine z_iload_n S 0 dX9_house_12 rfl rfl ?_
  refine z_if_ge (tgt := 18) S dX9_house_13 (by decide) hf (fun hf => ?_) (fun hf => ?_)
  · refine z_aload_n S 1 dX9_house_18 rfl rfl ?_
    refine z_getR (K' := 1) (n' := 0) S cf_7 h_x0 6 (by decide) rfl rfl rfl wd257 dX9_house_19 (fun h4 => ?_)
    refine z_astore_n (lv' := [(2, .ref (ad E (q3.2.2.2 x0 6))), (1, .int q3.1), (0, .ref (ad E x0))]) S dX9_house_22 rfl (by decide) rfl ?_
    refine z_aload_n S 2 dX9_house_23 rfl rfl ?_
    refine z_aload_n S 2 dX9_house_24 rfl rfl ?_
    refine z_getR (K' := 1) (n' := 0) S cf_7 h_x0 7 (by decide) rfl rfl rfl wd258 dX9_house_25 (fun h5 => ?_)
    refine z_putR S cf_7 h_x0 6 h5 (by decide) rfl rfl rfl rfl wd257 dX9_house_28 ?_
    refine z_aload_n S 2 dX9_house_31 rfl rfl ?_
    refine z_aload_n S 0 dX9_house_32 rfl rfl ?_
    refine z_putR S cf_7 h_x0 7 h4 (by decide) rfl rfl rfl rfl wd258 dX9_house_33 ?_
    refine z_nmP hf (fun P6 hf => ?_)
    refine z_aload_n S 2 dX9_house_36 rfl rfl ?_
    refine z_getR (K' := 4) (n' := 0) S cf_7 h_x0 0 (by decide) rfl rfl rfl wd251 dX9_house_37 (fun h7 => ?_)
    refine z_getR (K' := 6) (n' := 0) S cf_4 h7 0 (by decide) rfl rfl rfl wd92 dX9_house_40 (fun h8 => ?_)
    refine z_iconst (v := 0) S dX9_house_43 (by decide) ?_
    refine z_putI S cf_6 h8 1 (by decide) rfl rfl rfl rfl wd69 dX9_house_44 ?_
    refine z_nmP hf (fun P9 hf => ?_)
    refine z_aload_n S 2 dX9_house_47 rfl rfl ?_
    refine z_getR (K' := 5) (n' := 0) S cf_7 h_x0 2 (by decide) rfl rfl rfl wd253 dX9_house_48 (fun h10 => ?_)
    refine z_iconst (v := 0) S dX9_house_51 (by decide) ?_
    refine z_putI S cf_5 h10 0 (by decide) rfl rfl rfl rfl wd126 dX9_house_52 ?_
    refine z_aload_n S 2 dX9_house_55 rfl rfl ?_
    refine z_getR (K' := 0) (n' := 0) S cf_7 h_x0 1 (by decide) rfl rfl rfl wd252 dX9_house_56 (fun h11 => ?_)
    refine z_iconst (v := 0) S dX9_house_59 (by decide) ?_
    refine z_putI S cf_0 h11 0 (by decide) rfl rfl rfl rfl wd106 dX9_house_60 ?_
    refine z_nmP hf (fun P12 hf => ?_)
    refine z_aload_n S 2 dX9_house_63 rfl rfl ?_
    refine z_iconst (v := 0) S dX9_house_64 (by decide) ?_
    refine z_putI S cf_7 h_x0 5 (by decide) rfl rfl rfl rfl wd256 dX9_house_65 ?_
    refine z_iload_n S 1 dX9_house_68 rfl rfl ?_
    exact z_iretI (v := q3.1) S M rfl dX9_house_69 hf
  · refine z_iload_n S 0 dX9_house_16 rfl rfl ?_
    exact z_iretI (v := q3.1) S M rfl dX9_house_17 hf
theorem m_X9_house (l : Launch) (E : Ev) (P : PH) (x0 : Nat) (h_x0 : ok x0 7 0) (r : (Int32 × PH)) (hf : f_X9_house P x0 = some r) : CtI l E yX9_house cX9_house 3 (some .int) r_X9_house [.ref (ad E x0)] P r.1 r.2 :=
  z_body (own := RX9) (by decide +kernel) rfl (Nat.le_of_ble_eq_true rfl) rfl (fun x _ S M => w_X9_house S M P x0 h_x0 r hf)
-- yX9_person
theorem dX9_person_0 : decode cX9_person 0 = .ok (.aload_n 0, 1) := by decide +kernel
theorem dX9_person_1 : decode cX9_person 1 = .ok (.getfield 46, 3) := by decide +kernel
theorem dX9_person_4 : decode cX9_person 4 = .ok (.iload_n 1, 1) := by decide +kernel
theorem dX9_person_5 : decode cX9_person 5 = .ok (.invokevirtual 79, 3) := by decide +kernel
theorem dX9_person_8 : decode cX9_person 8 = .ok (.ifCond .ne 5, 3) := by decide +kernel
theorem dX9_person_11 : decode cX9_person 11 = .ok (.iconst (-1), 1) := by decide +kernel
theorem dX9_person_12 : decode cX9_person 12 = .ok (.ireturn, 1) := by decide +kernel
theorem dX9_person_13 : decode cX9_person 13 = .ok (.iload_n 2, 1) := by decide +kernel
theorem dX9_person_14 : decode cX9_person 14 = .ok (.tableswitch 156 0 6 #[42, 59, 72, 82, 92, 109, 147], 42) := by decide +kernel
theorem dX9_person_56 : decode cX9_person 56 = .ok (.aload_n 0, 1) := by decide +kernel
theorem dX9_person_57 : decode cX9_person 57 = .ok (.getfield 46, 3) := by decide +kernel
theorem dX9_person_60 : decode cX9_person 60 = .ok (.iload_n 1, 1) := by decide +kernel
theorem dX9_person_61 : decode cX9_person 61 = .ok (.invokevirtual 82, 3) := by decide +kernel
theorem dX9_person_64 : decode cX9_person 64 = .ok (.ifCond .eq 7, 3) := by decide +kernel
theorem dX9_person_67 : decode cX9_person 67 = .ok (.iconst 1, 1) := by decide +kernel
theorem dX9_person_68 : decode cX9_person 68 = .ok (.goto 4, 3) := by decide +kernel
theorem dX9_person_71 : decode cX9_person 71 = .ok (.iconst 0, 1) := by decide +kernel
theorem dX9_person_72 : decode cX9_person 72 = .ok (.ireturn, 1) := by decide +kernel
theorem dX9_person_73 : decode cX9_person 73 = .ok (.aload_n 0, 1) := by decide +kernel
theorem dX9_person_74 : decode cX9_person 74 = .ok (.getfield 46, 3) := by decide +kernel
theorem dX9_person_77 : decode cX9_person 77 = .ok (.getfield 85, 3) := by decide +kernel
theorem dX9_person_80 : decode cX9_person 80 = .ok (.getfield 89, 3) := by decide +kernel
theorem dX9_person_83 : decode cX9_person 83 = .ok (.iload_n 1, 1) := by decide +kernel
theorem dX9_person_84 : decode cX9_person 84 = .ok (.iaload, 1) := by decide +kernel
theorem dX9_person_85 : decode cX9_person 85 = .ok (.ireturn, 1) := by decide +kernel
theorem dX9_person_86 : decode cX9_person 86 = .ok (.aload_n 0, 1) := by decide +kernel
theorem dX9_person_87 : decode cX9_person 87 = .ok (.getfield 46, 3) := by decide +kernel
theorem dX9_person_90 : decode cX9_person 90 = .ok (.getfield 93, 3) := by decide +kernel
theorem dX9_person_93 : decode cX9_person 93 = .ok (.iload_n 1, 1) := by decide +kernel
theorem dX9_person_94 : decode cX9_person 94 = .ok (.iaload, 1) := by decide +kernel
theorem dX9_person_95 : decode cX9_person 95 = .ok (.ireturn, 1) := by decide +kernel
theorem dX9_person_96 : decode cX9_person 96 = .ok (.aload_n 0, 1) := by decide +kernel
theorem dX9_person_97 : decode cX9_person 97 = .ok (.getfield 46, 3) := by decide +kernel
theorem dX9_person_100 : decode cX9_person 100 = .ok (.getfield 96, 3) := by decide +kernel
theorem dX9_person_103 : decode cX9_person 103 = .ok (.iload_n 1, 1) := by decide +kernel
theorem dX9_person_104 : decode cX9_person 104 = .ok (.iaload, 1) := by decide +kernel
theorem dX9_person_105 : decode cX9_person 105 = .ok (.ireturn, 1) := by decide +kernel
theorem dX9_person_106 : decode cX9_person 106 = .ok (.aload_n 0, 1) := by decide +kernel
theorem dX9_person_107 : decode cX9_person 107 = .ok (.getfield 46, 3) := by decide +kernel
theorem dX9_person_110 : decode cX9_person 110 = .ok (.iload_n 1, 1) := by decide +kernel
theorem dX9_person_111 : decode cX9_person 111 = .ok (.aload_n 0, 1) := by decide +kernel
theorem dX9_person_112 : decode cX9_person 112 = .ok (.getfield 46, 3) := by decide +kernel
theorem dX9_person_115 : decode cX9_person 115 = .ok (.iload_n 1, 1) := by decide +kernel
theorem dX9_person_116 : decode cX9_person 116 = .ok (.invokevirtual 99, 3) := by decide +kernel
theorem dX9_person_119 : decode cX9_person 119 = .ok (.invokevirtual 103, 3) := by decide +kernel
theorem dX9_person_122 : decode cX9_person 122 = .ok (.ireturn, 1) := by decide +kernel
theorem dX9_person_123 : decode cX9_person 123 = .ok (.aload_n 0, 1) := by decide +kernel
theorem dX9_person_124 : decode cX9_person 124 = .ok (.getfield 46, 3) := by decide +kernel
theorem dX9_person_127 : decode cX9_person 127 = .ok (.iload_n 1, 1) := by decide +kernel
theorem dX9_person_128 : decode cX9_person 128 = .ok (.aload_n 0, 1) := by decide +kernel
theorem dX9_person_129 : decode cX9_person 129 = .ok (.getfield 46, 3) := by decide +kernel
theorem dX9_person_132 : decode cX9_person 132 = .ok (.getfield 85, 3) := by decide +kernel
theorem dX9_person_135 : decode cX9_person 135 = .ok (.getfield 107, 3) := by decide +kernel
theorem dX9_person_138 : decode cX9_person 138 = .ok (.aload_n 0, 1) := by decide +kernel
theorem dX9_person_139 : decode cX9_person 139 = .ok (.getfield 46, 3) := by decide +kernel
theorem dX9_person_142 : decode cX9_person 142 = .ok (.getfield 85, 3) := by decide +kernel
theorem dX9_person_145 : decode cX9_person 145 = .ok (.getfield 110, 3) := by decide +kernel
theorem dX9_person_148 : decode cX9_person 148 = .ok (.iconst 0, 1) := by decide +kernel
theorem dX9_person_149 : decode cX9_person 149 = .ok (.invokevirtual 113, 3) := by decide +kernel
theorem dX9_person_152 : decode cX9_person 152 = .ok (.ifCond .eq 7, 3) := by decide +kernel
theorem dX9_person_155 : decode cX9_person 155 = .ok (.iconst 1, 1) := by decide +kernel
theorem dX9_person_156 : decode cX9_person 156 = .ok (.goto 4, 3) := by decide +kernel
theorem dX9_person_159 : decode cX9_person 159 = .ok (.iconst 0, 1) := by decide +kernel
theorem dX9_person_160 : decode cX9_person 160 = .ok (.ireturn, 1) := by decide +kernel
theorem dX9_person_161 : decode cX9_person 161 = .ok (.aload_n 0, 1) := by decide +kernel
theorem dX9_person_162 : decode cX9_person 162 = .ok (.getfield 46, 3) := by decide +kernel
theorem dX9_person_165 : decode cX9_person 165 = .ok (.iload_n 1, 1) := by decide +kernel
theorem dX9_person_166 : decode cX9_person 166 = .ok (.invokevirtual 99, 3) := by decide +kernel
theorem dX9_person_169 : decode cX9_person 169 = .ok (.ireturn, 1) := by decide +kernel
theorem dX9_person_170 : decode cX9_person 170 = .ok (.iconst (-1), 1) := by decide +kernel
theorem dX9_person_171 : decode cX9_person 171 = .ok (.ireturn, 1) := by decide +kernel
def r_X9_person : Room := { frames := 4, cells := 0, slots := 0, locals := 97 }
def f_X9_person (P : PH) (x0 : Nat) (x1 : Int32) (x2 : Int32) : Option Int32 :=
  ((f_X2_isPerson P (P.2.2 x0 6) x1).bind fun q2 => (if (b2i q2) = 0 then some (-1 : Int32) else (if x2 = (0 : Int32) then ((f_X2_lives P (P.2.2 x0 6) x1).bind fun q5 => (if (b2i q5) = 0 then some (0 : Int32) else some (1 : Int32))) else (if x2 = (1 : Int32) then (if (x1 < 0 ∨ 6 ≤ x1.toNatClampNeg) then none else some (P.1 (P.2.2 (P.2.2 (P.2.2 x0 6) 5) 3) x1.toNatClampNeg)) else (if x2 = (2 : Int32) then (if (x1 < 0 ∨ 6 ≤ x1.toNatClampNeg) then none else some (P.1 (P.2.2 (P.2.2 x0 6) 3) x1.toNatClampNeg)) else (if x2 = (3 : Int32) then (if (x1 < 0 ∨ 6 ≤ x1.toNatClampNeg) then none else some (P.1 (P.2.2 (P.2.2 x0 6) 4) x1.toNatClampNeg)) else (if x2 = (4 : Int32) then ((f_X2_mayNow P (P.2.2 x0 6) x1).bind fun q19 => ((f_X2_reach P (P.2.2 x0 6) x1 q19).bind fun q20 => some q20)) else (if x2 = (5 : Int32) then ((f_X2_isCutOff P (P.2.2 x0 6) x1 (P.1 (P.2.2 (P.2.2 x0 6) 5) 1) (P.1 (P.2.2 (P.2.2 x0 6) 5) 0) (0 : Int32)).bind fun q27 => (if (b2i q27) = 0 then some (0 : Int32) else some (1 : Int32))) else (if x2 = (6 : Int32) then ((f_X2_mayNow P (P.2.2 x0 6) x1).bind fun q30 => some q30) else some (-1 : Int32))))))))))
theorem w_X9_person {x : Fx} {E : Ev} (S : ZS x E r_X9_person cX9_person 3 RX9 (some .int)) (M : ZM x E) (P : PH) (x0 : Nat) (x1 : Int32) (x2 : Int32) (h_x0 : ok x0 7 0) (r : Int32) (hf : f_X9_person P x0 x1 x2 = some r) : Wz x E 3 (QI E x r P) P 0 [(0, .ref (ad E x0)), (1, .int x1), (2, .int x2)] [] := by
  unfold f_X9_person at hf
  refine z_aload_n S 0 dX9_person_0 rfl rfl ?_
  refine z_getR (K' := 1) (n' := 0) S cf_7 h_x0 6 (by decide) rfl rfl rfl wd257 dX9_person_1 (fun h1 => ?_)
  refine z_iload_n S 1 dX9_person_4 rfl rfl ?_
  refine z_callVI (rc := r_X2_isPerson) [.int x1] S mo_X2_isPerson wd334 wd335 wd365 h1 (by decide) cl_1 rfl rfl (by decide) (z_room0 S M (by rfl) (by rfl)) rfl (Nat.le_of_ble_eq_true rfl) rfl dX9_person_5 (fun q => b2i q) (fun _ => P) (fun q hq => m_X2_isPerson (xl x) E _ _ _ h1 q hq) hf (fun q2 hf => ?_)
  refine z_if_ne (tgt := 13) S dX9_person_8 (by decide) hf (fun hf => ?_) (fun hf => ?_)
  · refine z_iconst (v := (-1 : Int32)) S dX9_person_11 (by decide) ?_
    exact z_iretP (v := (-1 : Int32)) S M rfl dX9_person_12 hf
  · refine z_iload_n S 2 dX9_person_13 rfl rfl ?_
    refine z_tif hf (fun h3 hf => ?_) (fun h3 hf => ?_)
    · refine z_tabIn (tgt := 56) S 0 dX9_person_14 (by rw [h3]; rfl) (by decide) rfl (by decide) ?_
      refine z_aload_n S 0 dX9_person_56 rfl rfl ?_
      refine z_getR (K' := 1) (n' := 0) S cf_7 h_x0 6 (by decide) rfl rfl rfl wd257 dX9_person_57 (fun h4 => ?_)
      refine z_iload_n S 1 dX9_person_60 rfl rfl ?_
      refine z_callVI (rc := r_X2_lives) [.int x1] S mo_X2_lives wd367 wd368 wd366 h4 (by decide) cl_1 rfl rfl (by decide) (z_room0 S M (by rfl) (by rfl)) rfl (Nat.le_of_ble_eq_true rfl) rfl dX9_person_61 (fun q => b2i q) (fun _ => P) (fun q hq => m_X2_lives (xl x) E _ _ _ h4 q hq) hf (fun q5 hf => ?_)
      refine z_if_eq (tgt := 71) S dX9_person_64 (by decide) hf (fun hf => ?_) (fun hf => ?_)
      · refine z_iconst (v := 0) S dX9_person_71 (by decide) ?_
        exact z_iretP (v := (0 : Int32)) S M rfl dX9_person_72 hf
      · refine z_iconst (v := 1) S dX9_person_67 (by decide) ?_
        refine z_goto (tgt := 72) S dX9_person_68 (by decide) ?_
        exact z_iretP (v := (1 : Int32)) S M rfl dX9_person_72 hf
    refine z_tif hf (fun h6 hf => ?_) (fun h6 hf => ?_)
    · refine z_tabIn (tgt := 73) S 1 dX9_person_14 (by rw [h6]; rfl) (by decide) rfl (by decide) ?_
      refine z_aload_n S 0 dX9_person_73 rfl rfl ?_
      refine z_getR (K' := 1) (n' := 0) S cf_7 h_x0 6 (by decide) rfl rfl rfl wd257 dX9_person_74 (fun h7 => ?_)
      refine z_getR (K' := 2) (n' := 0) S cf_1 h7 5 (by decide) rfl rfl rfl wd236 dX9_person_77 (fun h8 => ?_)
      refine z_getR (K' := 9) (n' := 6) S cf_2 h8 3 (by decide) rfl rfl rfl wd186 dX9_person_80 (fun h9 => ?_)
      refine z_iload_n S 1 dX9_person_83 rfl rfl ?_
      refine z_iald S h9 dX9_person_84 hf (fun hf => ?_)
      exact z_iretP (v := (P.1 (P.2.2 (P.2.2 (P.2.2 x0 6) 5) 3) x1.toNatClampNeg)) S M rfl dX9_person_85 hf
    refine z_tif hf (fun h10 hf => ?_) (fun h10 hf => ?_)
    · refine z_tabIn (tgt := 86) S 2 dX9_person_14 (by rw [h10]; rfl) (by decide) rfl (by decide) ?_
      refine z_aload_n S 0 dX9_person_86 rfl rfl ?_
      refine z_getR (K' := 1) (n' := 0) S cf_7 h_x0 6 (by decide) rfl rfl rfl wd257 dX9_person_87 (fun h11 => ?_)
      refine z_getR (K' := 9) (n' := 6) S cf_1 h11 3 (by decide) rfl rfl rfl wd225 dX9_person_90 (fun h12 => ?_)
      refine z_iload_n S 1 dX9_person_93 rfl rfl ?_
      refine z_iald S h12 dX9_person_94 hf (fun hf => ?_)
      exact z_iretP (v := (P.1 (P.2.2 (P.2.2 x0 6) 3) x1.toNatClampNeg)) S M rfl dX9_person_95 hf
    refine z_tif hf (fun h13 hf => ?_) (fun h13 hf => ?_)
    · refine z_tabIn (tgt := 96) S 3 dX9_person_14 (by rw [h13]; rfl) (by decide) rfl (by decide) ?_
      refine z_aload_n S 0 dX9_person_96 rfl rfl ?_
      refine z_getR (K' := 1) (n' := 0) S cf_7 h_x0 6 (by decide) rfl rfl rfl wd257 dX9_person_97 (fun h14 => ?_)
      refine z_getR (K' := 9) (n' := 6) S cf_1 h14 4 (by decide) rfl rfl rfl wd228 dX9_person_100 (fun h15 => ?_)
      refine z_iload_n S 1 dX9_person_103 rfl rfl ?_
      refine z_iald S h15 dX9_person_104 hf (fun hf => ?_)
      exact z_iretP (v := (P.1 (P.2.2 (P.2.2 x0 6) 4) x1.toNatClampNeg)) S M rfl dX9_person_105 hf
    refine z_tif hf (fun h16 hf => ?_) (fun h16 hf => ?_)
    · refine z_tabIn (tgt := 106) S 4 dX9_person_14 (by rw [h16]; rfl) (by decide) rfl (by decide) ?_
      refine z_aload_n S 0 dX9_person_106 rfl rfl ?_
      refine z_getR (K' := 1) (n' := 0) S cf_7 h_x0 6 (by decide) rfl rfl rfl wd257 dX9_person_107 (fun h17 => ?_)
      refine z_iload_n S 1 dX9_person_110 rfl rfl ?_
      refine z_aload_n S 0 dX9_person_111 rfl rfl ?_
      refine z_getR (K' := 1) (n' := 0) S cf_7 h_x0 6 (by decide) rfl rfl rfl wd257 dX9_person_112 (fun h18 => ?_)
      refine z_iload_n S 1 dX9_person_115 rfl rfl ?_
      refine z_callVI (rc := r_X2_mayNow) [.int x1] S mo_X2_mayNow wd372 wd373 wd371 h18 (by decide) cl_1 rfl rfl (by decide) (z_room0 S M (by rfl) (by rfl)) rfl (Nat.le_of_ble_eq_true rfl) rfl dX9_person_116 (fun q => q) (fun _ => P) (fun q hq => m_X2_mayNow (xl x) E _ _ _ h18 q hq) hf (fun q19 hf => ?_)
      refine z_callVI (rc := r_X2_reach) [.int x1, .int q19] S mo_X2_reach wd392 wd393 wd391 h17 (by decide) cl_1 rfl rfl (by decide) (z_room0 S M (by rfl) (by rfl)) rfl (Nat.le_of_ble_eq_true rfl) rfl dX9_person_119 (fun q => q) (fun _ => P) (fun q hq => m_X2_reach (xl x) E _ _ _ _ h17 q hq) hf (fun q20 hf => ?_)
      exact z_iretP (v := q20) S M rfl dX9_person_122 hf
    refine z_tif hf (fun h21 hf => ?_) (fun h21 hf => ?_)
    · refine z_tabIn (tgt := 123) S 5 dX9_person_14 (by rw [h21]; rfl) (by decide) rfl (by decide) ?_
      refine z_aload_n S 0 dX9_person_123 rfl rfl ?_
      refine z_getR (K' := 1) (n' := 0) S cf_7 h_x0 6 (by decide) rfl rfl rfl wd257 dX9_person_124 (fun h22 => ?_)
      refine z_iload_n S 1 dX9_person_127 rfl rfl ?_
      refine z_aload_n S 0 dX9_person_128 rfl rfl ?_
      refine z_getR (K' := 1) (n' := 0) S cf_7 h_x0 6 (by decide) rfl rfl rfl wd257 dX9_person_129 (fun h23 => ?_)
      refine z_getR (K' := 2) (n' := 0) S cf_1 h23 5 (by decide) rfl rfl rfl wd236 dX9_person_132 (fun h24 => ?_)
      refine z_getI S cf_2 h24 1 (by decide) rfl wd176 dX9_person_135 ?_
      refine z_aload_n S 0 dX9_person_138 rfl rfl ?_
      refine z_getR (K' := 1) (n' := 0) S cf_7 h_x0 6 (by decide) rfl rfl rfl wd257 dX9_person_139 (fun h25 => ?_)
      refine z_getR (K' := 2) (n' := 0) S cf_1 h25 5 (by decide) rfl rfl rfl wd236 dX9_person_142 (fun h26 => ?_)
      refine z_getI S cf_2 h26 0 (by decide) rfl wd169 dX9_person_145 ?_
      refine z_iconst (v := 0) S dX9_person_148 (by decide) ?_
      refine z_callVI (rc := r_X2_isCutOff) [.int x1, .int (P.1 (P.2.2 (P.2.2 x0 6) 5) 1), .int (P.1 (P.2.2 (P.2.2 x0 6) 5) 0), .int (0 : Int32)] S mo_X2_isCutOff wd400 wd401 wd399 h22 (by decide) cl_1 rfl rfl (by decide) (z_room0 S M (by rfl) (by rfl)) rfl (Nat.le_of_ble_eq_true rfl) rfl dX9_person_149 (fun q => b2i q) (fun _ => P) (fun q hq => m_X2_isCutOff (xl x) E _ _ _ _ _ _ h22 q hq) hf (fun q27 hf => ?_)
      refine z_if_eq (tgt := 159) S dX9_person_152 (by decide) hf (fun hf => ?_) (fun hf => ?_)
      · refine z_iconst (v := 0) S dX9_person_159 (by decide) ?_
        exact z_iretP (v := (0 : Int32)) S M rfl dX9_person_160 hf
      · refine z_iconst (v := 1) S dX9_person_155 (by decide) ?_
        refine z_goto (tgt := 160) S dX9_person_156 (by decide) ?_
        exact z_iretP (v := (1 : Int32)) S M rfl dX9_person_160 hf
    refine z_tif hf (fun h28 hf => ?_) (fun h28 hf => ?_)
    · refine z_tabIn (tgt := 161) S 6 dX9_person_14 (by rw [h28]; rfl) (by decide) rfl (by decide) ?_
      refine z_aload_n S 0 dX9_person_161 rfl rfl ?_
      refine z_getR (K' := 1) (n' := 0) S cf_7 h_x0 6 (by decide) rfl rfl rfl wd257 dX9_person_162 (fun h29 => ?_)
      refine z_iload_n S 1 dX9_person_165 rfl rfl ?_
      refine z_callVI (rc := r_X2_mayNow) [.int x1] S mo_X2_mayNow wd372 wd373 wd371 h29 (by decide) cl_1 rfl rfl (by decide) (z_room0 S M (by rfl) (by rfl)) rfl (Nat.le_of_ble_eq_true rfl) rfl dX9_person_166 (fun q => q) (fun _ => P) (fun q hq => m_X2_mayNow (xl x) E _ _ _ h29 q hq) hf (fun q30 hf => ?_)
      exact z_iretP (v := q30) S M rfl dX9_person_169 hf
    refine z_tabOut (tgt := 170) S dX9_person_14 (by have e0 := lv_neT h3 (a := 0) rfl; have e1 := lv_neT h6 (a := 1) rfl; have e2 := lv_neT h10 (a := 2) rfl; have e3 := lv_neT h13 (a := 3) rfl; have e4 := lv_neT h16 (a := 4) rfl; have e5 := lv_neT h21 (a := 5) rfl; have e6 := lv_neT h28 (a := 6) rfl; omega) (by decide) ?_
    refine z_iconst (v := (-1 : Int32)) S dX9_person_170 (by decide) ?_
    exact z_iretP (v := (-1 : Int32)) S M rfl dX9_person_171 hf
theorem m_X9_person (l : Launch) (E : Ev) (P : PH) (x0 : Nat) (x1 : Int32) (x2 : Int32) (h_x0 : ok x0 7 0) (r : Int32) (hf : f_X9_person P x0 x1 x2 = some r) : CtI l E yX9_person cX9_person 3 (some .int) r_X9_person [.ref (ad E x0), .int x1, .int x2] P r P :=
  z_body (own := RX9) (by decide +kernel) rfl (Nat.le_of_ble_eq_true rfl) rfl (fun x _ S M => w_X9_person S M P x0 x1 x2 h_x0 r hf)
-- yX9_room
theorem dX9_room_0 : decode cX9_room 0 = .ok (.aload_n 0, 1) := by decide +kernel
theorem dX9_room_1 : decode cX9_room 1 = .ok (.getfield 46, 3) := by decide +kernel
theorem dX9_room_4 : decode cX9_room 4 = .ok (.iload_n 1, 1) := by decide +kernel
theorem dX9_room_5 : decode cX9_room 5 = .ok (.invokevirtual 117, 3) := by decide +kernel
theorem dX9_room_8 : decode cX9_room 8 = .ok (.ifCond .ne 5, 3) := by decide +kernel
theorem dX9_room_11 : decode cX9_room 11 = .ok (.iconst (-1), 1) := by decide +kernel
theorem dX9_room_12 : decode cX9_room 12 = .ok (.ireturn, 1) := by decide +kernel
theorem dX9_room_13 : decode cX9_room 13 = .ok (.iload_n 2, 1) := by decide +kernel
theorem dX9_room_14 : decode cX9_room 14 = .ok (.tableswitch 94 0 4 #[34, 47, 66, 75, 85], 34) := by decide +kernel
theorem dX9_room_48 : decode cX9_room 48 = .ok (.aload_n 0, 1) := by decide +kernel
theorem dX9_room_49 : decode cX9_room 49 = .ok (.getfield 46, 3) := by decide +kernel
theorem dX9_room_52 : decode cX9_room 52 = .ok (.getfield 85, 3) := by decide +kernel
theorem dX9_room_55 : decode cX9_room 55 = .ok (.getfield 120, 3) := by decide +kernel
theorem dX9_room_58 : decode cX9_room 58 = .ok (.iload_n 1, 1) := by decide +kernel
theorem dX9_room_59 : decode cX9_room 59 = .ok (.iaload, 1) := by decide +kernel
theorem dX9_room_60 : decode cX9_room 60 = .ok (.ireturn, 1) := by decide +kernel
theorem dX9_room_61 : decode cX9_room 61 = .ok (.aload_n 0, 1) := by decide +kernel
theorem dX9_room_62 : decode cX9_room 62 = .ok (.getfield 46, 3) := by decide +kernel
theorem dX9_room_65 : decode cX9_room 65 = .ok (.iload_n 1, 1) := by decide +kernel
theorem dX9_room_66 : decode cX9_room 66 = .ok (.aload_n 0, 1) := by decide +kernel
theorem dX9_room_67 : decode cX9_room 67 = .ok (.getfield 46, 3) := by decide +kernel
theorem dX9_room_70 : decode cX9_room 70 = .ok (.getfield 85, 3) := by decide +kernel
theorem dX9_room_73 : decode cX9_room 73 = .ok (.getfield 107, 3) := by decide +kernel
theorem dX9_room_76 : decode cX9_room 76 = .ok (.invokevirtual 123, 3) := by decide +kernel
theorem dX9_room_79 : decode cX9_room 79 = .ok (.ireturn, 1) := by decide +kernel
theorem dX9_room_80 : decode cX9_room 80 = .ok (.aload_n 0, 1) := by decide +kernel
theorem dX9_room_81 : decode cX9_room 81 = .ok (.getfield 46, 3) := by decide +kernel
theorem dX9_room_84 : decode cX9_room 84 = .ok (.iload_n 1, 1) := by decide +kernel
theorem dX9_room_85 : decode cX9_room 85 = .ok (.invokevirtual 126, 3) := by decide +kernel
theorem dX9_room_88 : decode cX9_room 88 = .ok (.ireturn, 1) := by decide +kernel
theorem dX9_room_89 : decode cX9_room 89 = .ok (.aload_n 0, 1) := by decide +kernel
theorem dX9_room_90 : decode cX9_room 90 = .ok (.getfield 46, 3) := by decide +kernel
theorem dX9_room_93 : decode cX9_room 93 = .ok (.getfield 129, 3) := by decide +kernel
theorem dX9_room_96 : decode cX9_room 96 = .ok (.iload_n 1, 1) := by decide +kernel
theorem dX9_room_97 : decode cX9_room 97 = .ok (.iaload, 1) := by decide +kernel
theorem dX9_room_98 : decode cX9_room 98 = .ok (.ireturn, 1) := by decide +kernel
theorem dX9_room_99 : decode cX9_room 99 = .ok (.aload_n 0, 1) := by decide +kernel
theorem dX9_room_100 : decode cX9_room 100 = .ok (.getfield 46, 3) := by decide +kernel
theorem dX9_room_103 : decode cX9_room 103 = .ok (.iload_n 1, 1) := by decide +kernel
theorem dX9_room_104 : decode cX9_room 104 = .ok (.invokevirtual 132, 3) := by decide +kernel
theorem dX9_room_107 : decode cX9_room 107 = .ok (.ireturn, 1) := by decide +kernel
theorem dX9_room_108 : decode cX9_room 108 = .ok (.iconst (-1), 1) := by decide +kernel
theorem dX9_room_109 : decode cX9_room 109 = .ok (.ireturn, 1) := by decide +kernel
def r_X9_room : Room := { frames := 4, cells := 0, slots := 0, locals := 96 }
def f_X9_room (P : PH) (x0 : Nat) (x1 : Int32) (x2 : Int32) : Option Int32 :=
  ((f_X2_isRoom P (P.2.2 x0 6) x1).bind fun q2 => (if (b2i q2) = 0 then some (-1 : Int32) else (if x2 = (0 : Int32) then (if (x1 < 0 ∨ 7 ≤ x1.toNatClampNeg) then none else some (P.1 (P.2.2 (P.2.2 (P.2.2 x0 6) 5) 4) x1.toNatClampNeg)) else (if x2 = (1 : Int32) then ((f_X2_owner P (P.2.2 x0 6) x1 (P.1 (P.2.2 (P.2.2 x0 6) 5) 1)).bind fun q11 => some q11) else (if x2 = (2 : Int32) then ((f_X2_chain P (P.2.2 x0 6) x1).bind fun q14 => some q14) else (if x2 = (3 : Int32) then (if (x1 < 0 ∨ 7 ≤ x1.toNatClampNeg) then none else some (P.1 (P.2.2 (P.2.2 x0 6) 2) x1.toNatClampNeg)) else (if x2 = (4 : Int32) then ((f_X2_whoMay P (P.2.2 x0 6) x1).bind fun q20 => some q20) else some (-1 : Int32))))))))
theorem w_X9_room {x : Fx} {E : Ev} (S : ZS x E r_X9_room cX9_room 3 RX9 (some .int)) (M : ZM x E) (P : PH) (x0 : Nat) (x1 : Int32) (x2 : Int32) (h_x0 : ok x0 7 0) (r : Int32) (hf : f_X9_room P x0 x1 x2 = some r) : Wz x E 3 (QI E x r P) P 0 [(0, .ref (ad E x0)), (1, .int x1), (2, .int x2)] [] := by
  unfold f_X9_room at hf
  refine z_aload_n S 0 dX9_room_0 rfl rfl ?_
  refine z_getR (K' := 1) (n' := 0) S cf_7 h_x0 6 (by decide) rfl rfl rfl wd257 dX9_room_1 (fun h1 => ?_)
  refine z_iload_n S 1 dX9_room_4 rfl rfl ?_
  refine z_callVI (rc := r_X2_isRoom) [.int x1] S mo_X2_isRoom wd338 wd339 wd412 h1 (by decide) cl_1 rfl rfl (by decide) (z_room0 S M (by rfl) (by rfl)) rfl (Nat.le_of_ble_eq_true rfl) rfl dX9_room_5 (fun q => b2i q) (fun _ => P) (fun q hq => m_X2_isRoom (xl x) E _ _ _ h1 q hq) hf (fun q2 hf => ?_)
  refine z_if_ne (tgt := 13) S dX9_room_8 (by decide) hf (fun hf => ?_) (fun hf => ?_)
  · refine z_iconst (v := (-1 : Int32)) S dX9_room_11 (by decide) ?_
    exact z_iretP (v := (-1 : Int32)) S M rfl dX9_room_12 hf
  · refine z_iload_n S 2 dX9_room_13 rfl rfl ?_
    refine z_tif hf (fun h3 hf => ?_) (fun h3 hf => ?_)
    · refine z_tabIn (tgt := 48) S 0 dX9_room_14 (by rw [h3]; rfl) (by decide) rfl (by decide) ?_
      refine z_aload_n S 0 dX9_room_48 rfl rfl ?_
      refine z_getR (K' := 1) (n' := 0) S cf_7 h_x0 6 (by decide) rfl rfl rfl wd257 dX9_room_49 (fun h4 => ?_)
      refine z_getR (K' := 2) (n' := 0) S cf_1 h4 5 (by decide) rfl rfl rfl wd236 dX9_room_52 (fun h5 => ?_)
      refine z_getR (K' := 9) (n' := 7) S cf_2 h5 4 (by decide) rfl rfl rfl wd189 dX9_room_55 (fun h6 => ?_)
      refine z_iload_n S 1 dX9_room_58 rfl rfl ?_
      refine z_iald S h6 dX9_room_59 hf (fun hf => ?_)
      exact z_iretP (v := (P.1 (P.2.2 (P.2.2 (P.2.2 x0 6) 5) 4) x1.toNatClampNeg)) S M rfl dX9_room_60 hf
    refine z_tif hf (fun h7 hf => ?_) (fun h7 hf => ?_)
    · refine z_tabIn (tgt := 61) S 1 dX9_room_14 (by rw [h7]; rfl) (by decide) rfl (by decide) ?_
      refine z_aload_n S 0 dX9_room_61 rfl rfl ?_
      refine z_getR (K' := 1) (n' := 0) S cf_7 h_x0 6 (by decide) rfl rfl rfl wd257 dX9_room_62 (fun h8 => ?_)
      refine z_iload_n S 1 dX9_room_65 rfl rfl ?_
      refine z_aload_n S 0 dX9_room_66 rfl rfl ?_
      refine z_getR (K' := 1) (n' := 0) S cf_7 h_x0 6 (by decide) rfl rfl rfl wd257 dX9_room_67 (fun h9 => ?_)
      refine z_getR (K' := 2) (n' := 0) S cf_1 h9 5 (by decide) rfl rfl rfl wd236 dX9_room_70 (fun h10 => ?_)
      refine z_getI S cf_2 h10 1 (by decide) rfl wd176 dX9_room_73 ?_
      refine z_callVI (rc := r_X2_owner) [.int x1, .int (P.1 (P.2.2 (P.2.2 x0 6) 5) 1)] S mo_X2_owner wd384 wd385 wd413 h8 (by decide) cl_1 rfl rfl (by decide) (z_room0 S M (by rfl) (by rfl)) rfl (Nat.le_of_ble_eq_true rfl) rfl dX9_room_76 (fun q => q) (fun _ => P) (fun q hq => m_X2_owner (xl x) E _ _ _ _ h8 q hq) hf (fun q11 hf => ?_)
      exact z_iretP (v := q11) S M rfl dX9_room_79 hf
    refine z_tif hf (fun h12 hf => ?_) (fun h12 hf => ?_)
    · refine z_tabIn (tgt := 80) S 2 dX9_room_14 (by rw [h12]; rfl) (by decide) rfl (by decide) ?_
      refine z_aload_n S 0 dX9_room_80 rfl rfl ?_
      refine z_getR (K' := 1) (n' := 0) S cf_7 h_x0 6 (by decide) rfl rfl rfl wd257 dX9_room_81 (fun h13 => ?_)
      refine z_iload_n S 1 dX9_room_84 rfl rfl ?_
      refine z_callVI (rc := r_X2_chain) [.int x1] S mo_X2_chain wd415 wd416 wd414 h13 (by decide) cl_1 rfl rfl (by decide) (z_room0 S M (by rfl) (by rfl)) rfl (Nat.le_of_ble_eq_true rfl) rfl dX9_room_85 (fun q => q) (fun _ => P) (fun q hq => m_X2_chain (xl x) E _ _ _ h13 q hq) hf (fun q14 hf => ?_)
      exact z_iretP (v := q14) S M rfl dX9_room_88 hf
    refine z_tif hf (fun h15 hf => ?_) (fun h15 hf => ?_)
    · refine z_tabIn (tgt := 89) S 3 dX9_room_14 (by rw [h15]; rfl) (by decide) rfl (by decide) ?_
      refine z_aload_n S 0 dX9_room_89 rfl rfl ?_
      refine z_getR (K' := 1) (n' := 0) S cf_7 h_x0 6 (by decide) rfl rfl rfl wd257 dX9_room_90 (fun h16 => ?_)
      refine z_getR (K' := 9) (n' := 7) S cf_1 h16 2 (by decide) rfl rfl rfl wd223 dX9_room_93 (fun h17 => ?_)
      refine z_iload_n S 1 dX9_room_96 rfl rfl ?_
      refine z_iald S h17 dX9_room_97 hf (fun hf => ?_)
      exact z_iretP (v := (P.1 (P.2.2 (P.2.2 x0 6) 2) x1.toNatClampNeg)) S M rfl dX9_room_98 hf
    refine z_tif hf (fun h18 hf => ?_) (fun h18 hf => ?_)
    · refine z_tabIn (tgt := 99) S 4 dX9_room_14 (by rw [h18]; rfl) (by decide) rfl (by decide) ?_
      refine z_aload_n S 0 dX9_room_99 rfl rfl ?_
      refine z_getR (K' := 1) (n' := 0) S cf_7 h_x0 6 (by decide) rfl rfl rfl wd257 dX9_room_100 (fun h19 => ?_)
      refine z_iload_n S 1 dX9_room_103 rfl rfl ?_
      refine z_callVI (rc := r_X2_whoMay) [.int x1] S mo_X2_whoMay wd419 wd420 wd418 h19 (by decide) cl_1 rfl rfl (by decide) (z_room0 S M (by rfl) (by rfl)) rfl (Nat.le_of_ble_eq_true rfl) rfl dX9_room_104 (fun q => q) (fun _ => P) (fun q hq => m_X2_whoMay (xl x) E _ _ _ h19 q hq) hf (fun q20 hf => ?_)
      exact z_iretP (v := q20) S M rfl dX9_room_107 hf
    refine z_tabOut (tgt := 108) S dX9_room_14 (by have e0 := lv_neT h3 (a := 0) rfl; have e1 := lv_neT h7 (a := 1) rfl; have e2 := lv_neT h12 (a := 2) rfl; have e3 := lv_neT h15 (a := 3) rfl; have e4 := lv_neT h18 (a := 4) rfl; omega) (by decide) ?_
    refine z_iconst (v := (-1 : Int32)) S dX9_room_108 (by decide) ?_
    exact z_iretP (v := (-1 : Int32)) S M rfl dX9_room_109 hf
theorem m_X9_room (l : Launch) (E : Ev) (P : PH) (x0 : Nat) (x1 : Int32) (x2 : Int32) (h_x0 : ok x0 7 0) (r : Int32) (hf : f_X9_room P x0 x1 x2 = some r) : CtI l E yX9_room cX9_room 3 (some .int) r_X9_room [.ref (ad E x0), .int x1, .int x2] P r P :=
  z_body (own := RX9) (by decide +kernel) rfl (Nat.le_of_ble_eq_true rfl) rfl (fun x _ S M => w_X9_room S M P x0 x1 x2 h_x0 r hf)
-- yX9_right
theorem dX9_right_0 : decode cX9_right 0 = .ok (.iload_n 1, 1) := by decide +kernel
theorem dX9_right_1 : decode cX9_right 1 = .ok (.ifCond .lt 17, 3) := by decide +kernel
theorem dX9_right_4 : decode cX9_right 4 = .ok (.iload_n 1, 1) := by decide +kernel
theorem dX9_right_5 : decode cX9_right 5 = .ok (.aload_n 0, 1) := by decide +kernel
theorem dX9_right_6 : decode cX9_right 6 = .ok (.getfield 46, 3) := by decide +kernel
theorem dX9_right_9 : decode cX9_right 9 = .ok (.getfield 85, 3) := by decide +kernel
theorem dX9_right_12 : decode cX9_right 12 = .ok (.getfield 135, 3) := by decide +kernel
theorem dX9_right_15 : decode cX9_right 15 = .ok (.if_icmp .lt 5, 3) := by decide +kernel
theorem dX9_right_18 : decode cX9_right 18 = .ok (.iconst (-1), 1) := by decide +kernel
theorem dX9_right_19 : decode cX9_right 19 = .ok (.ireturn, 1) := by decide +kernel
theorem dX9_right_20 : decode cX9_right 20 = .ok (.iload_n 2, 1) := by decide +kernel
theorem dX9_right_21 : decode cX9_right 21 = .ok (.tableswitch 66 0 2 #[27, 40, 53], 27) := by decide +kernel
theorem dX9_right_48 : decode cX9_right 48 = .ok (.aload_n 0, 1) := by decide +kernel
theorem dX9_right_49 : decode cX9_right 49 = .ok (.getfield 46, 3) := by decide +kernel
theorem dX9_right_52 : decode cX9_right 52 = .ok (.getfield 85, 3) := by decide +kernel
theorem dX9_right_55 : decode cX9_right 55 = .ok (.getfield 138, 3) := by decide +kernel
theorem dX9_right_58 : decode cX9_right 58 = .ok (.iload_n 1, 1) := by decide +kernel
theorem dX9_right_59 : decode cX9_right 59 = .ok (.iaload, 1) := by decide +kernel
theorem dX9_right_60 : decode cX9_right 60 = .ok (.ireturn, 1) := by decide +kernel
theorem dX9_right_61 : decode cX9_right 61 = .ok (.aload_n 0, 1) := by decide +kernel
theorem dX9_right_62 : decode cX9_right 62 = .ok (.getfield 46, 3) := by decide +kernel
theorem dX9_right_65 : decode cX9_right 65 = .ok (.getfield 85, 3) := by decide +kernel
theorem dX9_right_68 : decode cX9_right 68 = .ok (.getfield 141, 3) := by decide +kernel
theorem dX9_right_71 : decode cX9_right 71 = .ok (.iload_n 1, 1) := by decide +kernel
theorem dX9_right_72 : decode cX9_right 72 = .ok (.iaload, 1) := by decide +kernel
theorem dX9_right_73 : decode cX9_right 73 = .ok (.ireturn, 1) := by decide +kernel
theorem dX9_right_74 : decode cX9_right 74 = .ok (.aload_n 0, 1) := by decide +kernel
theorem dX9_right_75 : decode cX9_right 75 = .ok (.getfield 46, 3) := by decide +kernel
theorem dX9_right_78 : decode cX9_right 78 = .ok (.getfield 85, 3) := by decide +kernel
theorem dX9_right_81 : decode cX9_right 81 = .ok (.getfield 144, 3) := by decide +kernel
theorem dX9_right_84 : decode cX9_right 84 = .ok (.iload_n 1, 1) := by decide +kernel
theorem dX9_right_85 : decode cX9_right 85 = .ok (.iaload, 1) := by decide +kernel
theorem dX9_right_86 : decode cX9_right 86 = .ok (.ireturn, 1) := by decide +kernel
theorem dX9_right_87 : decode cX9_right 87 = .ok (.iconst (-1), 1) := by decide +kernel
theorem dX9_right_88 : decode cX9_right 88 = .ok (.ireturn, 1) := by decide +kernel
def r_X9_right : Room := { frames := 0, cells := 0, slots := 0, locals := 0 }
def f_X9_right (P : PH) (x0 : Nat) (x1 : Int32) (x2 : Int32) : Option Int32 :=
  (if x1 < 0 then some (-1 : Int32) else (if x1 < (P.1 (P.2.2 (P.2.2 x0 6) 5) 2) then (if x2 = (0 : Int32) then (if (x1 < 0 ∨ 10 ≤ x1.toNatClampNeg) then none else some (P.1 (P.2.2 (P.2.2 (P.2.2 x0 6) 5) 5) x1.toNatClampNeg)) else (if x2 = (1 : Int32) then (if (x1 < 0 ∨ 10 ≤ x1.toNatClampNeg) then none else some (P.1 (P.2.2 (P.2.2 (P.2.2 x0 6) 5) 6) x1.toNatClampNeg)) else (if x2 = (2 : Int32) then (if (x1 < 0 ∨ 10 ≤ x1.toNatClampNeg) then none else some (P.1 (P.2.2 (P.2.2 (P.2.2 x0 6) 5) 7) x1.toNatClampNeg)) else some (-1 : Int32)))) else some (-1 : Int32)))
theorem w_X9_right {x : Fx} {E : Ev} (S : ZS x E r_X9_right cX9_right 3 RX9 (some .int)) (M : ZM x E) (P : PH) (x0 : Nat) (x1 : Int32) (x2 : Int32) (h_x0 : ok x0 7 0) (r : Int32) (hf : f_X9_right P x0 x1 x2 = some r) : Wz x E 3 (QI E x r P) P 0 [(0, .ref (ad E x0)), (1, .int x1), (2, .int x2)] [] := by
  unfold f_X9_right at hf
  refine z_iload_n S 1 dX9_right_0 rfl rfl ?_
  refine z_if_lt (tgt := 18) S dX9_right_1 (by decide) hf (fun hf => ?_) (fun hf => ?_)
  · refine z_iconst (v := (-1 : Int32)) S dX9_right_18 (by decide) ?_
    exact z_iretP (v := (-1 : Int32)) S M rfl dX9_right_19 hf
  · refine z_iload_n S 1 dX9_right_4 rfl rfl ?_
    refine z_aload_n S 0 dX9_right_5 rfl rfl ?_
    refine z_getR (K' := 1) (n' := 0) S cf_7 h_x0 6 (by decide) rfl rfl rfl wd257 dX9_right_6 (fun h1 => ?_)
    refine z_getR (K' := 2) (n' := 0) S cf_1 h1 5 (by decide) rfl rfl rfl wd236 dX9_right_9 (fun h2 => ?_)
    refine z_getI S cf_2 h2 2 (by decide) rfl wd181 dX9_right_12 ?_
    refine z_icmp_lt (tgt := 20) S dX9_right_15 (by decide) hf (fun hf => ?_) (fun hf => ?_)
    · refine z_iload_n S 2 dX9_right_20 rfl rfl ?_
      refine z_tif hf (fun h3 hf => ?_) (fun h3 hf => ?_)
      · refine z_tabIn (tgt := 48) S 0 dX9_right_21 (by rw [h3]; rfl) (by decide) rfl (by decide) ?_
        refine z_aload_n S 0 dX9_right_48 rfl rfl ?_
        refine z_getR (K' := 1) (n' := 0) S cf_7 h_x0 6 (by decide) rfl rfl rfl wd257 dX9_right_49 (fun h4 => ?_)
        refine z_getR (K' := 2) (n' := 0) S cf_1 h4 5 (by decide) rfl rfl rfl wd236 dX9_right_52 (fun h5 => ?_)
        refine z_getR (K' := 9) (n' := 10) S cf_2 h5 5 (by decide) rfl rfl rfl wd191 dX9_right_55 (fun h6 => ?_)
        refine z_iload_n S 1 dX9_right_58 rfl rfl ?_
        refine z_iald S h6 dX9_right_59 hf (fun hf => ?_)
        exact z_iretP (v := (P.1 (P.2.2 (P.2.2 (P.2.2 x0 6) 5) 5) x1.toNatClampNeg)) S M rfl dX9_right_60 hf
      refine z_tif hf (fun h7 hf => ?_) (fun h7 hf => ?_)
      · refine z_tabIn (tgt := 61) S 1 dX9_right_21 (by rw [h7]; rfl) (by decide) rfl (by decide) ?_
        refine z_aload_n S 0 dX9_right_61 rfl rfl ?_
        refine z_getR (K' := 1) (n' := 0) S cf_7 h_x0 6 (by decide) rfl rfl rfl wd257 dX9_right_62 (fun h8 => ?_)
        refine z_getR (K' := 2) (n' := 0) S cf_1 h8 5 (by decide) rfl rfl rfl wd236 dX9_right_65 (fun h9 => ?_)
        refine z_getR (K' := 9) (n' := 10) S cf_2 h9 6 (by decide) rfl rfl rfl wd193 dX9_right_68 (fun h10 => ?_)
        refine z_iload_n S 1 dX9_right_71 rfl rfl ?_
        refine z_iald S h10 dX9_right_72 hf (fun hf => ?_)
        exact z_iretP (v := (P.1 (P.2.2 (P.2.2 (P.2.2 x0 6) 5) 6) x1.toNatClampNeg)) S M rfl dX9_right_73 hf
      refine z_tif hf (fun h11 hf => ?_) (fun h11 hf => ?_)
      · refine z_tabIn (tgt := 74) S 2 dX9_right_21 (by rw [h11]; rfl) (by decide) rfl (by decide) ?_
        refine z_aload_n S 0 dX9_right_74 rfl rfl ?_
        refine z_getR (K' := 1) (n' := 0) S cf_7 h_x0 6 (by decide) rfl rfl rfl wd257 dX9_right_75 (fun h12 => ?_)
        refine z_getR (K' := 2) (n' := 0) S cf_1 h12 5 (by decide) rfl rfl rfl wd236 dX9_right_78 (fun h13 => ?_)
        refine z_getR (K' := 9) (n' := 10) S cf_2 h13 7 (by decide) rfl rfl rfl wd195 dX9_right_81 (fun h14 => ?_)
        refine z_iload_n S 1 dX9_right_84 rfl rfl ?_
        refine z_iald S h14 dX9_right_85 hf (fun hf => ?_)
        exact z_iretP (v := (P.1 (P.2.2 (P.2.2 (P.2.2 x0 6) 5) 7) x1.toNatClampNeg)) S M rfl dX9_right_86 hf
      refine z_tabOut (tgt := 87) S dX9_right_21 (by have e0 := lv_neT h3 (a := 0) rfl; have e1 := lv_neT h7 (a := 1) rfl; have e2 := lv_neT h11 (a := 2) rfl; omega) (by decide) ?_
      refine z_iconst (v := (-1 : Int32)) S dX9_right_87 (by decide) ?_
      exact z_iretP (v := (-1 : Int32)) S M rfl dX9_right_88 hf
    · refine z_iconst (v := (-1 : Int32)) S dX9_right_18 (by decide) ?_
      exact z_iretP (v := (-1 : Int32)) S M rfl dX9_right_19 hf
theorem m_X9_right (l : Launch) (E : Ev) (P : PH) (x0 : Nat) (x1 : Int32) (x2 : Int32) (h_x0 : ok x0 7 0) (r : Int32) (hf : f_X9_right P x0 x1 x2 = some r) : CtI l E yX9_right cX9_right 3 (some .int) r_X9_right [.ref (ad E x0), .int x1, .int x2] P r P :=
  z_body (own := RX9) (by decide +kernel) rfl (Nat.le_of_ble_eq_true rfl) rfl (fun x _ S M => w_X9_right S M P x0 x1 x2 h_x0 r hf)
-- yX9_now
theorem dX9_now_0 : decode cX9_now 0 = .ok (.iload_n 1, 1) := by decide +kernel
theorem dX9_now_1 : decode cX9_now 1 = .ok (.tableswitch 85 0 4 #[35, 46, 57, 66, 77], 35) := by decide +kernel
theorem dX9_now_36 : decode cX9_now 36 = .ok (.aload_n 0, 1) := by decide +kernel
theorem dX9_now_37 : decode cX9_now 37 = .ok (.getfield 46, 3) := by decide +kernel
theorem dX9_now_40 : decode cX9_now 40 = .ok (.getfield 85, 3) := by decide +kernel
theorem dX9_now_43 : decode cX9_now 43 = .ok (.getfield 110, 3) := by decide +kernel
theorem dX9_now_46 : decode cX9_now 46 = .ok (.ireturn, 1) := by decide +kernel
theorem dX9_now_47 : decode cX9_now 47 = .ok (.aload_n 0, 1) := by decide +kernel
theorem dX9_now_48 : decode cX9_now 48 = .ok (.getfield 46, 3) := by decide +kernel
theorem dX9_now_51 : decode cX9_now 51 = .ok (.getfield 85, 3) := by decide +kernel
theorem dX9_now_54 : decode cX9_now 54 = .ok (.getfield 107, 3) := by decide +kernel
theorem dX9_now_57 : decode cX9_now 57 = .ok (.ireturn, 1) := by decide +kernel
theorem dX9_now_58 : decode cX9_now 58 = .ok (.aload_n 0, 1) := by decide +kernel
theorem dX9_now_59 : decode cX9_now 59 = .ok (.getfield 46, 3) := by decide +kernel
theorem dX9_now_62 : decode cX9_now 62 = .ok (.iconst 0, 1) := by decide +kernel
theorem dX9_now_63 : decode cX9_now 63 = .ok (.invokevirtual 147, 3) := by decide +kernel
theorem dX9_now_66 : decode cX9_now 66 = .ok (.ireturn, 1) := by decide +kernel
theorem dX9_now_67 : decode cX9_now 67 = .ok (.aload_n 0, 1) := by decide +kernel
theorem dX9_now_68 : decode cX9_now 68 = .ok (.getfield 46, 3) := by decide +kernel
theorem dX9_now_71 : decode cX9_now 71 = .ok (.getfield 85, 3) := by decide +kernel
theorem dX9_now_74 : decode cX9_now 74 = .ok (.getfield 135, 3) := by decide +kernel
theorem dX9_now_77 : decode cX9_now 77 = .ok (.ireturn, 1) := by decide +kernel
theorem dX9_now_78 : decode cX9_now 78 = .ok (.aload_n 0, 1) := by decide +kernel
theorem dX9_now_79 : decode cX9_now 79 = .ok (.getfield 19, 3) := by decide +kernel
theorem dX9_now_82 : decode cX9_now 82 = .ok (.getfield 75, 3) := by decide +kernel
theorem dX9_now_85 : decode cX9_now 85 = .ok (.ireturn, 1) := by decide +kernel
theorem dX9_now_86 : decode cX9_now 86 = .ok (.iconst (-1), 1) := by decide +kernel
theorem dX9_now_87 : decode cX9_now 87 = .ok (.ireturn, 1) := by decide +kernel
def r_X9_now : Room := { frames := 5, cells := 0, slots := 0, locals := 120 }
def f_X9_now (P : PH) (x0 : Nat) (x1 : Int32) : Option Int32 :=
  (if x1 = (0 : Int32) then some (P.1 (P.2.2 (P.2.2 x0 6) 5) 0) else (if x1 = (1 : Int32) then some (P.1 (P.2.2 (P.2.2 x0 6) 5) 1) else (if x1 = (2 : Int32) then ((f_X2_cutOff P (P.2.2 x0 6) (0 : Int32)).bind fun q9 => some q9) else (if x1 = (3 : Int32) then some (P.1 (P.2.2 (P.2.2 x0 6) 5) 2) else (if x1 = (4 : Int32) then some (P.1 (P.2.2 x0 1) 0) else some (-1 : Int32))))))
theorem w_X9_now {x : Fx} {E : Ev} (S : ZS x E r_X9_now cX9_now 2 RX9 (some .int)) (M : ZM x E) (P : PH) (x0 : Nat) (x1 : Int32) (h_x0 : ok x0 7 0) (r : Int32) (hf : f_X9_now P x0 x1 = some r) : Wz x E 2 (QI E x r P) P 0 [(0, .ref (ad E x0)), (1, .int x1)] [] := by
  unfold f_X9_now at hf
  refine z_iload_n S 1 dX9_now_0 rfl rfl ?_
  refine z_tif hf (fun h1 hf => ?_) (fun h1 hf => ?_)
  · refine z_tabIn (tgt := 36) S 0 dX9_now_1 (by rw [h1]; rfl) (by decide) rfl (by decide) ?_
    refine z_aload_n S 0 dX9_now_36 rfl rfl ?_
    refine z_getR (K' := 1) (n' := 0) S cf_7 h_x0 6 (by decide) rfl rfl rfl wd257 dX9_now_37 (fun h2 => ?_)
    refine z_getR (K' := 2) (n' := 0) S cf_1 h2 5 (by decide) rfl rfl rfl wd236 dX9_now_40 (fun h3 => ?_)
    refine z_getI S cf_2 h3 0 (by decide) rfl wd169 dX9_now_43 ?_
    exact z_iretP (v := (P.1 (P.2.2 (P.2.2 x0 6) 5) 0)) S M rfl dX9_now_46 hf
  refine z_tif hf (fun h4 hf => ?_) (fun h4 hf => ?_)
  · refine z_tabIn (tgt := 47) S 1 dX9_now_1 (by rw [h4]; rfl) (by decide) rfl (by decide) ?_
    refine z_aload_n S 0 dX9_now_47 rfl rfl ?_
    refine z_getR (K' := 1) (n' := 0) S cf_7 h_x0 6 (by decide) rfl rfl rfl wd257 dX9_now_48 (fun h5 => ?_)
    refine z_getR (K' := 2) (n' := 0) S cf_1 h5 5 (by decide) rfl rfl rfl wd236 dX9_now_51 (fun h6 => ?_)
    refine z_getI S cf_2 h6 1 (by decide) rfl wd176 dX9_now_54 ?_
    exact z_iretP (v := (P.1 (P.2.2 (P.2.2 x0 6) 5) 1)) S M rfl dX9_now_57 hf
  refine z_tif hf (fun h7 hf => ?_) (fun h7 hf => ?_)
  · refine z_tabIn (tgt := 58) S 2 dX9_now_1 (by rw [h7]; rfl) (by decide) rfl (by decide) ?_
    refine z_aload_n S 0 dX9_now_58 rfl rfl ?_
    refine z_getR (K' := 1) (n' := 0) S cf_7 h_x0 6 (by decide) rfl rfl rfl wd257 dX9_now_59 (fun h8 => ?_)
    refine z_iconst (v := 0) S dX9_now_62 (by decide) ?_
    refine z_callVI (rc := r_X2_cutOff) [.int (0 : Int32)] S mo_X2_cutOff wd431 wd432 wd430 h8 (by decide) cl_1 rfl rfl (by decide) (z_room0 S M (by rfl) (by rfl)) rfl (Nat.le_of_ble_eq_true rfl) rfl dX9_now_63 (fun q => q) (fun _ => P) (fun q hq => m_X2_cutOff (xl x) E _ _ _ h8 q hq) hf (fun q9 hf => ?_)
    exact z_iretP (v := q9) S M rfl dX9_now_66 hf
  refine z_tif hf (fun h10 hf => ?_) (fun h10 hf => ?_)
  · refine z_tabIn (tgt := 67) S 3 dX9_now_1 (by rw [h10]; rfl) (by decide) rfl (by decide) ?_
    refine z_aload_n S 0 dX9_now_67 rfl rfl ?_
    refine z_getR (K' := 1) (n' := 0) S cf_7 h_x0 6 (by decide) rfl rfl rfl wd257 dX9_now_68 (fun h11 => ?_)
    refine z_getR (K' := 2) (n' := 0) S cf_1 h11 5 (by decide) rfl rfl rfl wd236 dX9_now_71 (fun h12 => ?_)
    refine z_getI S cf_2 h12 2 (by decide) rfl wd181 dX9_now_74 ?_
    exact z_iretP (v := (P.1 (P.2.2 (P.2.2 x0 6) 5) 2)) S M rfl dX9_now_77 hf
  refine z_tif hf (fun h13 hf => ?_) (fun h13 hf => ?_)
  · refine z_tabIn (tgt := 78) S 4 dX9_now_1 (by rw [h13]; rfl) (by decide) rfl (by decide) ?_
    refine z_aload_n S 0 dX9_now_78 rfl rfl ?_
    refine z_getR (K' := 0) (n' := 0) S cf_7 h_x0 1 (by decide) rfl rfl rfl wd252 dX9_now_79 (fun h14 => ?_)
    refine z_getI S cf_0 h14 0 (by decide) rfl wd106 dX9_now_82 ?_
    exact z_iretP (v := (P.1 (P.2.2 x0 1) 0)) S M rfl dX9_now_85 hf
  refine z_tabOut (tgt := 86) S dX9_now_1 (by have e0 := lv_neT h1 (a := 0) rfl; have e1 := lv_neT h4 (a := 1) rfl; have e2 := lv_neT h7 (a := 2) rfl; have e3 := lv_neT h10 (a := 3) rfl; have e4 := lv_neT h13 (a := 4) rfl; omega) (by decide) ?_
  refine z_iconst (v := (-1 : Int32)) S dX9_now_86 (by decide) ?_
  exact z_iretP (v := (-1 : Int32)) S M rfl dX9_now_87 hf
theorem m_X9_now (l : Launch) (E : Ev) (P : PH) (x0 : Nat) (x1 : Int32) (h_x0 : ok x0 7 0) (r : Int32) (hf : f_X9_now P x0 x1 = some r) : CtI l E yX9_now cX9_now 2 (some .int) r_X9_now [.ref (ad E x0), .int x1] P r P :=
  z_body (own := RX9) (by decide +kernel) rfl (Nat.le_of_ble_eq_true rfl) rfl (fun x _ S M => w_X9_now S M P x0 x1 h_x0 r hf)
-- yX9_day
theorem dX9_day_0 : decode cX9_day 0 = .ok (.aload_n 0, 1) := by decide +kernel
theorem dX9_day_1 : decode cX9_day 1 = .ok (.getfield 46, 3) := by decide +kernel
theorem dX9_day_4 : decode cX9_day 4 = .ok (.getfield 85, 3) := by decide +kernel
theorem dX9_day_7 : decode cX9_day 7 = .ok (.getfield 110, 3) := by decide +kernel
theorem dX9_day_10 : decode cX9_day 10 = .ok (.bipush 99, 2) := by decide +kernel
theorem dX9_day_12 : decode cX9_day 12 = .ok (.if_icmp .lt 6, 3) := by decide +kernel
theorem dX9_day_15 : decode cX9_day 15 = .ok (.bipush (-2), 2) := by decide +kernel
theorem dX9_day_17 : decode cX9_day 17 = .ok (.ireturn, 1) := by decide +kernel
theorem dX9_day_18 : decode cX9_day 18 = .ok (.aload_n 0, 1) := by decide +kernel
theorem dX9_day_19 : decode cX9_day 19 = .ok (.getfield 46, 3) := by decide +kernel
theorem dX9_day_22 : decode cX9_day 22 = .ok (.getfield 85, 3) := by decide +kernel
theorem dX9_day_25 : decode cX9_day 25 = .ok (.dup, 1) := by decide +kernel
theorem dX9_day_26 : decode cX9_day 26 = .ok (.getfield 110, 3) := by decide +kernel
theorem dX9_day_29 : decode cX9_day 29 = .ok (.iconst 1, 1) := by decide +kernel
theorem dX9_day_30 : decode cX9_day 30 = .ok (.iadd, 1) := by decide +kernel
theorem dX9_day_31 : decode cX9_day 31 = .ok (.putfield 110, 3) := by decide +kernel
theorem dX9_day_34 : decode cX9_day 34 = .ok (.aload_n 0, 1) := by decide +kernel
theorem dX9_day_35 : decode cX9_day 35 = .ok (.getfield 19, 3) := by decide +kernel
theorem dX9_day_38 : decode cX9_day 38 = .ok (.iconst 0, 1) := by decide +kernel
theorem dX9_day_39 : decode cX9_day 39 = .ok (.iconst 0, 1) := by decide +kernel
theorem dX9_day_40 : decode cX9_day 40 = .ok (.iconst 0, 1) := by decide +kernel
theorem dX9_day_41 : decode cX9_day 41 = .ok (.invokevirtual 150, 3) := by decide +kernel
theorem dX9_day_44 : decode cX9_day 44 = .ok (.aload_n 0, 1) := by decide +kernel
theorem dX9_day_45 : decode cX9_day 45 = .ok (.getfield 46, 3) := by decide +kernel
theorem dX9_day_48 : decode cX9_day 48 = .ok (.getfield 85, 3) := by decide +kernel
theorem dX9_day_51 : decode cX9_day 51 = .ok (.getfield 110, 3) := by decide +kernel
theorem dX9_day_54 : decode cX9_day 54 = .ok (.ireturn, 1) := by decide +kernel
def r_X9_day : Room := { frames := 3, cells := 0, slots := 0, locals := 69 }
def f_X9_day (P : PH) (x0 : Nat) : Option (Int32 × PH) :=
  (if (P.1 (P.2.2 (P.2.2 x0 6) 5) 0) < (99 : Int32) then ((some (sI P (P.2.2 (P.2.2 x0 6) 5) 0 ((P.1 (P.2.2 (P.2.2 x0 6) 5) 0) + (1 : Int32)))).bind fun P5 => ((f_X1_add P5 (P5.2.2 x0 1) (0 : Int32) (0 : Int32) (0 : Int32)).bind fun q7 => some ((q7.1 (q7.2.2 (q7.2.2 x0 6) 5) 0), q7))) else some ((-2 : Int32), P))
theorem w_X9_day {x : Fx} {E : Ev} (S : ZS x E r_X9_day cX9_day 1 RX9 (some .int)) (M : ZM x E) (P : PH) (x0 : Nat) (h_x0 : ok x0 7 0) (r : (Int32 × PH)) (hf : f_X9_day P x0 = some r) : Wz x E 1 (QI E x r.1 r.2) P 0 [(0, .ref (ad E x0))] [] := by
  unfold f_X9_day at hf
  refine z_aload_n S 0 dX9_day_0 rfl rfl ?_
  refine z_getR (K' := 1) (n' := 0) S cf_7 h_x0 6 (by decide) rfl rfl rfl wd257 dX9_day_1 (fun h1 => ?_)
  refine z_getR (K' := 2) (n' := 0) S cf_1 h1 5 (by decide) rfl rfl rfl wd236 dX9_day_4 (fun h2 => ?_)
  refine z_getI S cf_2 h2 0 (by decide) rfl wd169 dX9_day_7 ?_
  refine z_bipush (v := 99) S dX9_day_10 (by decide) ?_
  refine z_icmp_lt (tgt := 18) S dX9_day_12 (by decide) hf (fun hf => ?_) (fun hf => ?_)
  · refine z_aload_n S 0 dX9_day_18 rfl rfl ?_
    refine z_getR (K' := 1) (n' := 0) S cf_7 h_x0 6 (by decide) rfl rfl rfl wd257 dX9_day_19 (fun h3 => ?_)
    refine z_getR (K' := 2) (n' := 0) S cf_1 h3 5 (by decide) rfl rfl rfl wd236 dX9_day_22 (fun h4 => ?_)
    refine z_dup S dX9_day_25 rfl ?_
    refine z_getI S cf_2 h4 0 (by decide) rfl wd169 dX9_day_26 ?_
    refine z_iconst (v := 1) S dX9_day_29 (by decide) ?_
    refine z_iadd S dX9_day_30 ?_
    refine z_putI S cf_2 h4 0 (by decide) rfl rfl rfl rfl wd169 dX9_day_31 ?_
    refine z_nmP hf (fun P5 hf => ?_)
    refine z_aload_n S 0 dX9_day_34 rfl rfl ?_
    refine z_getR (K' := 0) (n' := 0) S cf_7 h_x0 1 (by decide) rfl rfl rfl wd252 dX9_day_35 (fun h6 => ?_)
    refine z_iconst (v := 0) S dX9_day_38 (by decide) ?_
    refine z_iconst (v := 0) S dX9_day_39 (by decide) ?_
    refine z_iconst (v := 0) S dX9_day_40 (by decide) ?_
    refine z_callVV (rc := r_X1_add) [.int (0 : Int32), .int (0 : Int32), .int (0 : Int32)] S mo_X1_add wd440 wd441 wd439 h6 (by decide) cl_0 rfl rfl (by decide) (z_room0 S M (by rfl) (by rfl)) rfl (Nat.le_of_ble_eq_true rfl) rfl dX9_day_41  (fun q => q) (fun q hq => m_X1_add (xl x) E _ _ _ _ _ h6 q hq) hf (fun q7 hf => ?_)
    refine z_aload_n S 0 dX9_day_44 rfl rfl ?_
    refine z_getR (K' := 1) (n' := 0) S cf_7 h_x0 6 (by decide) rfl rfl rfl wd257 dX9_day_45 (fun h8 => ?_)
    refine z_getR (K' := 2) (n' := 0) S cf_1 h8 5 (by decide) rfl rfl rfl wd236 dX9_day_48 (fun h9 => ?_)
    refine z_getI S cf_2 h9 0 (by decide) rfl wd169 dX9_day_51 ?_
    exact z_iretI (v := (q7.1 (q7.2.2 (q7.2.2 x0 6) 5) 0)) S M rfl dX9_day_54 hf
  · refine z_bipush (v := (-2 : Int32)) S dX9_day_15 (by decide) ?_
    exact z_iretI (v := (-2 : Int32)) S M rfl dX9_day_17 hf
theorem m_X9_day (l : Launch) (E : Ev) (P : PH) (x0 : Nat) (h_x0 : ok x0 7 0) (r : (Int32 × PH)) (hf : f_X9_day P x0 = some r) : CtI l E yX9_day cX9_day 1 (some .int) r_X9_day [.ref (ad E x0)] P r.1 r.2 :=
  z_body (own := RX9) (by decide +kernel) rfl (Nat.le_of_ble_eq_true rfl) rfl (fun x _ S M => w_X9_day S M P x0 h_x0 r hf)
-- yX9_dies
theorem dX9_dies_0 : decode cX9_dies 0 = .ok (.aload_n 0, 1) := by decide +kernel
theorem dX9_dies_1 : decode cX9_dies 1 = .ok (.getfield 46, 3) := by decide +kernel
theorem dX9_dies_4 : decode cX9_dies 4 = .ok (.iload_n 1, 1) := by decide +kernel
theorem dX9_dies_5 : decode cX9_dies 5 = .ok (.invokevirtual 79, 3) := by decide +kernel
theorem dX9_dies_8 : decode cX9_dies 8 = .ok (.ifCond .ne 5, 3) := by decide +kernel
theorem dX9_dies_11 : decode cX9_dies 11 = .ok (.iconst (-1), 1) := by decide +kernel
theorem dX9_dies_12 : decode cX9_dies 12 = .ok (.ireturn, 1) := by decide +kernel
theorem dX9_dies_13 : decode cX9_dies 13 = .ok (.aload_n 0, 1) := by decide +kernel
theorem dX9_dies_14 : decode cX9_dies 14 = .ok (.getfield 46, 3) := by decide +kernel
theorem dX9_dies_17 : decode cX9_dies 17 = .ok (.iload_n 1, 1) := by decide +kernel
theorem dX9_dies_18 : decode cX9_dies 18 = .ok (.invokevirtual 82, 3) := by decide +kernel
theorem dX9_dies_21 : decode cX9_dies 21 = .ok (.ifCond .ne 6, 3) := by decide +kernel
theorem dX9_dies_24 : decode cX9_dies 24 = .ok (.bipush (-2), 2) := by decide +kernel
theorem dX9_dies_26 : decode cX9_dies 26 = .ok (.ireturn, 1) := by decide +kernel
theorem dX9_dies_27 : decode cX9_dies 27 = .ok (.aload_n 0, 1) := by decide +kernel
theorem dX9_dies_28 : decode cX9_dies 28 = .ok (.getfield 46, 3) := by decide +kernel
theorem dX9_dies_31 : decode cX9_dies 31 = .ok (.getfield 85, 3) := by decide +kernel
theorem dX9_dies_34 : decode cX9_dies 34 = .ok (.dup, 1) := by decide +kernel
theorem dX9_dies_35 : decode cX9_dies 35 = .ok (.getfield 107, 3) := by decide +kernel
theorem dX9_dies_38 : decode cX9_dies 38 = .ok (.iconst 1, 1) := by decide +kernel
theorem dX9_dies_39 : decode cX9_dies 39 = .ok (.iload_n 1, 1) := by decide +kernel
theorem dX9_dies_40 : decode cX9_dies 40 = .ok (.ishl, 1) := by decide +kernel
theorem dX9_dies_41 : decode cX9_dies 41 = .ok (.iconst (-1), 1) := by decide +kernel
theorem dX9_dies_42 : decode cX9_dies 42 = .ok (.ixor, 1) := by decide +kernel
theorem dX9_dies_43 : decode cX9_dies 43 = .ok (.iand, 1) := by decide +kernel
theorem dX9_dies_44 : decode cX9_dies 44 = .ok (.putfield 107, 3) := by decide +kernel
theorem dX9_dies_47 : decode cX9_dies 47 = .ok (.aload_n 0, 1) := by decide +kernel
theorem dX9_dies_48 : decode cX9_dies 48 = .ok (.getfield 19, 3) := by decide +kernel
theorem dX9_dies_51 : decode cX9_dies 51 = .ok (.iconst 1, 1) := by decide +kernel
theorem dX9_dies_52 : decode cX9_dies 52 = .ok (.iload_n 1, 1) := by decide +kernel
theorem dX9_dies_53 : decode cX9_dies 53 = .ok (.iconst 0, 1) := by decide +kernel
theorem dX9_dies_54 : decode cX9_dies 54 = .ok (.invokevirtual 150, 3) := by decide +kernel
theorem dX9_dies_57 : decode cX9_dies 57 = .ok (.aload_n 0, 1) := by decide +kernel
theorem dX9_dies_58 : decode cX9_dies 58 = .ok (.getfield 46, 3) := by decide +kernel
theorem dX9_dies_61 : decode cX9_dies 61 = .ok (.getfield 85, 3) := by decide +kernel
theorem dX9_dies_64 : decode cX9_dies 64 = .ok (.getfield 107, 3) := by decide +kernel
theorem dX9_dies_67 : decode cX9_dies 67 = .ok (.invokestatic 153, 3) := by decide +kernel
theorem dX9_dies_70 : decode cX9_dies 70 = .ok (.ireturn, 1) := by decide +kernel
def r_X9_dies : Room := { frames := 3, cells := 0, slots := 0, locals := 69 }
def f_X9_dies (P : PH) (x0 : Nat) (x1 : Int32) : Option (Int32 × PH) :=
  ((f_X2_isPerson P (P.2.2 x0 6) x1).bind fun q2 => (if (b2i q2) = 0 then some ((-1 : Int32), P) else ((f_X2_lives P (P.2.2 x0 6) x1).bind fun q4 => (if (b2i q4) = 0 then some ((-2 : Int32), P) else ((some (sI P (P.2.2 (P.2.2 x0 6) 5) 1 ((P.1 (P.2.2 (P.2.2 x0 6) 5) 1) &&& (((1 : Int32) <<< (x1 &&& 31)) ^^^ (-1 : Int32))))).bind fun P7 => ((f_X1_add P7 (P7.2.2 x0 1) (1 : Int32) x1 (0 : Int32)).bind fun q9 => ((f_J6_bitCount_0f7a4 q9 (q9.1 (q9.2.2 (q9.2.2 x0 6) 5) 1)).bind fun q12 => some (q12, q9))))))))
theorem w_X9_dies {x : Fx} {E : Ev} (S : ZS x E r_X9_dies cX9_dies 2 RX9 (some .int)) (M : ZM x E) (P : PH) (x0 : Nat) (x1 : Int32) (h_x0 : ok x0 7 0) (r : (Int32 × PH)) (hf : f_X9_dies P x0 x1 = some r) : Wz x E 2 (QI E x r.1 r.2) P 0 [(0, .ref (ad E x0)), (1, .int x1)] [] := by
  unfold f_X9_dies at hf
  refine z_aload_n S 0 dX9_dies_0 rfl rfl ?_
  refine z_getR (K' := 1) (n' := 0) S cf_7 h_x0 6 (by decide) rfl rfl rfl wd257 dX9_dies_1 (fun h1 => ?_)
  refine z_iload_n S 1 dX9_dies_4 rfl rfl ?_
  refine z_callVI (rc := r_X2_isPerson) [.int x1] S mo_X2_isPerson wd334 wd335 wd365 h1 (by decide) cl_1 rfl rfl (by decide) (z_room0 S M (by rfl) (by rfl)) rfl (Nat.le_of_ble_eq_true rfl) rfl dX9_dies_5 (fun q => b2i q) (fun _ => P) (fun q hq => m_X2_isPerson (xl x) E _ _ _ h1 q hq) hf (fun q2 hf => ?_)
  refine z_if_ne (tgt := 13) S dX9_dies_8 (by decide) hf (fun hf => ?_) (fun hf => ?_)
  · refine z_iconst (v := (-1 : Int32)) S dX9_dies_11 (by decide) ?_
    exact z_iretI (v := (-1 : Int32)) S M rfl dX9_dies_12 hf
  · refine z_aload_n S 0 dX9_dies_13 rfl rfl ?_
    refine z_getR (K' := 1) (n' := 0) S cf_7 h_x0 6 (by decide) rfl rfl rfl wd257 dX9_dies_14 (fun h3 => ?_)
    refine z_iload_n S 1 dX9_dies_17 rfl rfl ?_
    refine z_callVI (rc := r_X2_lives) [.int x1] S mo_X2_lives wd367 wd368 wd366 h3 (by decide) cl_1 rfl rfl (by decide) (z_room0 S M (by rfl) (by rfl)) rfl (Nat.le_of_ble_eq_true rfl) rfl dX9_dies_18 (fun q => b2i q) (fun _ => P) (fun q hq => m_X2_lives (xl x) E _ _ _ h3 q hq) hf (fun q4 hf => ?_)
    refine z_if_ne (tgt := 27) S dX9_dies_21 (by decide) hf (fun hf => ?_) (fun hf => ?_)
    · refine z_bipush (v := (-2 : Int32)) S dX9_dies_24 (by decide) ?_
      exact z_iretI (v := (-2 : Int32)) S M rfl dX9_dies_26 hf
    · refine z_aload_n S 0 dX9_dies_27 rfl rfl ?_
      refine z_getR (K' := 1) (n' := 0) S cf_7 h_x0 6 (by decide) rfl rfl rfl wd257 dX9_dies_28 (fun h5 => ?_)
      refine z_getR (K' := 2) (n' := 0) S cf_1 h5 5 (by decide) rfl rfl rfl wd236 dX9_dies_31 (fun h6 => ?_)
      refine z_dup S dX9_dies_34 rfl ?_
      refine z_getI S cf_2 h6 1 (by decide) rfl wd176 dX9_dies_35 ?_
      refine z_iconst (v := 1) S dX9_dies_38 (by decide) ?_
      refine z_iload_n S 1 dX9_dies_39 rfl rfl ?_
      refine z_ishl S dX9_dies_40 ?_
      refine z_iconst (v := (-1 : Int32)) S dX9_dies_41 (by decide) ?_
      refine z_ixor S dX9_dies_42 ?_
      refine z_iand S dX9_dies_43 ?_
      refine z_putI S cf_2 h6 1 (by decide) rfl rfl rfl rfl wd176 dX9_dies_44 ?_
      refine z_nmP hf (fun P7 hf => ?_)
      refine z_aload_n S 0 dX9_dies_47 rfl rfl ?_
      refine z_getR (K' := 0) (n' := 0) S cf_7 h_x0 1 (by decide) rfl rfl rfl wd252 dX9_dies_48 (fun h8 => ?_)
      refine z_iconst (v := 1) S dX9_dies_51 (by decide) ?_
      refine z_iload_n S 1 dX9_dies_52 rfl rfl ?_
      refine z_iconst (v := 0) S dX9_dies_53 (by decide) ?_
      refine z_callVV (rc := r_X1_add) [.int (1 : Int32), .int x1, .int (0 : Int32)] S mo_X1_add wd440 wd441 wd439 h8 (by decide) cl_0 rfl rfl (by decide) (z_room0 S M (by rfl) (by rfl)) rfl (Nat.le_of_ble_eq_true rfl) rfl dX9_dies_54  (fun q => q) (fun q hq => m_X1_add (xl x) E _ _ _ _ _ h8 q hq) hf (fun q9 hf => ?_)
      refine z_aload_n S 0 dX9_dies_57 rfl rfl ?_
      refine z_getR (K' := 1) (n' := 0) S cf_7 h_x0 6 (by decide) rfl rfl rfl wd257 dX9_dies_58 (fun h10 => ?_)
      refine z_getR (K' := 2) (n' := 0) S cf_1 h10 5 (by decide) rfl rfl rfl wd236 dX9_dies_61 (fun h11 => ?_)
      refine z_getI S cf_2 h11 1 (by decide) rfl wd176 dX9_dies_64 ?_
      refine z_callSI (rc := r_J6_bitCount_0f7a4) [.int (q9.1 (q9.2.2 (q9.2.2 x0 6) 5) 1)] S mo_J6_bitCount_0f7a4 wd455 wd454 rfl rfl (by decide) (z_room0 S M (by rfl) (by rfl)) rfl (Nat.le_of_ble_eq_true rfl) rfl dX9_dies_67 (fun q => q) (fun _ => q9) (fun q hq => m_J6_bitCount_0f7a4 (xl x) E _ _  q hq) hf (fun q12 hf => ?_)
      exact z_iretI (v := q12) S M rfl dX9_dies_70 hf
theorem m_X9_dies (l : Launch) (E : Ev) (P : PH) (x0 : Nat) (x1 : Int32) (h_x0 : ok x0 7 0) (r : (Int32 × PH)) (hf : f_X9_dies P x0 x1 = some r) : CtI l E yX9_dies cX9_dies 2 (some .int) r_X9_dies [.ref (ad E x0), .int x1] P r.1 r.2 :=
  z_body (own := RX9) (by decide +kernel) rfl (Nat.le_of_ble_eq_true rfl) rfl (fun x _ S M => w_X9_dies S M P x0 x1 h_x0 r hf)
-- yX9_grants
theorem dX9_grants_0 : decode cX9_grants 0 = .ok (.aload_n 0, 1) := by decide +kernel
theorem dX9_grants_1 : decode cX9_grants 1 = .ok (.getfield 46, 3) := by decide +kernel
theorem dX9_grants_4 : decode cX9_grants 4 = .ok (.iload_n 1, 1) := by decide +kernel
theorem dX9_grants_5 : decode cX9_grants 5 = .ok (.invokevirtual 79, 3) := by decide +kernel
theorem dX9_grants_8 : decode cX9_grants 8 = .ok (.ifCond .eq 24, 3) := by decide +kernel
theorem dX9_grants_11 : decode cX9_grants 11 = .ok (.aload_n 0, 1) := by decide +kernel
theorem dX9_grants_12 : decode cX9_grants 12 = .ok (.getfield 46, 3) := by decide +kernel
theorem dX9_grants_15 : decode cX9_grants 15 = .ok (.iload_n 2, 1) := by decide +kernel
theorem dX9_grants_16 : decode cX9_grants 16 = .ok (.invokevirtual 117, 3) := by decide +kernel
theorem dX9_grants_19 : decode cX9_grants 19 = .ok (.ifCond .eq 13, 3) := by decide +kernel
theorem dX9_grants_22 : decode cX9_grants 22 = .ok (.iload_n 3, 1) := by decide +kernel
theorem dX9_grants_23 : decode cX9_grants 23 = .ok (.ifCond .lt 9, 3) := by decide +kernel
theorem dX9_grants_26 : decode cX9_grants 26 = .ok (.iload_n 3, 1) := by decide +kernel
theorem dX9_grants_27 : decode cX9_grants 27 = .ok (.bipush 99, 2) := by decide +kernel
theorem dX9_grants_29 : decode cX9_grants 29 = .ok (.if_icmp .le 5, 3) := by decide +kernel
theorem dX9_grants_32 : decode cX9_grants 32 = .ok (.iconst (-1), 1) := by decide +kernel
theorem dX9_grants_33 : decode cX9_grants 33 = .ok (.ireturn, 1) := by decide +kernel
theorem dX9_grants_34 : decode cX9_grants 34 = .ok (.aload_n 0, 1) := by decide +kernel
theorem dX9_grants_35 : decode cX9_grants 35 = .ok (.getfield 46, 3) := by decide +kernel
theorem dX9_grants_38 : decode cX9_grants 38 = .ok (.getfield 85, 3) := by decide +kernel
theorem dX9_grants_41 : decode cX9_grants 41 = .ok (.getfield 135, 3) := by decide +kernel
theorem dX9_grants_44 : decode cX9_grants 44 = .ok (.bipush 10, 2) := by decide +kernel
theorem dX9_grants_46 : decode cX9_grants 46 = .ok (.if_icmp .lt 6, 3) := by decide +kernel
theorem dX9_grants_49 : decode cX9_grants 49 = .ok (.bipush (-3), 2) := by decide +kernel
theorem dX9_grants_51 : decode cX9_grants 51 = .ok (.ireturn, 1) := by decide +kernel
theorem dX9_grants_52 : decode cX9_grants 52 = .ok (.aload_n 0, 1) := by decide +kernel
theorem dX9_grants_53 : decode cX9_grants 53 = .ok (.getfield 46, 3) := by decide +kernel
theorem dX9_grants_56 : decode cX9_grants 56 = .ok (.getfield 85, 3) := by decide +kernel
theorem dX9_grants_59 : decode cX9_grants 59 = .ok (.iload_n 1, 1) := by decide +kernel
theorem dX9_grants_60 : decode cX9_grants 60 = .ok (.iload_n 2, 1) := by decide +kernel
theorem dX9_grants_61 : decode cX9_grants 61 = .ok (.iload_n 3, 1) := by decide +kernel
theorem dX9_grants_62 : decode cX9_grants 62 = .ok (.invokevirtual 158, 3) := by decide +kernel
theorem dX9_grants_65 : decode cX9_grants 65 = .ok (.aload_n 0, 1) := by decide +kernel
theorem dX9_grants_66 : decode cX9_grants 66 = .ok (.getfield 19, 3) := by decide +kernel
theorem dX9_grants_69 : decode cX9_grants 69 = .ok (.iconst 2, 1) := by decide +kernel
theorem dX9_grants_70 : decode cX9_grants 70 = .ok (.iconst 0, 1) := by decide +kernel
theorem dX9_grants_71 : decode cX9_grants 71 = .ok (.iconst 0, 1) := by decide +kernel
theorem dX9_grants_72 : decode cX9_grants 72 = .ok (.invokevirtual 150, 3) := by decide +kernel
theorem dX9_grants_75 : decode cX9_grants 75 = .ok (.aload_n 0, 1) := by decide +kernel
theorem dX9_grants_76 : decode cX9_grants 76 = .ok (.getfield 46, 3) := by decide +kernel
theorem dX9_grants_79 : decode cX9_grants 79 = .ok (.getfield 85, 3) := by decide +kernel
theorem dX9_grants_82 : decode cX9_grants 82 = .ok (.getfield 135, 3) := by decide +kernel
theorem dX9_grants_85 : decode cX9_grants 85 = .ok (.ireturn, 1) := by decide +kernel
def r_X9_grants : Room := { frames := 3, cells := 0, slots := 0, locals := 69 }
def f_X9_grants (P : PH) (x0 : Nat) (x1 : Int32) (x2 : Int32) (x3 : Int32) : Option (Int32 × PH) :=
  ((f_X2_isPerson P (P.2.2 x0 6) x1).bind fun q2 => (if (b2i q2) = 0 then some ((-1 : Int32), P) else ((f_X2_isRoom P (P.2.2 x0 6) x2).bind fun q4 => (if (b2i q4) = 0 then some ((-1 : Int32), P) else (if x3 < 0 then some ((-1 : Int32), P) else (if x3 ≤ (99 : Int32) then (if (P.1 (P.2.2 (P.2.2 x0 6) 5) 2) < (10 : Int32) then ((f_X4_addRight P (P.2.2 (P.2.2 x0 6) 5) x1 x2 x3).bind fun q9 => ((f_X1_add q9 (q9.2.2 x0 1) (2 : Int32) (0 : Int32) (0 : Int32)).bind fun q11 => some ((q11.1 (q11.2.2 (q11.2.2 x0 6) 5) 2), q11))) else some ((-3 : Int32), P)) else some ((-1 : Int32), P)))))))
theorem w_X9_grants {x : Fx} {E : Ev} (S : ZS x E r_X9_grants cX9_grants 4 RX9 (some .int)) (M : ZM x E) (P : PH) (x0 : Nat) (x1 : Int32) (x2 : Int32) (x3 : Int32) (h_x0 : ok x0 7 0) (r : (Int32 × PH)) (hf : f_X9_grants P x0 x1 x2 x3 = some r) : Wz x E 4 (QI E x r.1 r.2) P 0 [(0, .ref (ad E x0)), (1, .int x1), (2, .int x2), (3, .int x3)] [] := by
  unfold f_X9_grants at hf
  refine z_aload_n S 0 dX9_grants_0 rfl rfl ?_
  refine z_getR (K' := 1) (n' := 0) S cf_7 h_x0 6 (by decide) rfl rfl rfl wd257 dX9_grants_1 (fun h1 => ?_)
  refine z_iload_n S 1 dX9_grants_4 rfl rfl ?_
  refine z_callVI (rc := r_X2_isPerson) [.int x1] S mo_X2_isPerson wd334 wd335 wd365 h1 (by decide) cl_1 rfl rfl (by decide) (z_room0 S M (by rfl) (by rfl)) rfl (Nat.le_of_ble_eq_true rfl) rfl dX9_grants_5 (fun q => b2i q) (fun _ => P) (fun q hq => m_X2_isPerson (xl x) E _ _ _ h1 q hq) hf (fun q2 hf => ?_)
  refine z_if_eq (tgt := 32) S dX9_grants_8 (by decide) hf (fun hf => ?_) (fun hf => ?_)
  · refine z_iconst (v := (-1 : Int32)) S dX9_grants_32 (by decide) ?_
    exact z_iretI (v := (-1 : Int32)) S M rfl dX9_grants_33 hf
  · refine z_aload_n S 0 dX9_grants_11 rfl rfl ?_
    refine z_getR (K' := 1) (n' := 0) S cf_7 h_x0 6 (by decide) rfl rfl rfl wd257 dX9_grants_12 (fun h3 => ?_)
    refine z_iload_n S 2 dX9_grants_15 rfl rfl ?_
    refine z_callVI (rc := r_X2_isRoom) [.int x2] S mo_X2_isRoom wd338 wd339 wd412 h3 (by decide) cl_1 rfl rfl (by decide) (z_room0 S M (by rfl) (by rfl)) rfl (Nat.le_of_ble_eq_true rfl) rfl dX9_grants_16 (fun q => b2i q) (fun _ => P) (fun q hq => m_X2_isRoom (xl x) E _ _ _ h3 q hq) hf (fun q4 hf => ?_)
    refine z_if_eq (tgt := 32) S dX9_grants_19 (by decide) hf (fun hf => ?_) (fun hf => ?_)
    · refine z_iconst (v := (-1 : Int32)) S dX9_grants_32 (by decide) ?_
      exact z_iretI (v := (-1 : Int32)) S M rfl dX9_grants_33 hf
    · refine z_iload_n S 3 dX9_grants_22 rfl rfl ?_
      refine z_if_lt (tgt := 32) S dX9_grants_23 (by decide) hf (fun hf => ?_) (fun hf => ?_)
      · refine z_iconst (v := (-1 : Int32)) S dX9_grants_32 (by decide) ?_
        exact z_iretI (v := (-1 : Int32)) S M rfl dX9_grants_33 hf
      · refine z_iload_n S 3 dX9_grants_26 rfl rfl ?_
        refine z_bipush (v := 99) S dX9_grants_27 (by decide) ?_
        refine z_icmp_le (tgt := 34) S dX9_grants_29 (by decide) hf (fun hf => ?_) (fun hf => ?_)
        · refine z_aload_n S 0 dX9_grants_34 rfl rfl ?_
          refine z_getR (K' := 1) (n' := 0) S cf_7 h_x0 6 (by decide) rfl rfl rfl wd257 dX9_grants_35 (fun h5 => ?_)
          refine z_getR (K' := 2) (n' := 0) S cf_1 h5 5 (by decide) rfl rfl rfl wd236 dX9_grants_38 (fun h6 => ?_)
          refine z_getI S cf_2 h6 2 (by decide) rfl wd181 dX9_grants_41 ?_
          refine z_bipush (v := 10) S dX9_grants_44 (by decide) ?_
          refine z_icmp_lt (tgt := 52) S dX9_grants_46 (by decide) hf (fun hf => ?_) (fun hf => ?_)
          · refine z_aload_n S 0 dX9_grants_52 rfl rfl ?_
            refine z_getR (K' := 1) (n' := 0) S cf_7 h_x0 6 (by decide) rfl rfl rfl wd257 dX9_grants_53 (fun h7 => ?_)
            refine z_getR (K' := 2) (n' := 0) S cf_1 h7 5 (by decide) rfl rfl rfl wd236 dX9_grants_56 (fun h8 => ?_)
            refine z_iload_n S 1 dX9_grants_59 rfl rfl ?_
            refine z_iload_n S 2 dX9_grants_60 rfl rfl ?_
            refine z_iload_n S 3 dX9_grants_61 rfl rfl ?_
            refine z_callVV (rc := r_X4_addRight) [.int x1, .int x2, .int x3] S mo_X4_addRight wd358 wd359 wd464 h8 (by decide) cl_2 rfl rfl (by decide) (z_room0 S M (by rfl) (by rfl)) rfl (Nat.le_of_ble_eq_true rfl) rfl dX9_grants_62  (fun q => q) (fun q hq => m_X4_addRight (xl x) E _ _ _ _ _ h8 q hq) hf (fun q9 hf => ?_)
            refine z_aload_n S 0 dX9_grants_65 rfl rfl ?_
            refine z_getR (K' := 0) (n' := 0) S cf_7 h_x0 1 (by decide) rfl rfl rfl wd252 dX9_grants_66 (fun h10 => ?_)
            refine z_iconst (v := 2) S dX9_grants_69 (by decide) ?_
            refine z_iconst (v := 0) S dX9_grants_70 (by decide) ?_
            refine z_iconst (v := 0) S dX9_grants_71 (by decide) ?_
            refine z_callVV (rc := r_X1_add) [.int (2 : Int32), .int (0 : Int32), .int (0 : Int32)] S mo_X1_add wd440 wd441 wd439 h10 (by decide) cl_0 rfl rfl (by decide) (z_room0 S M (by rfl) (by rfl)) rfl (Nat.le_of_ble_eq_true rfl) rfl dX9_grants_72  (fun q => q) (fun q hq => m_X1_add (xl x) E _ _ _ _ _ h10 q hq) hf (fun q11 hf => ?_)
            refine z_aload_n S 0 dX9_grants_75 rfl rfl ?_
            refine z_getR (K' := 1) (n' := 0) S cf_7 h_x0 6 (by decide) rfl rfl rfl wd257 dX9_grants_76 (fun h12 => ?_)
            refine z_getR (K' := 2) (n' := 0) S cf_1 h12 5 (by decide) rfl rfl rfl wd236 dX9_grants_79 (fun h13 => ?_)
            refine z_getI S cf_2 h13 2 (by decide) rfl wd181 dX9_grants_82 ?_
            exact z_iretI (v := (q11.1 (q11.2.2 (q11.2.2 x0 6) 5) 2)) S M rfl dX9_grants_85 hf
          · refine z_bipush (v := (-3 : Int32)) S dX9_grants_49 (by decide) ?_
            exact z_iretI (v := (-3 : Int32)) S M rfl dX9_grants_51 hf
        · refine z_iconst (v := (-1 : Int32)) S dX9_grants_32 (by decide) ?_
          exact z_iretI (v := (-1 : Int32)) S M rfl dX9_grants_33 hf
theorem m_X9_grants (l : Launch) (E : Ev) (P : PH) (x0 : Nat) (x1 : Int32) (x2 : Int32) (x3 : Int32) (h_x0 : ok x0 7 0) (r : (Int32 × PH)) (hf : f_X9_grants P x0 x1 x2 x3 = some r) : CtI l E yX9_grants cX9_grants 4 (some .int) r_X9_grants [.ref (ad E x0), .int x1, .int x2, .int x3] P r.1 r.2 :=
  z_body (own := RX9) (by decide +kernel) rfl (Nat.le_of_ble_eq_true rfl) rfl (fun x _ S M => w_X9_grants S M P x0 x1 x2 x3 h_x0 r hf)
-- yX9_exchanges
theorem dX9_exchanges_0 : decode cX9_exchanges 0 = .ok (.aload_n 0, 1) := by decide +kernel
theorem dX9_exchanges_1 : decode cX9_exchanges 1 = .ok (.getfield 46, 3) := by decide +kernel
theorem dX9_exchanges_4 : decode cX9_exchanges 4 = .ok (.iload_n 1, 1) := by decide +kernel
theorem dX9_exchanges_5 : decode cX9_exchanges 5 = .ok (.invokevirtual 117, 3) := by decide +kernel
theorem dX9_exchanges_8 : decode cX9_exchanges 8 = .ok (.ifCond .eq 19, 3) := by decide +kernel
theorem dX9_exchanges_11 : decode cX9_exchanges 11 = .ok (.aload_n 0, 1) := by decide +kernel
theorem dX9_exchanges_12 : decode cX9_exchanges 12 = .ok (.getfield 46, 3) := by decide +kernel
theorem dX9_exchanges_15 : decode cX9_exchanges 15 = .ok (.iload_n 2, 1) := by decide +kernel
theorem dX9_exchanges_16 : decode cX9_exchanges 16 = .ok (.invokevirtual 117, 3) := by decide +kernel
theorem dX9_exchanges_19 : decode cX9_exchanges 19 = .ok (.ifCond .eq 8, 3) := by decide +kernel
theorem dX9_exchanges_22 : decode cX9_exchanges 22 = .ok (.iload_n 1, 1) := by decide +kernel
theorem dX9_exchanges_23 : decode cX9_exchanges 23 = .ok (.iload_n 2, 1) := by decide +kernel
theorem dX9_exchanges_24 : decode cX9_exchanges 24 = .ok (.if_icmp .ne 5, 3) := by decide +kernel
theorem dX9_exchanges_27 : decode cX9_exchanges 27 = .ok (.iconst (-1), 1) := by decide +kernel
theorem dX9_exchanges_28 : decode cX9_exchanges 28 = .ok (.ireturn, 1) := by decide +kernel
theorem dX9_exchanges_29 : decode cX9_exchanges 29 = .ok (.aload_n 0, 1) := by decide +kernel
theorem dX9_exchanges_30 : decode cX9_exchanges 30 = .ok (.getfield 46, 3) := by decide +kernel
theorem dX9_exchanges_33 : decode cX9_exchanges 33 = .ok (.getfield 85, 3) := by decide +kernel
theorem dX9_exchanges_36 : decode cX9_exchanges 36 = .ok (.iload_n 1, 1) := by decide +kernel
theorem dX9_exchanges_37 : decode cX9_exchanges 37 = .ok (.iload_n 2, 1) := by decide +kernel
theorem dX9_exchanges_38 : decode cX9_exchanges 38 = .ok (.invokevirtual 161, 3) := by decide +kernel
theorem dX9_exchanges_41 : decode cX9_exchanges 41 = .ok (.aload_n 0, 1) := by decide +kernel
theorem dX9_exchanges_42 : decode cX9_exchanges 42 = .ok (.getfield 19, 3) := by decide +kernel
theorem dX9_exchanges_45 : decode cX9_exchanges 45 = .ok (.iconst 3, 1) := by decide +kernel
theorem dX9_exchanges_46 : decode cX9_exchanges 46 = .ok (.iload_n 1, 1) := by decide +kernel
theorem dX9_exchanges_47 : decode cX9_exchanges 47 = .ok (.iload_n 2, 1) := by decide +kernel
theorem dX9_exchanges_48 : decode cX9_exchanges 48 = .ok (.invokevirtual 150, 3) := by decide +kernel
theorem dX9_exchanges_51 : decode cX9_exchanges 51 = .ok (.aload_n 0, 1) := by decide +kernel
theorem dX9_exchanges_52 : decode cX9_exchanges 52 = .ok (.getfield 46, 3) := by decide +kernel
theorem dX9_exchanges_55 : decode cX9_exchanges 55 = .ok (.getfield 85, 3) := by decide +kernel
theorem dX9_exchanges_58 : decode cX9_exchanges 58 = .ok (.getfield 120, 3) := by decide +kernel
theorem dX9_exchanges_61 : decode cX9_exchanges 61 = .ok (.iload_n 1, 1) := by decide +kernel
theorem dX9_exchanges_62 : decode cX9_exchanges 62 = .ok (.iaload, 1) := by decide +kernel
theorem dX9_exchanges_63 : decode cX9_exchanges 63 = .ok (.ireturn, 1) := by decide +kernel
def r_X9_exchanges : Room := { frames := 3, cells := 0, slots := 0, locals := 69 }
def f_X9_exchanges (P : PH) (x0 : Nat) (x1 : Int32) (x2 : Int32) : Option (Int32 × PH) :=
  ((f_X2_isRoom P (P.2.2 x0 6) x1).bind fun q2 => (if (b2i q2) = 0 then some ((-1 : Int32), P) else ((f_X2_isRoom P (P.2.2 x0 6) x2).bind fun q4 => (if (b2i q4) = 0 then some ((-1 : Int32), P) else (if x1 = x2 then some ((-1 : Int32), P) else ((f_X4_swap P (P.2.2 (P.2.2 x0 6) 5) x1 x2).bind fun q7 => ((f_X1_add q7 (q7.2.2 x0 1) (3 : Int32) x1 x2).bind fun q9 => (if (x1 < 0 ∨ 7 ≤ x1.toNatClampNeg) then none else some ((q9.1 (q9.2.2 (q9.2.2 (q9.2.2 x0 6) 5) 4) x1.toNatClampNeg), q9)))))))))
theorem w_X9_exchanges {x : Fx} {E : Ev} (S : ZS x E r_X9_exchanges cX9_exchanges 3 RX9 (some .int)) (M : ZM x E) (P : PH) (x0 : Nat) (x1 : Int32) (x2 : Int32) (h_x0 : ok x0 7 0) (r : (Int32 × PH)) (hf : f_X9_exchanges P x0 x1 x2 = some r) : Wz x E 3 (QI E x r.1 r.2) P 0 [(0, .ref (ad E x0)), (1, .int x1), (2, .int x2)] [] := by
  unfold f_X9_exchanges at hf
  refine z_aload_n S 0 dX9_exchanges_0 rfl rfl ?_
  refine z_getR (K' := 1) (n' := 0) S cf_7 h_x0 6 (by decide) rfl rfl rfl wd257 dX9_exchanges_1 (fun h1 => ?_)
  refine z_iload_n S 1 dX9_exchanges_4 rfl rfl ?_
  refine z_callVI (rc := r_X2_isRoom) [.int x1] S mo_X2_isRoom wd338 wd339 wd412 h1 (by decide) cl_1 rfl rfl (by decide) (z_room0 S M (by rfl) (by rfl)) rfl (Nat.le_of_ble_eq_true rfl) rfl dX9_exchanges_5 (fun q => b2i q) (fun _ => P) (fun q hq => m_X2_isRoom (xl x) E _ _ _ h1 q hq) hf (fun q2 hf => ?_)
  refine z_if_eq (tgt := 27) S dX9_exchanges_8 (by decide) hf (fun hf => ?_) (fun hf => ?_)
  · refine z_iconst (v := (-1 : Int32)) S dX9_exchanges_27 (by decide) ?_
    exact z_iretI (v := (-1 : Int32)) S M rfl dX9_exchanges_28 hf
  · refine z_aload_n S 0 dX9_exchanges_11 rfl rfl ?_
    refine z_getR (K' := 1) (n' := 0) S cf_7 h_x0 6 (by decide) rfl rfl rfl wd257 dX9_exchanges_12 (fun h3 => ?_)
    refine z_iload_n S 2 dX9_exchanges_15 rfl rfl ?_
    refine z_callVI (rc := r_X2_isRoom) [.int x2] S mo_X2_isRoom wd338 wd339 wd412 h3 (by decide) cl_1 rfl rfl (by decide) (z_room0 S M (by rfl) (by rfl)) rfl (Nat.le_of_ble_eq_true rfl) rfl dX9_exchanges_16 (fun q => b2i q) (fun _ => P) (fun q hq => m_X2_isRoom (xl x) E _ _ _ h3 q hq) hf (fun q4 hf => ?_)
    refine z_if_eq (tgt := 27) S dX9_exchanges_19 (by decide) hf (fun hf => ?_) (fun hf => ?_)
    · refine z_iconst (v := (-1 : Int32)) S dX9_exchanges_27 (by decide) ?_
      exact z_iretI (v := (-1 : Int32)) S M rfl dX9_exchanges_28 hf
    · refine z_iload_n S 1 dX9_exchanges_22 rfl rfl ?_
      refine z_iload_n S 2 dX9_exchanges_23 rfl rfl ?_
      refine z_icmp_ne (tgt := 29) S dX9_exchanges_24 (by decide) hf (fun hf => ?_) (fun hf => ?_)
      · refine z_iconst (v := (-1 : Int32)) S dX9_exchanges_27 (by decide) ?_
        exact z_iretI (v := (-1 : Int32)) S M rfl dX9_exchanges_28 hf
      · refine z_aload_n S 0 dX9_exchanges_29 rfl rfl ?_
        refine z_getR (K' := 1) (n' := 0) S cf_7 h_x0 6 (by decide) rfl rfl rfl wd257 dX9_exchanges_30 (fun h5 => ?_)
        refine z_getR (K' := 2) (n' := 0) S cf_1 h5 5 (by decide) rfl rfl rfl wd236 dX9_exchanges_33 (fun h6 => ?_)
        refine z_iload_n S 1 dX9_exchanges_36 rfl rfl ?_
        refine z_iload_n S 2 dX9_exchanges_37 rfl rfl ?_
        refine z_callVV (rc := r_X4_swap) [.int x1, .int x2] S mo_X4_swap wd470 wd471 wd469 h6 (by decide) cl_2 rfl rfl (by decide) (z_room0 S M (by rfl) (by rfl)) rfl (Nat.le_of_ble_eq_true rfl) rfl dX9_exchanges_38  (fun q => q) (fun q hq => m_X4_swap (xl x) E _ _ _ _ h6 q hq) hf (fun q7 hf => ?_)
        refine z_aload_n S 0 dX9_exchanges_41 rfl rfl ?_
        refine z_getR (K' := 0) (n' := 0) S cf_7 h_x0 1 (by decide) rfl rfl rfl wd252 dX9_exchanges_42 (fun h8 => ?_)
        refine z_iconst (v := 3) S dX9_exchanges_45 (by decide) ?_
        refine z_iload_n S 1 dX9_exchanges_46 rfl rfl ?_
        refine z_iload_n S 2 dX9_exchanges_47 rfl rfl ?_
        refine z_callVV (rc := r_X1_add) [.int (3 : Int32), .int x1, .int x2] S mo_X1_add wd440 wd441 wd439 h8 (by decide) cl_0 rfl rfl (by decide) (z_room0 S M (by rfl) (by rfl)) rfl (Nat.le_of_ble_eq_true rfl) rfl dX9_exchanges_48  (fun q => q) (fun q hq => m_X1_add (xl x) E _ _ _ _ _ h8 q hq) hf (fun q9 hf => ?_)
        refine z_aload_n S 0 dX9_exchanges_51 rfl rfl ?_
        refine z_getR (K' := 1) (n' := 0) S cf_7 h_x0 6 (by decide) rfl rfl rfl wd257 dX9_exchanges_52 (fun h10 => ?_)
        refine z_getR (K' := 2) (n' := 0) S cf_1 h10 5 (by decide) rfl rfl rfl wd236 dX9_exchanges_55 (fun h11 => ?_)
        refine z_getR (K' := 9) (n' := 7) S cf_2 h11 4 (by decide) rfl rfl rfl wd189 dX9_exchanges_58 (fun h12 => ?_)
        refine z_iload_n S 1 dX9_exchanges_61 rfl rfl ?_
        refine z_iald S h12 dX9_exchanges_62 hf (fun hf => ?_)
        exact z_iretI (v := (q9.1 (q9.2.2 (q9.2.2 (q9.2.2 x0 6) 5) 4) x1.toNatClampNeg)) S M rfl dX9_exchanges_63 hf
theorem m_X9_exchanges (l : Launch) (E : Ev) (P : PH) (x0 : Nat) (x1 : Int32) (x2 : Int32) (h_x0 : ok x0 7 0) (r : (Int32 × PH)) (hf : f_X9_exchanges P x0 x1 x2 = some r) : CtI l E yX9_exchanges cX9_exchanges 3 (some .int) r_X9_exchanges [.ref (ad E x0), .int x1, .int x2] P r.1 r.2 :=
  z_body (own := RX9) (by decide +kernel) rfl (Nat.le_of_ble_eq_true rfl) rfl (fun x _ S M => w_X9_exchanges S M P x0 x1 x2 h_x0 r hf)
-- yX9_wills
theorem dX9_wills_0 : decode cX9_wills 0 = .ok (.aload_n 0, 1) := by decide +kernel
theorem dX9_wills_1 : decode cX9_wills 1 = .ok (.getfield 46, 3) := by decide +kernel
theorem dX9_wills_4 : decode cX9_wills 4 = .ok (.iload_n 1, 1) := by decide +kernel
theorem dX9_wills_5 : decode cX9_wills 5 = .ok (.invokevirtual 79, 3) := by decide +kernel
theorem dX9_wills_8 : decode cX9_wills 8 = .ok (.ifCond .eq 10, 3) := by decide +kernel
theorem dX9_wills_11 : decode cX9_wills 11 = .ok (.iload_n 2, 1) := by decide +kernel
theorem dX9_wills_12 : decode cX9_wills 12 = .ok (.invokestatic 165, 3) := by decide +kernel
theorem dX9_wills_15 : decode cX9_wills 15 = .ok (.ifCond .ne 5, 3) := by decide +kernel
theorem dX9_wills_18 : decode cX9_wills 18 = .ok (.iconst (-1), 1) := by decide +kernel
theorem dX9_wills_19 : decode cX9_wills 19 = .ok (.ireturn, 1) := by decide +kernel
theorem dX9_wills_20 : decode cX9_wills 20 = .ok (.aload_n 0, 1) := by decide +kernel
theorem dX9_wills_21 : decode cX9_wills 21 = .ok (.getfield 46, 3) := by decide +kernel
theorem dX9_wills_24 : decode cX9_wills 24 = .ok (.getfield 85, 3) := by decide +kernel
theorem dX9_wills_27 : decode cX9_wills 27 = .ok (.getfield 89, 3) := by decide +kernel
theorem dX9_wills_30 : decode cX9_wills 30 = .ok (.iload_n 1, 1) := by decide +kernel
theorem dX9_wills_31 : decode cX9_wills 31 = .ok (.iaload, 1) := by decide +kernel
theorem dX9_wills_32 : decode cX9_wills 32 = .ok (.istore_n 3, 1) := by decide +kernel
theorem dX9_wills_33 : decode cX9_wills 33 = .ok (.aload_n 0, 1) := by decide +kernel
theorem dX9_wills_34 : decode cX9_wills 34 = .ok (.getfield 46, 3) := by decide +kernel
theorem dX9_wills_37 : decode cX9_wills 37 = .ok (.getfield 85, 3) := by decide +kernel
theorem dX9_wills_40 : decode cX9_wills 40 = .ok (.getfield 89, 3) := by decide +kernel
theorem dX9_wills_43 : decode cX9_wills 43 = .ok (.iload_n 1, 1) := by decide +kernel
theorem dX9_wills_44 : decode cX9_wills 44 = .ok (.iload_n 2, 1) := by decide +kernel
theorem dX9_wills_45 : decode cX9_wills 45 = .ok (.iastore, 1) := by decide +kernel
theorem dX9_wills_46 : decode cX9_wills 46 = .ok (.aload_n 0, 1) := by decide +kernel
theorem dX9_wills_47 : decode cX9_wills 47 = .ok (.getfield 19, 3) := by decide +kernel
theorem dX9_wills_50 : decode cX9_wills 50 = .ok (.iconst 4, 1) := by decide +kernel
theorem dX9_wills_51 : decode cX9_wills 51 = .ok (.iload_n 1, 1) := by decide +kernel
theorem dX9_wills_52 : decode cX9_wills 52 = .ok (.iload_n 3, 1) := by decide +kernel
theorem dX9_wills_53 : decode cX9_wills 53 = .ok (.invokevirtual 150, 3) := by decide +kernel
theorem dX9_wills_56 : decode cX9_wills 56 = .ok (.iload_n 3, 1) := by decide +kernel
theorem dX9_wills_57 : decode cX9_wills 57 = .ok (.ireturn, 1) := by decide +kernel
def r_X9_wills : Room := { frames := 3, cells := 0, slots := 0, locals := 69 }
def f_X9_wills (P : PH) (x0 : Nat) (x1 : Int32) (x2 : Int32) : Option (Int32 × PH) :=
  ((f_X2_isPerson P (P.2.2 x0 6) x1).bind fun q2 => (if (b2i q2) = 0 then some ((-1 : Int32), P) else ((f_X2_canBeHeir P x2).bind fun q3 => (if (b2i q3) = 0 then some ((-1 : Int32), P) else (if (x1 < 0 ∨ 6 ≤ x1.toNatClampNeg) then none else (if (x1 < 0 ∨ 6 ≤ x1.toNatClampNeg) then none else ((some (sI P (P.2.2 (P.2.2 (P.2.2 x0 6) 5) 3) x1.toNatClampNeg x2)).bind fun P10 => ((f_X1_add P10 (P10.2.2 x0 1) (4 : Int32) x1 (P.1 (P.2.2 (P.2.2 (P.2.2 x0 6) 5) 3) x1.toNatClampNeg)).bind fun q12 => some ((P.1 (P.2.2 (P.2.2 (P.2.2 x0 6) 5) 3) x1.toNatClampNeg), q12)))))))))
theorem w_X9_wills {x : Fx} {E : Ev} (S : ZS x E r_X9_wills cX9_wills 4 RX9 (some .int)) (M : ZM x E) (P : PH) (x0 : Nat) (x1 : Int32) (x2 : Int32) (h_x0 : ok x0 7 0) (r : (Int32 × PH)) (hf : f_X9_wills P x0 x1 x2 = some r) : Wz x E 4 (QI E x r.1 r.2) P 0 [(0, .ref (ad E x0)), (1, .int x1), (2, .int x2)] [] := by
  unfold f_X9_wills at hf
  refine z_aload_n S 0 dX9_wills_0 rfl rfl ?_
  refine z_getR (K' := 1) (n' := 0) S cf_7 h_x0 6 (by decide) rfl rfl rfl wd257 dX9_wills_1 (fun h1 => ?_)
  refine z_iload_n S 1 dX9_wills_4 rfl rfl ?_
  refine z_callVI (rc := r_X2_isPerson) [.int x1] S mo_X2_isPerson wd334 wd335 wd365 h1 (by decide) cl_1 rfl rfl (by decide) (z_room0 S M (by rfl) (by rfl)) rfl (Nat.le_of_ble_eq_true rfl) rfl dX9_wills_5 (fun q => b2i q) (fun _ => P) (fun q hq => m_X2_isPerson (xl x) E _ _ _ h1 q hq) hf (fun q2 hf => ?_)
  refine z_if_eq (tgt := 18) S dX9_wills_8 (by decide) hf (fun hf => ?_) (fun hf => ?_)
  · refine z_iconst (v := (-1 : Int32)) S dX9_wills_18 (by decide) ?_
    exact z_iretI (v := (-1 : Int32)) S M rfl dX9_wills_19 hf
  · refine z_iload_n S 2 dX9_wills_11 rfl rfl ?_
    refine z_callSI (rc := r_X2_canBeHeir) [.int x2] S mo_X2_canBeHeir wd331 wd477 rfl rfl (by decide) (z_room0 S M (by rfl) (by rfl)) rfl (Nat.le_of_ble_eq_true rfl) rfl dX9_wills_12 (fun q => b2i q) (fun _ => P) (fun q hq => m_X2_canBeHeir (xl x) E _ _  q hq) hf (fun q3 hf => ?_)
    refine z_if_ne (tgt := 20) S dX9_wills_15 (by decide) hf (fun hf => ?_) (fun hf => ?_)
    · refine z_iconst (v := (-1 : Int32)) S dX9_wills_18 (by decide) ?_
      exact z_iretI (v := (-1 : Int32)) S M rfl dX9_wills_19 hf
    · refine z_aload_n S 0 dX9_wills_20 rfl rfl ?_
      refine z_getR (K' := 1) (n' := 0) S cf_7 h_x0 6 (by decide) rfl rfl rfl wd257 dX9_wills_21 (fun h4 => ?_)
      refine z_getR (K' := 2) (n' := 0) S cf_1 h4 5 (by decide) rfl rfl rfl wd236 dX9_wills_24 (fun h5 => ?_)
      refine z_getR (K' := 9) (n' := 6) S cf_2 h5 3 (by decide) rfl rfl rfl wd186 dX9_wills_27 (fun h6 => ?_)
      refine z_iload_n S 1 dX9_wills_30 rfl rfl ?_
      refine z_iald S h6 dX9_wills_31 hf (fun hf => ?_)
      refine z_istore_n (lv' := [(3, .int (P.1 (P.2.2 (P.2.2 (P.2.2 x0 6) 5) 3) x1.toNatClampNeg)), (0, .ref (ad E x0)), (1, .int x1), (2, .int x2)]) S dX9_wills_32 rfl (by decide) rfl ?_
      refine z_aload_n S 1 dX9_wills_33 rfl rfl ?_
      refine z_getR (K' := 1) (n' := 0) S cf_7 h_x0 6 (by decide) rfl rfl rfl wd257 dX9_wills_34 (fun h7 => ?_)
      refine z_getR (K' := 2) (n' := 0) S cf_1 h7 5 (by decide) rfl rfl rfl wd236 dX9_wills_37 (fun h8 => ?_)
      refine z_getR (K' := 9) (n' := 6) S cf_2 h8 3 (by decide) rfl rfl rfl wd186 dX9_wills_40 (fun h9 => ?_)
      refine z_iload_n S 2 dX9_wills_43 rfl rfl ?_
      refine z_iload_n S 3 dX9_wills_44 rfl rfl ?_
      refine z_iast S h9 dX9_wills_45 hf (fun hf => ?_)
      refine z_nmP hf (fun P10 hf => ?_)
      refine z_aload_n S 1 dX9_wills_46 rfl rfl ?_
      refine z_getR (K' := 0) (n' := 0) S cf_7 h_x0 1 (by decide) rfl rfl rfl wd252 dX9_wills_47 (fun h11 => ?_)
      refine z_iconst (v := 4) S dX9_wills_50 (by decide) ?_
      refine z_iload_n S 2 dX9_wills_51 rfl rfl ?_
      refine z_iload_n S 0 dX9_wills_52 rfl rfl ?_
      refine z_callVV (rc := r_X1_add) [.int (4 : Int32), .int x1, .int (P.1 (P.2.2 (P.2.2 (P.2.2 x0 6) 5) 3) x1.toNatClampNeg)] S mo_X1_add wd440 wd441 wd439 h11 (by decide) cl_0 rfl rfl (by decide) (z_room0 S M (by rfl) (by rfl)) rfl (Nat.le_of_ble_eq_true rfl) rfl dX9_wills_53  (fun q => q) (fun q hq => m_X1_add (xl x) E _ _ _ _ _ h11 q hq) hf (fun q12 hf => ?_)
      refine z_iload_n S 0 dX9_wills_56 rfl rfl ?_
      exact z_iretI (v := (P.1 (P.2.2 (P.2.2 (P.2.2 x0 6) 5) 3) x1.toNatClampNeg)) S M rfl dX9_wills_57 hf
theorem m_X9_wills (l : Launch) (E : Ev) (P : PH) (x0 : Nat) (x1 : Int32) (x2 : Int32) (h_x0 : ok x0 7 0) (r : (Int32 × PH)) (hf : f_X9_wills P x0 x1 x2 = some r) : CtI l E yX9_wills cX9_wills 4 (some .int) r_X9_wills [.ref (ad E x0), .int x1, .int x2] P r.1 r.2 :=
  z_body (own := RX9) (by decide +kernel) rfl (Nat.le_of_ble_eq_true rfl) rfl (fun x _ S M => w_X9_wills S M P x0 x1 x2 h_x0 r hf)
-- yX9_undo
theorem dX9_undo_0 : decode cX9_undo 0 = .ok (.aload_n 0, 1) := by decide +kernel
theorem dX9_undo_1 : decode cX9_undo 1 = .ok (.getfield 19, 3) := by decide +kernel
theorem dX9_undo_4 : decode cX9_undo 4 = .ok (.getfield 75, 3) := by decide +kernel
theorem dX9_undo_7 : decode cX9_undo 7 = .ok (.ifCond .ne 6, 3) := by decide +kernel
theorem dX9_undo_10 : decode cX9_undo 10 = .ok (.bipush (-2), 2) := by decide +kernel
theorem dX9_undo_12 : decode cX9_undo 12 = .ok (.ireturn, 1) := by decide +kernel
theorem dX9_undo_13 : decode cX9_undo 13 = .ok (.aload_n 0, 1) := by decide +kernel
theorem dX9_undo_14 : decode cX9_undo 14 = .ok (.getfield 19, 3) := by decide +kernel
theorem dX9_undo_17 : decode cX9_undo 17 = .ok (.aload_n 0, 1) := by decide +kernel
theorem dX9_undo_18 : decode cX9_undo 18 = .ok (.getfield 46, 3) := by decide +kernel
theorem dX9_undo_21 : decode cX9_undo 21 = .ok (.getfield 85, 3) := by decide +kernel
theorem dX9_undo_24 : decode cX9_undo 24 = .ok (.invokevirtual 168, 3) := by decide +kernel
theorem dX9_undo_27 : decode cX9_undo 27 = .ok (.aload_n 0, 1) := by decide +kernel
theorem dX9_undo_28 : decode cX9_undo 28 = .ok (.getfield 19, 3) := by decide +kernel
theorem dX9_undo_31 : decode cX9_undo 31 = .ok (.getfield 75, 3) := by decide +kernel
theorem dX9_undo_34 : decode cX9_undo 34 = .ok (.ireturn, 1) := by decide +kernel
def r_X9_undo : Room := { frames := 2, cells := 0, slots := 0, locals := 46 }
def f_X9_undo (P : PH) (x0 : Nat) : Option (Int32 × PH) :=
  (if (P.1 (P.2.2 x0 1) 0) = 0 then some ((-2 : Int32), P) else ((f_X1_takeBack P (P.2.2 x0 1) (P.2.2 (P.2.2 x0 6) 5)).bind fun q5 => some ((q5.1 (q5.2.2 x0 1) 0), q5)))
theorem w_X9_undo {x : Fx} {E : Ev} (S : ZS x E r_X9_undo cX9_undo 1 RX9 (some .int)) (M : ZM x E) (P : PH) (x0 : Nat) (h_x0 : ok x0 7 0) (r : (Int32 × PH)) (hf : f_X9_undo P x0 = some r) : Wz x E 1 (QI E x r.1 r.2) P 0 [(0, .ref (ad E x0))] [] := by
  unfold f_X9_undo at hf
  refine z_aload_n S 0 dX9_undo_0 rfl rfl ?_
  refine z_getR (K' := 0) (n' := 0) S cf_7 h_x0 1 (by decide) rfl rfl rfl wd252 dX9_undo_1 (fun h1 => ?_)
  refine z_getI S cf_0 h1 0 (by decide) rfl wd106 dX9_undo_4 ?_
  refine z_if_ne (tgt := 13) S dX9_undo_7 (by decide) hf (fun hf => ?_) (fun hf => ?_)
  · refine z_bipush (v := (-2 : Int32)) S dX9_undo_10 (by decide) ?_
    exact z_iretI (v := (-2 : Int32)) S M rfl dX9_undo_12 hf
  · refine z_aload_n S 0 dX9_undo_13 rfl rfl ?_
    refine z_getR (K' := 0) (n' := 0) S cf_7 h_x0 1 (by decide) rfl rfl rfl wd252 dX9_undo_14 (fun h2 => ?_)
    refine z_aload_n S 0 dX9_undo_17 rfl rfl ?_
    refine z_getR (K' := 1) (n' := 0) S cf_7 h_x0 6 (by decide) rfl rfl rfl wd257 dX9_undo_18 (fun h3 => ?_)
    refine z_getR (K' := 2) (n' := 0) S cf_1 h3 5 (by decide) rfl rfl rfl wd236 dX9_undo_21 (fun h4 => ?_)
    refine z_callVV (rc := r_X1_takeBack) [.ref (ad E (P.2.2 (P.2.2 x0 6) 5))] S mo_X1_takeBack wd483 wd484 wd482 h2 (by decide) cl_0 rfl rfl (by decide) (z_room0 S M (by rfl) (by rfl)) rfl (Nat.le_of_ble_eq_true rfl) rfl dX9_undo_24  (fun q => q) (fun q hq => m_X1_takeBack (xl x) E _ _ _ h2 h4 q hq) hf (fun q5 hf => ?_)
    refine z_aload_n S 0 dX9_undo_27 rfl rfl ?_
    refine z_getR (K' := 0) (n' := 0) S cf_7 h_x0 1 (by decide) rfl rfl rfl wd252 dX9_undo_28 (fun h6 => ?_)
    refine z_getI S cf_0 h6 0 (by decide) rfl wd106 dX9_undo_31 ?_
    exact z_iretI (v := (q5.1 (q5.2.2 x0 1) 0)) S M rfl dX9_undo_34 hf
theorem m_X9_undo (l : Launch) (E : Ev) (P : PH) (x0 : Nat) (h_x0 : ok x0 7 0) (r : (Int32 × PH)) (hf : f_X9_undo P x0 = some r) : CtI l E yX9_undo cX9_undo 1 (some .int) r_X9_undo [.ref (ad E x0)] P r.1 r.2 :=
  z_body (own := RX9) (by decide +kernel) rfl (Nat.le_of_ble_eq_true rfl) rfl (fun x _ S M => w_X9_undo S M P x0 h_x0 r hf)
-- yX9_fromWhen
theorem dX9_fromWhen_0 : decode cX9_fromWhen 0 = .ok (.aload_n 0, 1) := by decide +kernel
theorem dX9_fromWhen_1 : decode cX9_fromWhen 1 = .ok (.getfield 46, 3) := by decide +kernel
theorem dX9_fromWhen_4 : decode cX9_fromWhen 4 = .ok (.iload_n 1, 1) := by decide +kernel
theorem dX9_fromWhen_5 : decode cX9_fromWhen 5 = .ok (.invokevirtual 79, 3) := by decide +kernel
theorem dX9_fromWhen_8 : decode cX9_fromWhen 8 = .ok (.ifCond .eq 14, 3) := by decide +kernel
theorem dX9_fromWhen_11 : decode cX9_fromWhen 11 = .ok (.aload_n 0, 1) := by decide +kernel
theorem dX9_fromWhen_12 : decode cX9_fromWhen 12 = .ok (.getfield 46, 3) := by decide +kernel
theorem dX9_fromWhen_15 : decode cX9_fromWhen 15 = .ok (.iload_n 1, 1) := by decide +kernel
theorem dX9_fromWhen_16 : decode cX9_fromWhen 16 = .ok (.invokestatic 172, 3) := by decide +kernel
theorem dX9_fromWhen_19 : decode cX9_fromWhen 19 = .ok (.goto 4, 3) := by decide +kernel
theorem dX9_fromWhen_22 : decode cX9_fromWhen 22 = .ok (.iconst (-1), 1) := by decide +kernel
theorem dX9_fromWhen_23 : decode cX9_fromWhen 23 = .ok (.ireturn, 1) := by decide +kernel
def r_X9_fromWhen : Room := { frames := 5, cells := 0, slots := 0, locals := 119 }
def f_X9_fromWhen (P : PH) (x0 : Nat) (x1 : Int32) : Option Int32 :=
  ((f_X2_isPerson P (P.2.2 x0 6) x1).bind fun q2 => (if (b2i q2) = 0 then some (-1 : Int32) else ((f_X3_firstDayCutOff P (P.2.2 x0 6) x1).bind fun q4 => some q4)))
theorem w_X9_fromWhen {x : Fx} {E : Ev} (S : ZS x E r_X9_fromWhen cX9_fromWhen 2 RX9 (some .int)) (M : ZM x E) (P : PH) (x0 : Nat) (x1 : Int32) (h_x0 : ok x0 7 0) (r : Int32) (hf : f_X9_fromWhen P x0 x1 = some r) : Wz x E 2 (QI E x r P) P 0 [(0, .ref (ad E x0)), (1, .int x1)] [] := by
  unfold f_X9_fromWhen at hf
  refine z_aload_n S 0 dX9_fromWhen_0 rfl rfl ?_
  refine z_getR (K' := 1) (n' := 0) S cf_7 h_x0 6 (by decide) rfl rfl rfl wd257 dX9_fromWhen_1 (fun h1 => ?_)
  refine z_iload_n S 1 dX9_fromWhen_4 rfl rfl ?_
  refine z_callVI (rc := r_X2_isPerson) [.int x1] S mo_X2_isPerson wd334 wd335 wd365 h1 (by decide) cl_1 rfl rfl (by decide) (z_room0 S M (by rfl) (by rfl)) rfl (Nat.le_of_ble_eq_true rfl) rfl dX9_fromWhen_5 (fun q => b2i q) (fun _ => P) (fun q hq => m_X2_isPerson (xl x) E _ _ _ h1 q hq) hf (fun q2 hf => ?_)
  refine z_if_eq (tgt := 22) S dX9_fromWhen_8 (by decide) hf (fun hf => ?_) (fun hf => ?_)
  · refine z_iconst (v := (-1 : Int32)) S dX9_fromWhen_22 (by decide) ?_
    exact z_iretP (v := (-1 : Int32)) S M rfl dX9_fromWhen_23 hf
  · refine z_aload_n S 0 dX9_fromWhen_11 rfl rfl ?_
    refine z_getR (K' := 1) (n' := 0) S cf_7 h_x0 6 (by decide) rfl rfl rfl wd257 dX9_fromWhen_12 (fun h3 => ?_)
    refine z_iload_n S 1 dX9_fromWhen_15 rfl rfl ?_
    refine z_callSI (rc := r_X3_firstDayCutOff) [.ref (ad E (P.2.2 x0 6)), .int x1] S mo_X3_firstDayCutOff wd492 wd491 rfl rfl (by decide) (z_room0 S M (by rfl) (by rfl)) rfl (Nat.le_of_ble_eq_true rfl) rfl dX9_fromWhen_16 (fun q => q) (fun _ => P) (fun q hq => m_X3_firstDayCutOff (xl x) E _ _ _ h3 q hq) hf (fun q4 hf => ?_)
    refine z_goto (tgt := 23) S dX9_fromWhen_19 (by decide) ?_
    exact z_iretP (v := q4) S M rfl dX9_fromWhen_23 hf
theorem m_X9_fromWhen (l : Launch) (E : Ev) (P : PH) (x0 : Nat) (x1 : Int32) (h_x0 : ok x0 7 0) (r : Int32) (hf : f_X9_fromWhen P x0 x1 = some r) : CtI l E yX9_fromWhen cX9_fromWhen 2 (some .int) r_X9_fromWhen [.ref (ad E x0), .int x1] P r P :=
  z_body (own := RX9) (by decide +kernel) rfl (Nat.le_of_ble_eq_true rfl) rfl (fun x _ S M => w_X9_fromWhen S M P x0 x1 h_x0 r hf)
-- yX9_unlessAlive
theorem dX9_unlessAlive_0 : decode cX9_unlessAlive 0 = .ok (.aload_n 0, 1) := by decide +kernel
theorem dX9_unlessAlive_1 : decode cX9_unlessAlive 1 = .ok (.getfield 46, 3) := by decide +kernel
theorem dX9_unlessAlive_4 : decode cX9_unlessAlive 4 = .ok (.iload_n 1, 1) := by decide +kernel
theorem dX9_unlessAlive_5 : decode cX9_unlessAlive 5 = .ok (.invokevirtual 79, 3) := by decide +kernel
theorem dX9_unlessAlive_8 : decode cX9_unlessAlive 8 = .ok (.ifCond .ne 5, 3) := by decide +kernel
theorem dX9_unlessAlive_11 : decode cX9_unlessAlive 11 = .ok (.iconst (-1), 1) := by decide +kernel
theorem dX9_unlessAlive_12 : decode cX9_unlessAlive 12 = .ok (.ireturn, 1) := by decide +kernel
theorem dX9_unlessAlive_13 : decode cX9_unlessAlive 13 = .ok (.aload_n 0, 1) := by decide +kernel
theorem dX9_unlessAlive_14 : decode cX9_unlessAlive 14 = .ok (.getfield 46, 3) := by decide +kernel
theorem dX9_unlessAlive_17 : decode cX9_unlessAlive 17 = .ok (.iload_n 1, 1) := by decide +kernel
theorem dX9_unlessAlive_18 : decode cX9_unlessAlive 18 = .ok (.invokevirtual 82, 3) := by decide +kernel
theorem dX9_unlessAlive_21 : decode cX9_unlessAlive 21 = .ok (.ifCond .eq 7, 3) := by decide +kernel
theorem dX9_unlessAlive_24 : decode cX9_unlessAlive 24 = .ok (.iconst 0, 1) := by decide +kernel
theorem dX9_unlessAlive_25 : decode cX9_unlessAlive 25 = .ok (.goto 5, 3) := by decide +kernel
theorem dX9_unlessAlive_28 : decode cX9_unlessAlive 28 = .ok (.bipush (-2), 2) := by decide +kernel
theorem dX9_unlessAlive_30 : decode cX9_unlessAlive 30 = .ok (.ireturn, 1) := by decide +kernel
def r_X9_unlessAlive : Room := { frames := 2, cells := 0, slots := 0, locals := 42 }
def f_X9_unlessAlive (P : PH) (x0 : Nat) (x1 : Int32) : Option Int32 :=
  ((f_X2_isPerson P (P.2.2 x0 6) x1).bind fun q2 => (if (b2i q2) = 0 then some (-1 : Int32) else ((f_X2_lives P (P.2.2 x0 6) x1).bind fun q4 => (if (b2i q4) = 0 then some (-2 : Int32) else some (0 : Int32)))))
theorem w_X9_unlessAlive {x : Fx} {E : Ev} (S : ZS x E r_X9_unlessAlive cX9_unlessAlive 2 RX9 (some .int)) (M : ZM x E) (P : PH) (x0 : Nat) (x1 : Int32) (h_x0 : ok x0 7 0) (r : Int32) (hf : f_X9_unlessAlive P x0 x1 = some r) : Wz x E 2 (QI E x r P) P 0 [(0, .ref (ad E x0)), (1, .int x1)] [] := by
  unfold f_X9_unlessAlive at hf
  refine z_aload_n S 0 dX9_unlessAlive_0 rfl rfl ?_
  refine z_getR (K' := 1) (n' := 0) S cf_7 h_x0 6 (by decide) rfl rfl rfl wd257 dX9_unlessAlive_1 (fun h1 => ?_)
  refine z_iload_n S 1 dX9_unlessAlive_4 rfl rfl ?_
  refine z_callVI (rc := r_X2_isPerson) [.int x1] S mo_X2_isPerson wd334 wd335 wd365 h1 (by decide) cl_1 rfl rfl (by decide) (z_room0 S M (by rfl) (by rfl)) rfl (Nat.le_of_ble_eq_true rfl) rfl dX9_unlessAlive_5 (fun q => b2i q) (fun _ => P) (fun q hq => m_X2_isPerson (xl x) E _ _ _ h1 q hq) hf (fun q2 hf => ?_)
  refine z_if_ne (tgt := 13) S dX9_unlessAlive_8 (by decide) hf (fun hf => ?_) (fun hf => ?_)
  · refine z_iconst (v := (-1 : Int32)) S dX9_unlessAlive_11 (by decide) ?_
    exact z_iretP (v := (-1 : Int32)) S M rfl dX9_unlessAlive_12 hf
  · refine z_aload_n S 0 dX9_unlessAlive_13 rfl rfl ?_
    refine z_getR (K' := 1) (n' := 0) S cf_7 h_x0 6 (by decide) rfl rfl rfl wd257 dX9_unlessAlive_14 (fun h3 => ?_)
    refine z_iload_n S 1 dX9_unlessAlive_17 rfl rfl ?_
    refine z_callVI (rc := r_X2_lives) [.int x1] S mo_X2_lives wd367 wd368 wd366 h3 (by decide) cl_1 rfl rfl (by decide) (z_room0 S M (by rfl) (by rfl)) rfl (Nat.le_of_ble_eq_true rfl) rfl dX9_unlessAlive_18 (fun q => b2i q) (fun _ => P) (fun q hq => m_X2_lives (xl x) E _ _ _ h3 q hq) hf (fun q4 hf => ?_)
    refine z_if_eq (tgt := 28) S dX9_unlessAlive_21 (by decide) hf (fun hf => ?_) (fun hf => ?_)
    · refine z_bipush (v := (-2 : Int32)) S dX9_unlessAlive_28 (by decide) ?_
      exact z_iretP (v := (-2 : Int32)) S M rfl dX9_unlessAlive_30 hf
    · refine z_iconst (v := 0) S dX9_unlessAlive_24 (by decide) ?_
      refine z_goto (tgt := 30) S dX9_unlessAlive_25 (by decide) ?_
      exact z_iretP (v := (0 : Int32)) S M rfl dX9_unlessAlive_30 hf
theorem m_X9_unlessAlive (l : Launch) (E : Ev) (P : PH) (x0 : Nat) (x1 : Int32) (h_x0 : ok x0 7 0) (r : Int32) (hf : f_X9_unlessAlive P x0 x1 = some r) : CtI l E yX9_unlessAlive cX9_unlessAlive 2 (some .int) r_X9_unlessAlive [.ref (ad E x0), .int x1] P r P :=
  z_body (own := RX9) (by decide +kernel) rfl (Nat.le_of_ble_eq_true rfl) rfl (fun x _ S M => w_X9_unlessAlive S M P x0 x1 h_x0 r hf)
-- yX9_needs
theorem dX9_needs_0 : decode cX9_needs 0 = .ok (.aload_n 0, 1) := by decide +kernel
theorem dX9_needs_1 : decode cX9_needs 1 = .ok (.iload_n 1, 1) := by decide +kernel
theorem dX9_needs_2 : decode cX9_needs 2 = .ok (.invokevirtual 178, 3) := by decide +kernel
theorem dX9_needs_5 : decode cX9_needs 5 = .ok (.istore_n 2, 1) := by decide +kernel
theorem dX9_needs_6 : decode cX9_needs 6 = .ok (.iload_n 2, 1) := by decide +kernel
theorem dX9_needs_7 : decode cX9_needs 7 = .ok (.ifCond .eq 7, 3) := by decide +kernel
theorem dX9_needs_10 : decode cX9_needs 10 = .ok (.iload_n 2, 1) := by decide +kernel
theorem dX9_needs_11 : decode cX9_needs 11 = .ok (.goto 11, 3) := by decide +kernel
theorem dX9_needs_14 : decode cX9_needs 14 = .ok (.aload_n 0, 1) := by decide +kernel
theorem dX9_needs_15 : decode cX9_needs 15 = .ok (.getfield 46, 3) := by decide +kernel
theorem dX9_needs_18 : decode cX9_needs 18 = .ok (.iload_n 1, 1) := by decide +kernel
theorem dX9_needs_19 : decode cX9_needs 19 = .ok (.invokestatic 181, 3) := by decide +kernel
theorem dX9_needs_22 : decode cX9_needs 22 = .ok (.ireturn, 1) := by decide +kernel
def r_X9_needs : Room := { frames := 5, cells := 0, slots := 0, locals := 119 }
def f_X9_needs (P : PH) (x0 : Nat) (x1 : Int32) : Option Int32 :=
  ((f_X9_unlessAlive P x0 x1).bind fun q1 => (if q1 = 0 then ((f_X3_fewestRights P (P.2.2 x0 6) x1).bind fun q3 => some q3) else some q1))
theorem w_X9_needs {x : Fx} {E : Ev} (S : ZS x E r_X9_needs cX9_needs 3 RX9 (some .int)) (M : ZM x E) (P : PH) (x0 : Nat) (x1 : Int32) (h_x0 : ok x0 7 0) (r : Int32) (hf : f_X9_needs P x0 x1 = some r) : Wz x E 3 (QI E x r P) P 0 [(0, .ref (ad E x0)), (1, .int x1)] [] := by
  unfold f_X9_needs at hf
  refine z_aload_n S 0 dX9_needs_0 rfl rfl ?_
  refine z_iload_n S 1 dX9_needs_1 rfl rfl ?_
  refine z_callVI (rc := r_X9_unlessAlive) [.int x1] S mo_X9_unlessAlive wd501 wd6 wd499 h_x0 (by decide) cl_7 rfl rfl (by decide) (z_room0 S M (by rfl) (by rfl)) rfl (Nat.le_of_ble_eq_true rfl) rfl dX9_needs_2 (fun q => q) (fun _ => P) (fun q hq => m_X9_unlessAlive (xl x) E _ _ _ h_x0 q hq) hf (fun q1 hf => ?_)
  refine z_istore_n (lv' := [(2, .int q1), (0, .ref (ad E x0)), (1, .int x1)]) S dX9_needs_5 rfl (by decide) rfl ?_
  refine z_iload_n S 0 dX9_needs_6 rfl rfl ?_
  refine z_if_eq (tgt := 14) S dX9_needs_7 (by decide) hf (fun hf => ?_) (fun hf => ?_)
  · refine z_aload_n S 1 dX9_needs_14 rfl rfl ?_
    refine z_getR (K' := 1) (n' := 0) S cf_7 h_x0 6 (by decide) rfl rfl rfl wd257 dX9_needs_15 (fun h2 => ?_)
    refine z_iload_n S 2 dX9_needs_18 rfl rfl ?_
    refine z_callSI (rc := r_X3_fewestRights) [.ref (ad E (P.2.2 x0 6)), .int x1] S mo_X3_fewestRights wd504 wd503 rfl rfl (by decide) (z_room0 S M (by rfl) (by rfl)) rfl (Nat.le_of_ble_eq_true rfl) rfl dX9_needs_19 (fun q => q) (fun _ => P) (fun q hq => m_X3_fewestRights (xl x) E _ _ _ h2 q hq) hf (fun q3 hf => ?_)
    exact z_iretP (v := q3) S M rfl dX9_needs_22 hf
  · refine z_iload_n S 0 dX9_needs_10 rfl rfl ?_
    refine z_goto (tgt := 22) S dX9_needs_11 (by decide) ?_
    exact z_iretP (v := q1) S M rfl dX9_needs_22 hf
theorem m_X9_needs (l : Launch) (E : Ev) (P : PH) (x0 : Nat) (x1 : Int32) (h_x0 : ok x0 7 0) (r : Int32) (hf : f_X9_needs P x0 x1 = some r) : CtI l E yX9_needs cX9_needs 3 (some .int) r_X9_needs [.ref (ad E x0), .int x1] P r P :=
  z_body (own := RX9) (by decide +kernel) rfl (Nat.le_of_ble_eq_true rfl) rfl (fun x _ S M => w_X9_needs S M P x0 x1 h_x0 r hf)
-- yX9_opens
theorem dX9_opens_0 : decode cX9_opens 0 = .ok (.aload_n 0, 1) := by decide +kernel
theorem dX9_opens_1 : decode cX9_opens 1 = .ok (.iload_n 1, 1) := by decide +kernel
theorem dX9_opens_2 : decode cX9_opens 2 = .ok (.invokevirtual 178, 3) := by decide +kernel
theorem dX9_opens_5 : decode cX9_opens 5 = .ok (.istore_n 2, 1) := by decide +kernel
theorem dX9_opens_6 : decode cX9_opens 6 = .ok (.iload_n 2, 1) := by decide +kernel
theorem dX9_opens_7 : decode cX9_opens 7 = .ok (.ifCond .eq 7, 3) := by decide +kernel
theorem dX9_opens_10 : decode cX9_opens 10 = .ok (.iload_n 2, 1) := by decide +kernel
theorem dX9_opens_11 : decode cX9_opens 11 = .ok (.goto 11, 3) := by decide +kernel
theorem dX9_opens_14 : decode cX9_opens 14 = .ok (.aload_n 0, 1) := by decide +kernel
theorem dX9_opens_15 : decode cX9_opens 15 = .ok (.getfield 46, 3) := by decide +kernel
theorem dX9_opens_18 : decode cX9_opens 18 = .ok (.iload_n 1, 1) := by decide +kernel
theorem dX9_opens_19 : decode cX9_opens 19 = .ok (.invokestatic 184, 3) := by decide +kernel
theorem dX9_opens_22 : decode cX9_opens 22 = .ok (.ireturn, 1) := by decide +kernel
def r_X9_opens : Room := { frames := 5, cells := 0, slots := 0, locals := 123 }
def f_X9_opens (P : PH) (x0 : Nat) (x1 : Int32) : Option Int32 :=
  ((f_X9_unlessAlive P x0 x1).bind fun q1 => (if q1 = 0 then ((f_X3_openers P (P.2.2 x0 6) x1).bind fun q3 => some q3) else some q1))
theorem w_X9_opens {x : Fx} {E : Ev} (S : ZS x E r_X9_opens cX9_opens 3 RX9 (some .int)) (M : ZM x E) (P : PH) (x0 : Nat) (x1 : Int32) (h_x0 : ok x0 7 0) (r : Int32) (hf : f_X9_opens P x0 x1 = some r) : Wz x E 3 (QI E x r P) P 0 [(0, .ref (ad E x0)), (1, .int x1)] [] := by
  unfold f_X9_opens at hf
  refine z_aload_n S 0 dX9_opens_0 rfl rfl ?_
  refine z_iload_n S 1 dX9_opens_1 rfl rfl ?_
  refine z_callVI (rc := r_X9_unlessAlive) [.int x1] S mo_X9_unlessAlive wd501 wd6 wd499 h_x0 (by decide) cl_7 rfl rfl (by decide) (z_room0 S M (by rfl) (by rfl)) rfl (Nat.le_of_ble_eq_true rfl) rfl dX9_opens_2 (fun q => q) (fun _ => P) (fun q hq => m_X9_unlessAlive (xl x) E _ _ _ h_x0 q hq) hf (fun q1 hf => ?_)
  refine z_istore_n (lv' := [(2, .int q1), (0, .ref (ad E x0)), (1, .int x1)]) S dX9_opens_5 rfl (by decide) rfl ?_
  refine z_iload_n S 0 dX9_opens_6 rfl rfl ?_
  refine z_if_eq (tgt := 14) S dX9_opens_7 (by decide) hf (fun hf => ?_) (fun hf => ?_)
  · refine z_aload_n S 1 dX9_opens_14 rfl rfl ?_
    refine z_getR (K' := 1) (n' := 0) S cf_7 h_x0 6 (by decide) rfl rfl rfl wd257 dX9_opens_15 (fun h2 => ?_)
    refine z_iload_n S 2 dX9_opens_18 rfl rfl ?_
    refine z_callSI (rc := r_X3_openers) [.ref (ad E (P.2.2 x0 6)), .int x1] S mo_X3_openers wd514 wd513 rfl rfl (by decide) (z_room0 S M (by rfl) (by rfl)) rfl (Nat.le_of_ble_eq_true rfl) rfl dX9_opens_19 (fun q => q) (fun _ => P) (fun q hq => m_X3_openers (xl x) E _ _ _ h2 q hq) hf (fun q3 hf => ?_)
    exact z_iretP (v := q3) S M rfl dX9_opens_22 hf
  · refine z_iload_n S 0 dX9_opens_10 rfl rfl ?_
    refine z_goto (tgt := 22) S dX9_opens_11 (by decide) ?_
    exact z_iretP (v := q1) S M rfl dX9_opens_22 hf
theorem m_X9_opens (l : Launch) (E : Ev) (P : PH) (x0 : Nat) (x1 : Int32) (h_x0 : ok x0 7 0) (r : Int32) (hf : f_X9_opens P x0 x1 = some r) : CtI l E yX9_opens cX9_opens 3 (some .int) r_X9_opens [.ref (ad E x0), .int x1] P r P :=
  z_body (own := RX9) (by decide +kernel) rfl (Nat.le_of_ble_eq_true rfl) rfl (fun x _ S M => w_X9_opens S M P x0 x1 h_x0 r hf)
-- yX9_exchange
theorem dX9_exchange_0 : decode cX9_exchange 0 = .ok (.aload_n 0, 1) := by decide +kernel
theorem dX9_exchange_1 : decode cX9_exchange 1 = .ok (.getfield 46, 3) := by decide +kernel
theorem dX9_exchange_4 : decode cX9_exchange 4 = .ok (.invokestatic 187, 3) := by decide +kernel
theorem dX9_exchange_7 : decode cX9_exchange 7 = .ok (.ireturn, 1) := by decide +kernel
def r_X9_exchange : Room := { frames := 6, cells := 0, slots := 0, locals := 145 }
def f_X9_exchange (P : PH) (x0 : Nat) : Option (Int32 × PH) :=
  ((f_X3_bestExchange P (P.2.2 x0 6)).bind fun q2 => some (q2.1, q2.2))
theorem w_X9_exchange {x : Fx} {E : Ev} (S : ZS x E r_X9_exchange cX9_exchange 1 RX9 (some .int)) (M : ZM x E) (P : PH) (x0 : Nat) (h_x0 : ok x0 7 0) (r : (Int32 × PH)) (hf : f_X9_exchange P x0 = some r) : Wz x E 1 (QI E x r.1 r.2) P 0 [(0, .ref (ad E x0))] [] := by
  unfold f_X9_exchange at hf
  refine z_aload_n S 0 dX9_exchange_0 rfl rfl ?_
  refine z_getR (K' := 1) (n' := 0) S cf_7 h_x0 6 (by decide) rfl rfl rfl wd257 dX9_exchange_1 (fun h1 => ?_)
  refine z_callSI (rc := r_X3_bestExchange) [.ref (ad E (P.2.2 x0 6))] S mo_X3_bestExchange wd522 wd521 rfl rfl (by decide) (z_room0 S M (by rfl) (by rfl)) rfl (Nat.le_of_ble_eq_true rfl) rfl dX9_exchange_4 (fun q => q.1) (fun q => q.2) (fun q hq => m_X3_bestExchange (xl x) E _ _ h1 q hq) hf (fun q2 hf => ?_)
  exact z_iretI (v := q2.1) S M rfl dX9_exchange_7 hf
theorem m_X9_exchange (l : Launch) (E : Ev) (P : PH) (x0 : Nat) (h_x0 : ok x0 7 0) (r : (Int32 × PH)) (hf : f_X9_exchange P x0 = some r) : CtI l E yX9_exchange cX9_exchange 1 (some .int) r_X9_exchange [.ref (ad E x0)] P r.1 r.2 :=
  z_body (own := RX9) (by decide +kernel) rfl (Nat.le_of_ble_eq_true rfl) rfl (fun x _ S M => w_X9_exchange S M P x0 h_x0 r hf)
-- yX9_holdsOut
theorem dX9_holdsOut_0 : decode cX9_holdsOut 0 = .ok (.aload_n 0, 1) := by decide +kernel
theorem dX9_holdsOut_1 : decode cX9_holdsOut 1 = .ok (.getfield 46, 3) := by decide +kernel
theorem dX9_holdsOut_4 : decode cX9_holdsOut 4 = .ok (.invokestatic 190, 3) := by decide +kernel
theorem dX9_holdsOut_7 : decode cX9_holdsOut 7 = .ok (.ireturn, 1) := by decide +kernel
def r_X9_holdsOut : Room := { frames := 6, cells := 0, slots := 0, locals := 143 }
def f_X9_holdsOut (P : PH) (x0 : Nat) : Option Int32 :=
  ((f_X3_roomsHeldByRight P (P.2.2 x0 6)).bind fun q2 => some q2)
theorem w_X9_holdsOut {x : Fx} {E : Ev} (S : ZS x E r_X9_holdsOut cX9_holdsOut 1 RX9 (some .int)) (M : ZM x E) (P : PH) (x0 : Nat) (h_x0 : ok x0 7 0) (r : Int32) (hf : f_X9_holdsOut P x0 = some r) : Wz x E 1 (QI E x r P) P 0 [(0, .ref (ad E x0))] [] := by
  unfold f_X9_holdsOut at hf
  refine z_aload_n S 0 dX9_holdsOut_0 rfl rfl ?_
  refine z_getR (K' := 1) (n' := 0) S cf_7 h_x0 6 (by decide) rfl rfl rfl wd257 dX9_holdsOut_1 (fun h1 => ?_)
  refine z_callSI (rc := r_X3_roomsHeldByRight) [.ref (ad E (P.2.2 x0 6))] S mo_X3_roomsHeldByRight wd531 wd530 rfl rfl (by decide) (z_room0 S M (by rfl) (by rfl)) rfl (Nat.le_of_ble_eq_true rfl) rfl dX9_holdsOut_4 (fun q => q) (fun _ => P) (fun q hq => m_X3_roomsHeldByRight (xl x) E _ _ h1 q hq) hf (fun q2 hf => ?_)
  exact z_iretP (v := q2) S M rfl dX9_holdsOut_7 hf
theorem m_X9_holdsOut (l : Launch) (E : Ev) (P : PH) (x0 : Nat) (h_x0 : ok x0 7 0) (r : Int32) (hf : f_X9_holdsOut P x0 = some r) : CtI l E yX9_holdsOut cX9_holdsOut 1 (some .int) r_X9_holdsOut [.ref (ad E x0)] P r P :=
  z_body (own := RX9) (by decide +kernel) rfl (Nat.le_of_ble_eq_true rfl) rfl (fun x _ S M => w_X9_holdsOut S M P x0 h_x0 r hf)
-- yX9_dinner
theorem dX9_dinner_0 : decode cX9_dinner 0 = .ok (.aload_n 0, 1) := by decide +kernel
theorem dX9_dinner_1 : decode cX9_dinner 1 = .ok (.getfield 46, 3) := by decide +kernel
theorem dX9_dinner_4 : decode cX9_dinner 4 = .ok (.iload_n 1, 1) := by decide +kernel
theorem dX9_dinner_5 : decode cX9_dinner 5 = .ok (.invokevirtual 117, 3) := by decide +kernel
theorem dX9_dinner_8 : decode cX9_dinner 8 = .ok (.ifCond .eq 26, 3) := by decide +kernel
theorem dX9_dinner_11 : decode cX9_dinner 11 = .ok (.aload_n 0, 1) := by decide +kernel
theorem dX9_dinner_12 : decode cX9_dinner 12 = .ok (.getfield 46, 3) := by decide +kernel
theorem dX9_dinner_15 : decode cX9_dinner 15 = .ok (.iload_n 2, 1) := by decide +kernel
theorem dX9_dinner_16 : decode cX9_dinner 16 = .ok (.invokevirtual 117, 3) := by decide +kernel
theorem dX9_dinner_19 : decode cX9_dinner 19 = .ok (.ifCond .eq 15, 3) := by decide +kernel
theorem dX9_dinner_22 : decode cX9_dinner 22 = .ok (.aload_n 0, 1) := by decide +kernel
theorem dX9_dinner_23 : decode cX9_dinner 23 = .ok (.getfield 46, 3) := by decide +kernel
theorem dX9_dinner_26 : decode cX9_dinner 26 = .ok (.iload_n 1, 1) := by decide +kernel
theorem dX9_dinner_27 : decode cX9_dinner 27 = .ok (.iload_n 2, 1) := by decide +kernel
theorem dX9_dinner_28 : decode cX9_dinner 28 = .ok (.invokestatic 193, 3) := by decide +kernel
theorem dX9_dinner_31 : decode cX9_dinner 31 = .ok (.goto 4, 3) := by decide +kernel
theorem dX9_dinner_34 : decode cX9_dinner 34 = .ok (.iconst (-1), 1) := by decide +kernel
theorem dX9_dinner_35 : decode cX9_dinner 35 = .ok (.ireturn, 1) := by decide +kernel
def r_X9_dinner : Room := { frames := 5, cells := 0, slots := 0, locals := 119 }
def f_X9_dinner (P : PH) (x0 : Nat) (x1 : Int32) (x2 : Int32) : Option Int32 :=
  ((f_X2_isRoom P (P.2.2 x0 6) x1).bind fun q2 => (if (b2i q2) = 0 then some (-1 : Int32) else ((f_X2_isRoom P (P.2.2 x0 6) x2).bind fun q4 => (if (b2i q4) = 0 then some (-1 : Int32) else ((f_X3_doorsBetween P (P.2.2 x0 6) x1 x2).bind fun q6 => some q6)))))
theorem w_X9_dinner {x : Fx} {E : Ev} (S : ZS x E r_X9_dinner cX9_dinner 3 RX9 (some .int)) (M : ZM x E) (P : PH) (x0 : Nat) (x1 : Int32) (x2 : Int32) (h_x0 : ok x0 7 0) (r : Int32) (hf : f_X9_dinner P x0 x1 x2 = some r) : Wz x E 3 (QI E x r P) P 0 [(0, .ref (ad E x0)), (1, .int x1), (2, .int x2)] [] := by
  unfold f_X9_dinner at hf
  refine z_aload_n S 0 dX9_dinner_0 rfl rfl ?_
  refine z_getR (K' := 1) (n' := 0) S cf_7 h_x0 6 (by decide) rfl rfl rfl wd257 dX9_dinner_1 (fun h1 => ?_)
  refine z_iload_n S 1 dX9_dinner_4 rfl rfl ?_
  refine z_callVI (rc := r_X2_isRoom) [.int x1] S mo_X2_isRoom wd338 wd339 wd412 h1 (by decide) cl_1 rfl rfl (by decide) (z_room0 S M (by rfl) (by rfl)) rfl (Nat.le_of_ble_eq_true rfl) rfl dX9_dinner_5 (fun q => b2i q) (fun _ => P) (fun q hq => m_X2_isRoom (xl x) E _ _ _ h1 q hq) hf (fun q2 hf => ?_)
  refine z_if_eq (tgt := 34) S dX9_dinner_8 (by decide) hf (fun hf => ?_) (fun hf => ?_)
  · refine z_iconst (v := (-1 : Int32)) S dX9_dinner_34 (by decide) ?_
    exact z_iretP (v := (-1 : Int32)) S M rfl dX9_dinner_35 hf
  · refine z_aload_n S 0 dX9_dinner_11 rfl rfl ?_
    refine z_getR (K' := 1) (n' := 0) S cf_7 h_x0 6 (by decide) rfl rfl rfl wd257 dX9_dinner_12 (fun h3 => ?_)
    refine z_iload_n S 2 dX9_dinner_15 rfl rfl ?_
    refine z_callVI (rc := r_X2_isRoom) [.int x2] S mo_X2_isRoom wd338 wd339 wd412 h3 (by decide) cl_1 rfl rfl (by decide) (z_room0 S M (by rfl) (by rfl)) rfl (Nat.le_of_ble_eq_true rfl) rfl dX9_dinner_16 (fun q => b2i q) (fun _ => P) (fun q hq => m_X2_isRoom (xl x) E _ _ _ h3 q hq) hf (fun q4 hf => ?_)
    refine z_if_eq (tgt := 34) S dX9_dinner_19 (by decide) hf (fun hf => ?_) (fun hf => ?_)
    · refine z_iconst (v := (-1 : Int32)) S dX9_dinner_34 (by decide) ?_
      exact z_iretP (v := (-1 : Int32)) S M rfl dX9_dinner_35 hf
    · refine z_aload_n S 0 dX9_dinner_22 rfl rfl ?_
      refine z_getR (K' := 1) (n' := 0) S cf_7 h_x0 6 (by decide) rfl rfl rfl wd257 dX9_dinner_23 (fun h5 => ?_)
      refine z_iload_n S 1 dX9_dinner_26 rfl rfl ?_
      refine z_iload_n S 2 dX9_dinner_27 rfl rfl ?_
      refine z_callSI (rc := r_X3_doorsBetween) [.ref (ad E (P.2.2 x0 6)), .int x1, .int x2] S mo_X3_doorsBetween wd538 wd537 rfl rfl (by decide) (z_room0 S M (by rfl) (by rfl)) rfl (Nat.le_of_ble_eq_true rfl) rfl dX9_dinner_28 (fun q => q) (fun _ => P) (fun q hq => m_X3_doorsBetween (xl x) E _ _ _ _ h5 q hq) hf (fun q6 hf => ?_)
      refine z_goto (tgt := 35) S dX9_dinner_31 (by decide) ?_
      exact z_iretP (v := q6) S M rfl dX9_dinner_35 hf
theorem m_X9_dinner (l : Launch) (E : Ev) (P : PH) (x0 : Nat) (x1 : Int32) (x2 : Int32) (h_x0 : ok x0 7 0) (r : Int32) (hf : f_X9_dinner P x0 x1 x2 = some r) : CtI l E yX9_dinner cX9_dinner 3 (some .int) r_X9_dinner [.ref (ad E x0), .int x1, .int x2] P r P :=
  z_body (own := RX9) (by decide +kernel) rfl (Nat.le_of_ble_eq_true rfl) rfl (fun x _ S M => w_X9_dinner S M P x0 x1 x2 h_x0 r hf)
-- yX9_seen
theorem dX9_seen_0 : decode cX9_seen 0 = .ok (.aload_n 0, 1) := by decide +kernel
theorem dX9_seen_1 : decode cX9_seen 1 = .ok (.getfield 46, 3) := by decide +kernel
theorem dX9_seen_4 : decode cX9_seen 4 = .ok (.iload_n 1, 1) := by decide +kernel
theorem dX9_seen_5 : decode cX9_seen 5 = .ok (.invokevirtual 79, 3) := by decide +kernel
theorem dX9_seen_8 : decode cX9_seen 8 = .ok (.ifCond .eq 23, 3) := by decide +kernel
theorem dX9_seen_11 : decode cX9_seen 11 = .ok (.aload_n 0, 1) := by decide +kernel
theorem dX9_seen_12 : decode cX9_seen 12 = .ok (.getfield 46, 3) := by decide +kernel
theorem dX9_seen_15 : decode cX9_seen 15 = .ok (.iload_n 2, 1) := by decide +kernel
theorem dX9_seen_16 : decode cX9_seen 16 = .ok (.invokevirtual 117, 3) := by decide +kernel
theorem dX9_seen_19 : decode cX9_seen 19 = .ok (.ifCond .eq 12, 3) := by decide +kernel
theorem dX9_seen_22 : decode cX9_seen 22 = .ok (.iload_n 3, 1) := by decide +kernel
theorem dX9_seen_23 : decode cX9_seen 23 = .ok (.ifCond .lt 8, 3) := by decide +kernel
theorem dX9_seen_26 : decode cX9_seen 26 = .ok (.iload_n 3, 1) := by decide +kernel
theorem dX9_seen_27 : decode cX9_seen 27 = .ok (.iconst 1, 1) := by decide +kernel
theorem dX9_seen_28 : decode cX9_seen 28 = .ok (.if_icmp .le 5, 3) := by decide +kernel
theorem dX9_seen_31 : decode cX9_seen 31 = .ok (.iconst (-1), 1) := by decide +kernel
theorem dX9_seen_32 : decode cX9_seen 32 = .ok (.ireturn, 1) := by decide +kernel
theorem dX9_seen_33 : decode cX9_seen 33 = .ok (.aload_n 0, 1) := by decide +kernel
theorem dX9_seen_34 : decode cX9_seen 34 = .ok (.getfield 26, 3) := by decide +kernel
theorem dX9_seen_37 : decode cX9_seen 37 = .ok (.iload_n 1, 1) := by decide +kernel
theorem dX9_seen_38 : decode cX9_seen 38 = .ok (.iload_n 2, 1) := by decide +kernel
theorem dX9_seen_39 : decode cX9_seen 39 = .ok (.iload_n 3, 1) := by decide +kernel
theorem dX9_seen_40 : decode cX9_seen 40 = .ok (.invokevirtual 197, 3) := by decide +kernel
theorem dX9_seen_43 : decode cX9_seen 43 = .ok (.ifCond .eq 13, 3) := by decide +kernel
theorem dX9_seen_46 : decode cX9_seen 46 = .ok (.aload_n 0, 1) := by decide +kernel
theorem dX9_seen_47 : decode cX9_seen 47 = .ok (.getfield 26, 3) := by decide +kernel
theorem dX9_seen_50 : decode cX9_seen 50 = .ok (.getfield 72, 3) := by decide +kernel
theorem dX9_seen_53 : decode cX9_seen 53 = .ok (.goto 5, 3) := by decide +kernel
theorem dX9_seen_56 : decode cX9_seen 56 = .ok (.bipush (-3), 2) := by decide +kernel
theorem dX9_seen_58 : decode cX9_seen 58 = .ok (.ireturn, 1) := by decide +kernel
def r_X9_seen : Room := { frames := 1, cells := 0, slots := 0, locals := 23 }
def f_X9_seen (P : PH) (x0 : Nat) (x1 : Int32) (x2 : Int32) (x3 : Int32) : Option (Int32 × PH) :=
  ((f_X2_isPerson P (P.2.2 x0 6) x1).bind fun q2 => (if (b2i q2) = 0 then some ((-1 : Int32), P) else ((f_X2_isRoom P (P.2.2 x0 6) x2).bind fun q4 => (if (b2i q4) = 0 then some ((-1 : Int32), P) else (if x3 < 0 then some ((-1 : Int32), P) else (if x3 ≤ (1 : Int32) then ((f_X7_add P (P.2.2 x0 2) x1 x2 x3).bind fun q6 => (if (b2i q6.1) = 0 then some ((-3 : Int32), q6.2) else some ((q6.2.1 (q6.2.2.2 x0 2) 0), q6.2))) else some ((-1 : Int32), P)))))))
theorem w_X9_seen {x : Fx} {E : Ev} (S : ZS x E r_X9_seen cX9_seen 4 RX9 (some .int)) (M : ZM x E) (P : PH) (x0 : Nat) (x1 : Int32) (x2 : Int32) (x3 : Int32) (h_x0 : ok x0 7 0) (r : (Int32 × PH)) (hf : f_X9_seen P x0 x1 x2 x3 = some r) : Wz x E 4 (QI E x r.1 r.2) P 0 [(0, .ref (ad E x0)), (1, .int x1), (2, .int x2), (3, .int x3)] [] := by
  unfold f_X9_seen at hf
  refine z_aload_n S 0 dX9_seen_0 rfl rfl ?_
  refine z_getR (K' := 1) (n' := 0) S cf_7 h_x0 6 (by decide) rfl rfl rfl wd257 dX9_seen_1 (fun h1 => ?_)
  refine z_iload_n S 1 dX9_seen_4 rfl rfl ?_
  refine z_callVI (rc := r_X2_isPerson) [.int x1] S mo_X2_isPerson wd334 wd335 wd365 h1 (by decide) cl_1 rfl rfl (by decide) (z_room0 S M (by rfl) (by rfl)) rfl (Nat.le_of_ble_eq_true rfl) rfl dX9_seen_5 (fun q => b2i q) (fun _ => P) (fun q hq => m_X2_isPerson (xl x) E _ _ _ h1 q hq) hf (fun q2 hf => ?_)
  refine z_if_eq (tgt := 31) S dX9_seen_8 (by decide) hf (fun hf => ?_) (fun hf => ?_)
  · refine z_iconst (v := (-1 : Int32)) S dX9_seen_31 (by decide) ?_
    exact z_iretI (v := (-1 : Int32)) S M rfl dX9_seen_32 hf
  · refine z_aload_n S 0 dX9_seen_11 rfl rfl ?_
    refine z_getR (K' := 1) (n' := 0) S cf_7 h_x0 6 (by decide) rfl rfl rfl wd257 dX9_seen_12 (fun h3 => ?_)
    refine z_iload_n S 2 dX9_seen_15 rfl rfl ?_
    refine z_callVI (rc := r_X2_isRoom) [.int x2] S mo_X2_isRoom wd338 wd339 wd412 h3 (by decide) cl_1 rfl rfl (by decide) (z_room0 S M (by rfl) (by rfl)) rfl (Nat.le_of_ble_eq_true rfl) rfl dX9_seen_16 (fun q => b2i q) (fun _ => P) (fun q hq => m_X2_isRoom (xl x) E _ _ _ h3 q hq) hf (fun q4 hf => ?_)
    refine z_if_eq (tgt := 31) S dX9_seen_19 (by decide) hf (fun hf => ?_) (fun hf => ?_)
    · refine z_iconst (v := (-1 : Int32)) S dX9_seen_31 (by decide) ?_
      exact z_iretI (v := (-1 : Int32)) S M rfl dX9_seen_32 hf
    · refine z_iload_n S 3 dX9_seen_22 rfl rfl ?_
      refine z_if_lt (tgt := 31) S dX9_seen_23 (by decide) hf (fun hf => ?_) (fun hf => ?_)
      · refine z_iconst (v := (-1 : Int32)) S dX9_seen_31 (by decide) ?_
        exact z_iretI (v := (-1 : Int32)) S M rfl dX9_seen_32 hf
      · refine z_iload_n S 3 dX9_seen_26 rfl rfl ?_
        refine z_iconst (v := 1) S dX9_seen_27 (by decide) ?_
        refine z_icmp_le (tgt := 33) S dX9_seen_28 (by decide) hf (fun hf => ?_) (fun hf => ?_)
        · refine z_aload_n S 0 dX9_seen_33 rfl rfl ?_
          refine z_getR (K' := 5) (n' := 0) S cf_7 h_x0 2 (by decide) rfl rfl rfl wd253 dX9_seen_34 (fun h5 => ?_)
          refine z_iload_n S 1 dX9_seen_37 rfl rfl ?_
          refine z_iload_n S 2 dX9_seen_38 rfl rfl ?_
          refine z_iload_n S 3 dX9_seen_39 rfl rfl ?_
          refine z_callVI (rc := r_X7_add) [.int x1, .int x2, .int x3] S mo_X7_add wd546 wd547 wd545 h5 (by decide) cl_5 rfl rfl (by decide) (z_room0 S M (by rfl) (by rfl)) rfl (Nat.le_of_ble_eq_true rfl) rfl dX9_seen_40 (fun q => b2i q.1) (fun q => q.2) (fun q hq => m_X7_add (xl x) E _ _ _ _ _ h5 q hq) hf (fun q6 hf => ?_)
          refine z_if_eq (tgt := 56) S dX9_seen_43 (by decide) hf (fun hf => ?_) (fun hf => ?_)
          · refine z_bipush (v := (-3 : Int32)) S dX9_seen_56 (by decide) ?_
            exact z_iretI (v := (-3 : Int32)) S M rfl dX9_seen_58 hf
          · refine z_aload_n S 0 dX9_seen_46 rfl rfl ?_
            refine z_getR (K' := 5) (n' := 0) S cf_7 h_x0 2 (by decide) rfl rfl rfl wd253 dX9_seen_47 (fun h7 => ?_)
            refine z_getI S cf_5 h7 0 (by decide) rfl wd126 dX9_seen_50 ?_
            refine z_goto (tgt := 58) S dX9_seen_53 (by decide) ?_
            exact z_iretI (v := (q6.2.1 (q6.2.2.2 x0 2) 0)) S M rfl dX9_seen_58 hf
        · refine z_iconst (v := (-1 : Int32)) S dX9_seen_31 (by decide) ?_
          exact z_iretI (v := (-1 : Int32)) S M rfl dX9_seen_32 hf
theorem m_X9_seen (l : Launch) (E : Ev) (P : PH) (x0 : Nat) (x1 : Int32) (x2 : Int32) (x3 : Int32) (h_x0 : ok x0 7 0) (r : (Int32 × PH)) (hf : f_X9_seen P x0 x1 x2 x3 = some r) : CtI l E yX9_seen cX9_seen 4 (some .int) r_X9_seen [.ref (ad E x0), .int x1, .int x2, .int x3] P r.1 r.2 :=
  z_body (own := RX9) (by decide +kernel) rfl (Nat.le_of_ble_eq_true rfl) rfl (fun x _ S M => w_X9_seen S M P x0 x1 x2 x3 h_x0 r hf)
-- yX9_forget
theorem dX9_forget_0 : decode cX9_forget 0 = .ok (.aload_n 0, 1) := by decide +kernel
theorem dX9_forget_1 : decode cX9_forget 1 = .ok (.getfield 26, 3) := by decide +kernel
theorem dX9_forget_4 : decode cX9_forget 4 = .ok (.getfield 72, 3) := by decide +kernel
theorem dX9_forget_7 : decode cX9_forget 7 = .ok (.istore_n 1, 1) := by decide +kernel
theorem dX9_forget_8 : decode cX9_forget 8 = .ok (.aload_n 0, 1) := by decide +kernel
theorem dX9_forget_9 : decode cX9_forget 9 = .ok (.getfield 26, 3) := by decide +kernel
theorem dX9_forget_12 : decode cX9_forget 12 = .ok (.iconst 0, 1) := by decide +kernel
theorem dX9_forget_13 : decode cX9_forget 13 = .ok (.putfield 72, 3) := by decide +kernel
theorem dX9_forget_16 : decode cX9_forget 16 = .ok (.iload_n 1, 1) := by decide +kernel
theorem dX9_forget_17 : decode cX9_forget 17 = .ok (.ireturn, 1) := by decide +kernel
def r_X9_forget : Room := { frames := 0, cells := 0, slots := 0, locals := 0 }
def f_X9_forget (P : PH) (x0 : Nat) : Option (Int32 × PH) :=
  some ((P.1 (P.2.2 x0 2) 0), (sI P (P.2.2 x0 2) 0 (0 : Int32)))
theorem w_X9_forget {x : Fx} {E : Ev} (S : ZS x E r_X9_forget cX9_forget 2 RX9 (some .int)) (M : ZM x E) (P : PH) (x0 : Nat) (h_x0 : ok x0 7 0) (r : (Int32 × PH)) (hf : f_X9_forget P x0 = some r) : Wz x E 2 (QI E x r.1 r.2) P 0 [(0, .ref (ad E x0))] [] := by
  unfold f_X9_forget at hf
  refine z_aload_n S 0 dX9_forget_0 rfl rfl ?_
  refine z_getR (K' := 5) (n' := 0) S cf_7 h_x0 2 (by decide) rfl rfl rfl wd253 dX9_forget_1 (fun h1 => ?_)
  refine z_getI S cf_5 h1 0 (by decide) rfl wd126 dX9_forget_4 ?_
  refine z_istore_n (lv' := [(1, .int (P.1 (P.2.2 x0 2) 0)), (0, .ref (ad E x0))]) S dX9_forget_7 rfl (by decide) rfl ?_
  refine z_aload_n S 1 dX9_forget_8 rfl rfl ?_
  refine z_getR (K' := 5) (n' := 0) S cf_7 h_x0 2 (by decide) rfl rfl rfl wd253 dX9_forget_9 (fun h2 => ?_)
  refine z_iconst (v := 0) S dX9_forget_12 (by decide) ?_
  refine z_putI S cf_5 h2 0 (by decide) rfl rfl rfl rfl wd126 dX9_forget_13 ?_
  refine z_iload_n S 0 dX9_forget_16 rfl rfl ?_
  exact z_iretI (v := (P.1 (P.2.2 x0 2) 0)) S M rfl dX9_forget_17 hf
theorem m_X9_forget (l : Launch) (E : Ev) (P : PH) (x0 : Nat) (h_x0 : ok x0 7 0) (r : (Int32 × PH)) (hf : f_X9_forget P x0 = some r) : CtI l E yX9_forget cX9_forget 2 (some .int) r_X9_forget [.ref (ad E x0)] P r.1 r.2 :=
  z_body (own := RX9) (by decide +kernel) rfl (Nat.le_of_ble_eq_true rfl) rfl (fun x _ S M => w_X9_forget S M P x0 h_x0 r hf)
-- yX9_said
theorem dX9_said_0 : decode cX9_said 0 = .ok (.aload_n 0, 1) := by decide +kernel
theorem dX9_said_1 : decode cX9_said 1 = .ok (.getfield 46, 3) := by decide +kernel
theorem dX9_said_4 : decode cX9_said 4 = .ok (.iload_n 1, 1) := by decide +kernel
theorem dX9_said_5 : decode cX9_said 5 = .ok (.invokevirtual 79, 3) := by decide +kernel
theorem dX9_said_8 : decode cX9_said 8 = .ok (.ifCond .eq 18, 3) := by decide +kernel
theorem dX9_said_11 : decode cX9_said 11 = .ok (.aload_n 0, 1) := by decide +kernel
theorem dX9_said_12 : decode cX9_said 12 = .ok (.getfield 26, 3) := by decide +kernel
theorem dX9_said_15 : decode cX9_said 15 = .ok (.aload_n 0, 1) := by decide +kernel
theorem dX9_said_16 : decode cX9_said 16 = .ok (.getfield 46, 3) := by decide +kernel
theorem dX9_said_19 : decode cX9_said 19 = .ok (.iload_n 1, 1) := by decide +kernel
theorem dX9_said_20 : decode cX9_said 20 = .ok (.invokevirtual 200, 3) := by decide +kernel
theorem dX9_said_23 : decode cX9_said 23 = .ok (.goto 4, 3) := by decide +kernel
theorem dX9_said_26 : decode cX9_said 26 = .ok (.iconst (-1), 1) := by decide +kernel
theorem dX9_said_27 : decode cX9_said 27 = .ok (.ireturn, 1) := by decide +kernel
def r_X9_said : Room := { frames := 6, cells := 0, slots := 0, locals := 141 }
def f_X9_said (P : PH) (x0 : Nat) (x1 : Int32) : Option (Int32 × PH) :=
  ((f_X2_isPerson P (P.2.2 x0 6) x1).bind fun q2 => (if (b2i q2) = 0 then some ((-1 : Int32), P) else ((f_X7_heirsThatFit P (P.2.2 x0 2) (P.2.2 x0 6) x1).bind fun q5 => some (q5.1, q5.2))))
theorem w_X9_said {x : Fx} {E : Ev} (S : ZS x E r_X9_said cX9_said 2 RX9 (some .int)) (M : ZM x E) (P : PH) (x0 : Nat) (x1 : Int32) (h_x0 : ok x0 7 0) (r : (Int32 × PH)) (hf : f_X9_said P x0 x1 = some r) : Wz x E 2 (QI E x r.1 r.2) P 0 [(0, .ref (ad E x0)), (1, .int x1)] [] := by
  unfold f_X9_said at hf
  refine z_aload_n S 0 dX9_said_0 rfl rfl ?_
  refine z_getR (K' := 1) (n' := 0) S cf_7 h_x0 6 (by decide) rfl rfl rfl wd257 dX9_said_1 (fun h1 => ?_)
  refine z_iload_n S 1 dX9_said_4 rfl rfl ?_
  refine z_callVI (rc := r_X2_isPerson) [.int x1] S mo_X2_isPerson wd334 wd335 wd365 h1 (by decide) cl_1 rfl rfl (by decide) (z_room0 S M (by rfl) (by rfl)) rfl (Nat.le_of_ble_eq_true rfl) rfl dX9_said_5 (fun q => b2i q) (fun _ => P) (fun q hq => m_X2_isPerson (xl x) E _ _ _ h1 q hq) hf (fun q2 hf => ?_)
  refine z_if_eq (tgt := 26) S dX9_said_8 (by decide) hf (fun hf => ?_) (fun hf => ?_)
  · refine z_iconst (v := (-1 : Int32)) S dX9_said_26 (by decide) ?_
    exact z_iretI (v := (-1 : Int32)) S M rfl dX9_said_27 hf
  · refine z_aload_n S 0 dX9_said_11 rfl rfl ?_
    refine z_getR (K' := 5) (n' := 0) S cf_7 h_x0 2 (by decide) rfl rfl rfl wd253 dX9_said_12 (fun h3 => ?_)
    refine z_aload_n S 0 dX9_said_15 rfl rfl ?_
    refine z_getR (K' := 1) (n' := 0) S cf_7 h_x0 6 (by decide) rfl rfl rfl wd257 dX9_said_16 (fun h4 => ?_)
    refine z_iload_n S 1 dX9_said_19 rfl rfl ?_
    refine z_callVI (rc := r_X7_heirsThatFit) [.ref (ad E (P.2.2 x0 6)), .int x1] S mo_X7_heirsThatFit wd558 wd559 wd557 h3 (by decide) cl_5 rfl rfl (by decide) (z_room0 S M (by rfl) (by rfl)) rfl (Nat.le_of_ble_eq_true rfl) rfl dX9_said_20 (fun q => q.1) (fun q => q.2) (fun q hq => m_X7_heirsThatFit (xl x) E _ _ _ _ h3 h4 q hq) hf (fun q5 hf => ?_)
    refine z_goto (tgt := 27) S dX9_said_23 (by decide) ?_
    exact z_iretI (v := q5.1) S M rfl dX9_said_27 hf
theorem m_X9_said (l : Launch) (E : Ev) (P : PH) (x0 : Nat) (x1 : Int32) (h_x0 : ok x0 7 0) (r : (Int32 × PH)) (hf : f_X9_said P x0 x1 = some r) : CtI l E yX9_said cX9_said 2 (some .int) r_X9_said [.ref (ad E x0), .int x1] P r.1 r.2 :=
  z_body (own := RX9) (by decide +kernel) rfl (Nat.le_of_ble_eq_true rfl) rfl (fun x _ S M => w_X9_said S M P x0 x1 h_x0 r hf)
-- yX9_last
theorem dX9_last_0 : decode cX9_last 0 = .ok (.aload_n 0, 1) := by decide +kernel
theorem dX9_last_1 : decode cX9_last 1 = .ok (.iload_n 1, 1) := by decide +kernel
theorem dX9_last_2 : decode cX9_last 2 = .ok (.invokevirtual 178, 3) := by decide +kernel
theorem dX9_last_5 : decode cX9_last 5 = .ok (.istore_n 2, 1) := by decide +kernel
theorem dX9_last_6 : decode cX9_last 6 = .ok (.iload_n 2, 1) := by decide +kernel
theorem dX9_last_7 : decode cX9_last 7 = .ok (.ifCond .eq 7, 3) := by decide +kernel
theorem dX9_last_10 : decode cX9_last 10 = .ok (.iload_n 2, 1) := by decide +kernel
theorem dX9_last_11 : decode cX9_last 11 = .ok (.goto 17, 3) := by decide +kernel
theorem dX9_last_14 : decode cX9_last 14 = .ok (.aload_n 0, 1) := by decide +kernel
theorem dX9_last_15 : decode cX9_last 15 = .ok (.getfield 46, 3) := by decide +kernel
theorem dX9_last_18 : decode cX9_last 18 = .ok (.iload_n 1, 1) := by decide +kernel
theorem dX9_last_19 : decode cX9_last 19 = .ok (.iconst 1, 1) := by decide +kernel
theorem dX9_last_20 : decode cX9_last 20 = .ok (.iload_n 1, 1) := by decide +kernel
theorem dX9_last_21 : decode cX9_last 21 = .ok (.ishl, 1) := by decide +kernel
theorem dX9_last_22 : decode cX9_last 22 = .ok (.invokevirtual 203, 3) := by decide +kernel
theorem dX9_last_25 : decode cX9_last 25 = .ok (.invokestatic 153, 3) := by decide +kernel
theorem dX9_last_28 : decode cX9_last 28 = .ok (.ireturn, 1) := by decide +kernel
def r_X9_last : Room := { frames := 3, cells := 0, slots := 0, locals := 63 }
def f_X9_last (P : PH) (x0 : Nat) (x1 : Int32) : Option Int32 :=
  ((f_X9_unlessAlive P x0 x1).bind fun q1 => (if q1 = 0 then ((f_X2_owned P (P.2.2 x0 6) x1 ((1 : Int32) <<< (x1 &&& 31))).bind fun q3 => ((f_J6_bitCount_0f7a4 P q3).bind fun q4 => some q4)) else some q1))
theorem w_X9_last {x : Fx} {E : Ev} (S : ZS x E r_X9_last cX9_last 3 RX9 (some .int)) (M : ZM x E) (P : PH) (x0 : Nat) (x1 : Int32) (h_x0 : ok x0 7 0) (r : Int32) (hf : f_X9_last P x0 x1 = some r) : Wz x E 3 (QI E x r P) P 0 [(0, .ref (ad E x0)), (1, .int x1)] [] := by
  unfold f_X9_last at hf
  refine z_aload_n S 0 dX9_last_0 rfl rfl ?_
  refine z_iload_n S 1 dX9_last_1 rfl rfl ?_
  refine z_callVI (rc := r_X9_unlessAlive) [.int x1] S mo_X9_unlessAlive wd501 wd6 wd499 h_x0 (by decide) cl_7 rfl rfl (by decide) (z_room0 S M (by rfl) (by rfl)) rfl (Nat.le_of_ble_eq_true rfl) rfl dX9_last_2 (fun q => q) (fun _ => P) (fun q hq => m_X9_unlessAlive (xl x) E _ _ _ h_x0 q hq) hf (fun q1 hf => ?_)
  refine z_istore_n (lv' := [(2, .int q1), (0, .ref (ad E x0)), (1, .int x1)]) S dX9_last_5 rfl (by decide) rfl ?_
  refine z_iload_n S 0 dX9_last_6 rfl rfl ?_
  refine z_if_eq (tgt := 14) S dX9_last_7 (by decide) hf (fun hf => ?_) (fun hf => ?_)
  · refine z_aload_n S 1 dX9_last_14 rfl rfl ?_
    refine z_getR (K' := 1) (n' := 0) S cf_7 h_x0 6 (by decide) rfl rfl rfl wd257 dX9_last_15 (fun h2 => ?_)
    refine z_iload_n S 2 dX9_last_18 rfl rfl ?_
    refine z_iconst (v := 1) S dX9_last_19 (by decide) ?_
    refine z_iload_n S 2 dX9_last_20 rfl rfl ?_
    refine z_ishl S dX9_last_21 ?_
    refine z_callVI (rc := r_X2_owned) [.int x1, .int ((1 : Int32) <<< (x1 &&& 31))] S mo_X2_owned wd380 wd381 wd570 h2 (by decide) cl_1 rfl rfl (by decide) (z_room0 S M (by rfl) (by rfl)) rfl (Nat.le_of_ble_eq_true rfl) rfl dX9_last_22 (fun q => q) (fun _ => P) (fun q hq => m_X2_owned (xl x) E _ _ _ _ h2 q hq) hf (fun q3 hf => ?_)
    refine z_callSI (rc := r_J6_bitCount_0f7a4) [.int q3] S mo_J6_bitCount_0f7a4 wd455 wd454 rfl rfl (by decide) (z_room0 S M (by rfl) (by rfl)) rfl (Nat.le_of_ble_eq_true rfl) rfl dX9_last_25 (fun q => q) (fun _ => P) (fun q hq => m_J6_bitCount_0f7a4 (xl x) E _ _  q hq) hf (fun q4 hf => ?_)
    exact z_iretP (v := q4) S M rfl dX9_last_28 hf
  · refine z_iload_n S 0 dX9_last_10 rfl rfl ?_
    refine z_goto (tgt := 28) S dX9_last_11 (by decide) ?_
    exact z_iretP (v := q1) S M rfl dX9_last_28 hf
theorem m_X9_last (l : Launch) (E : Ev) (P : PH) (x0 : Nat) (x1 : Int32) (h_x0 : ok x0 7 0) (r : Int32) (hf : f_X9_last P x0 x1 = some r) : CtI l E yX9_last cX9_last 3 (some .int) r_X9_last [.ref (ad E x0), .int x1] P r P :=
  z_body (own := RX9) (by decide +kernel) rfl (Nat.le_of_ble_eq_true rfl) rfl (fun x _ S M => w_X9_last S M P x0 x1 h_x0 r hf)
-- yX9_waits
theorem dX9_waits_0 : decode cX9_waits 0 = .ok (.aload_n 0, 1) := by decide +kernel
theorem dX9_waits_1 : decode cX9_waits 1 = .ok (.getfield 46, 3) := by decide +kernel
theorem dX9_waits_4 : decode cX9_waits 4 = .ok (.iload_n 2, 1) := by decide +kernel
theorem dX9_waits_5 : decode cX9_waits 5 = .ok (.invokevirtual 117, 3) := by decide +kernel
theorem dX9_waits_8 : decode cX9_waits 8 = .ok (.ifCond .ne 5, 3) := by decide +kernel
theorem dX9_waits_11 : decode cX9_waits 11 = .ok (.iconst (-1), 1) := by decide +kernel
theorem dX9_waits_12 : decode cX9_waits 12 = .ok (.ireturn, 1) := by decide +kernel
theorem dX9_waits_13 : decode cX9_waits 13 = .ok (.aload_n 0, 1) := by decide +kernel
theorem dX9_waits_14 : decode cX9_waits 14 = .ok (.iload_n 1, 1) := by decide +kernel
theorem dX9_waits_15 : decode cX9_waits 15 = .ok (.invokevirtual 178, 3) := by decide +kernel
theorem dX9_waits_18 : decode cX9_waits 18 = .ok (.istore_n 3, 1) := by decide +kernel
theorem dX9_waits_19 : decode cX9_waits 19 = .ok (.iload_n 3, 1) := by decide +kernel
theorem dX9_waits_20 : decode cX9_waits 20 = .ok (.ifCond .eq 7, 3) := by decide +kernel
theorem dX9_waits_23 : decode cX9_waits 23 = .ok (.iload_n 3, 1) := by decide +kernel
theorem dX9_waits_24 : decode cX9_waits 24 = .ok (.goto 12, 3) := by decide +kernel
theorem dX9_waits_27 : decode cX9_waits 27 = .ok (.aload_n 0, 1) := by decide +kernel
theorem dX9_waits_28 : decode cX9_waits 28 = .ok (.getfield 46, 3) := by decide +kernel
theorem dX9_waits_31 : decode cX9_waits 31 = .ok (.iload_n 1, 1) := by decide +kernel
theorem dX9_waits_32 : decode cX9_waits 32 = .ok (.iload_n 2, 1) := by decide +kernel
theorem dX9_waits_33 : decode cX9_waits 33 = .ok (.invokestatic 206, 3) := by decide +kernel
theorem dX9_waits_36 : decode cX9_waits 36 = .ok (.ireturn, 1) := by decide +kernel
def r_X9_waits : Room := { frames := 3, cells := 0, slots := 0, locals := 63 }
def f_X9_waits (P : PH) (x0 : Nat) (x1 : Int32) (x2 : Int32) : Option Int32 :=
  ((f_X2_isRoom P (P.2.2 x0 6) x2).bind fun q2 => (if (b2i q2) = 0 then some (-1 : Int32) else ((f_X9_unlessAlive P x0 x1).bind fun q3 => (if q3 = 0 then ((f_X0_fewestBefore P (P.2.2 x0 6) x1 x2).bind fun q5 => some q5) else some q3))))
theorem w_X9_waits {x : Fx} {E : Ev} (S : ZS x E r_X9_waits cX9_waits 4 RX9 (some .int)) (M : ZM x E) (P : PH) (x0 : Nat) (x1 : Int32) (x2 : Int32) (h_x0 : ok x0 7 0) (r : Int32) (hf : f_X9_waits P x0 x1 x2 = some r) : Wz x E 4 (QI E x r P) P 0 [(0, .ref (ad E x0)), (1, .int x1), (2, .int x2)] [] := by
  unfold f_X9_waits at hf
  refine z_aload_n S 0 dX9_waits_0 rfl rfl ?_
  refine z_getR (K' := 1) (n' := 0) S cf_7 h_x0 6 (by decide) rfl rfl rfl wd257 dX9_waits_1 (fun h1 => ?_)
  refine z_iload_n S 2 dX9_waits_4 rfl rfl ?_
  refine z_callVI (rc := r_X2_isRoom) [.int x2] S mo_X2_isRoom wd338 wd339 wd412 h1 (by decide) cl_1 rfl rfl (by decide) (z_room0 S M (by rfl) (by rfl)) rfl (Nat.le_of_ble_eq_true rfl) rfl dX9_waits_5 (fun q => b2i q) (fun _ => P) (fun q hq => m_X2_isRoom (xl x) E _ _ _ h1 q hq) hf (fun q2 hf => ?_)
  refine z_if_ne (tgt := 13) S dX9_waits_8 (by decide) hf (fun hf => ?_) (fun hf => ?_)
  · refine z_iconst (v := (-1 : Int32)) S dX9_waits_11 (by decide) ?_
    exact z_iretP (v := (-1 : Int32)) S M rfl dX9_waits_12 hf
  · refine z_aload_n S 0 dX9_waits_13 rfl rfl ?_
    refine z_iload_n S 1 dX9_waits_14 rfl rfl ?_
    refine z_callVI (rc := r_X9_unlessAlive) [.int x1] S mo_X9_unlessAlive wd501 wd6 wd499 h_x0 (by decide) cl_7 rfl rfl (by decide) (z_room0 S M (by rfl) (by rfl)) rfl (Nat.le_of_ble_eq_true rfl) rfl dX9_waits_15 (fun q => q) (fun _ => P) (fun q hq => m_X9_unlessAlive (xl x) E _ _ _ h_x0 q hq) hf (fun q3 hf => ?_)
    refine z_istore_n (lv' := [(3, .int q3), (0, .ref (ad E x0)), (1, .int x1), (2, .int x2)]) S dX9_waits_18 rfl (by decide) rfl ?_
    refine z_iload_n S 0 dX9_waits_19 rfl rfl ?_
    refine z_if_eq (tgt := 27) S dX9_waits_20 (by decide) hf (fun hf => ?_) (fun hf => ?_)
    · refine z_aload_n S 1 dX9_waits_27 rfl rfl ?_
      refine z_getR (K' := 1) (n' := 0) S cf_7 h_x0 6 (by decide) rfl rfl rfl wd257 dX9_waits_28 (fun h4 => ?_)
      refine z_iload_n S 2 dX9_waits_31 rfl rfl ?_
      refine z_iload_n S 3 dX9_waits_32 rfl rfl ?_
      refine z_callSI (rc := r_X0_fewestBefore) [.ref (ad E (P.2.2 x0 6)), .int x1, .int x2] S mo_X0_fewestBefore wd576 wd575 rfl rfl (by decide) (z_room0 S M (by rfl) (by rfl)) rfl (Nat.le_of_ble_eq_true rfl) rfl dX9_waits_33 (fun q => q) (fun _ => P) (fun q hq => m_X0_fewestBefore (xl x) E _ _ _ _ h4 q hq) hf (fun q5 hf => ?_)
      exact z_iretP (v := q5) S M rfl dX9_waits_36 hf
    · refine z_iload_n S 0 dX9_waits_23 rfl rfl ?_
      refine z_goto (tgt := 36) S dX9_waits_24 (by decide) ?_
      exact z_iretP (v := q3) S M rfl dX9_waits_36 hf
theorem m_X9_waits (l : Launch) (E : Ev) (P : PH) (x0 : Nat) (x1 : Int32) (x2 : Int32) (h_x0 : ok x0 7 0) (r : Int32) (hf : f_X9_waits P x0 x1 x2 = some r) : CtI l E yX9_waits cX9_waits 4 (some .int) r_X9_waits [.ref (ad E x0), .int x1, .int x2] P r P :=
  z_body (own := RX9) (by decide +kernel) rfl (Nat.le_of_ble_eq_true rfl) rfl (fun x _ S M => w_X9_waits S M P x0 x1 x2 h_x0 r hf)
-- yX9_odds
theorem dX9_odds_0 : decode cX9_odds 0 = .ok (.iload_n 2, 1) := by decide +kernel
theorem dX9_odds_1 : decode cX9_odds 1 = .ok (.ifCond .lt 18, 3) := by decide +kernel
theorem dX9_odds_4 : decode cX9_odds 4 = .ok (.iload_n 2, 1) := by decide +kernel
theorem dX9_odds_5 : decode cX9_odds 5 = .ok (.bipush 10, 2) := by decide +kernel
theorem dX9_odds_7 : decode cX9_odds 7 = .ok (.if_icmp .gt 12, 3) := by decide +kernel
theorem dX9_odds_10 : decode cX9_odds 10 = .ok (.iload_n 3, 1) := by decide +kernel
theorem dX9_odds_11 : decode cX9_odds 11 = .ok (.ifCond .lt 8, 3) := by decide +kernel
theorem dX9_odds_14 : decode cX9_odds 14 = .ok (.iload_n 3, 1) := by decide +kernel
theorem dX9_odds_15 : decode cX9_odds 15 = .ok (.iconst 1, 1) := by decide +kernel
theorem dX9_odds_16 : decode cX9_odds 16 = .ok (.if_icmp .le 5, 3) := by decide +kernel
theorem dX9_odds_19 : decode cX9_odds 19 = .ok (.iconst (-1), 1) := by decide +kernel
theorem dX9_odds_20 : decode cX9_odds 20 = .ok (.ireturn, 1) := by decide +kernel
theorem dX9_odds_21 : decode cX9_odds 21 = .ok (.aload_n 0, 1) := by decide +kernel
theorem dX9_odds_22 : decode cX9_odds 22 = .ok (.iload_n 1, 1) := by decide +kernel
theorem dX9_odds_23 : decode cX9_odds 23 = .ok (.invokevirtual 178, 3) := by decide +kernel
theorem dX9_odds_26 : decode cX9_odds 26 = .ok (.istore 4, 2) := by decide +kernel
theorem dX9_odds_28 : decode cX9_odds 28 = .ok (.iload 4, 2) := by decide +kernel
theorem dX9_odds_30 : decode cX9_odds 30 = .ok (.ifCond .eq 8, 3) := by decide +kernel
theorem dX9_odds_33 : decode cX9_odds 33 = .ok (.iload 4, 2) := by decide +kernel
theorem dX9_odds_35 : decode cX9_odds 35 = .ok (.goto 21, 3) := by decide +kernel
theorem dX9_odds_38 : decode cX9_odds 38 = .ok (.aload_n 0, 1) := by decide +kernel
theorem dX9_odds_39 : decode cX9_odds 39 = .ok (.getfield 46, 3) := by decide +kernel
theorem dX9_odds_42 : decode cX9_odds 42 = .ok (.iload_n 1, 1) := by decide +kernel
theorem dX9_odds_43 : decode cX9_odds 43 = .ok (.iload_n 2, 1) := by decide +kernel
theorem dX9_odds_44 : decode cX9_odds 44 = .ok (.iload_n 3, 1) := by decide +kernel
theorem dX9_odds_45 : decode cX9_odds 45 = .ok (.ifCond .ne 7, 3) := by decide +kernel
theorem dX9_odds_48 : decode cX9_odds 48 = .ok (.iconst 1, 1) := by decide +kernel
theorem dX9_odds_49 : decode cX9_odds 49 = .ok (.goto 4, 3) := by decide +kernel
theorem dX9_odds_52 : decode cX9_odds 52 = .ok (.iconst 0, 1) := by decide +kernel
theorem dX9_odds_53 : decode cX9_odds 53 = .ok (.invokestatic 211, 3) := by decide +kernel
theorem dX9_odds_56 : decode cX9_odds 56 = .ok (.ireturn, 1) := by decide +kernel
def r_X9_odds : Room := { frames := 5, cells := 0, slots := 0, locals := 126 }
def f_X9_odds (P : PH) (x0 : Nat) (x1 : Int32) (x2 : Int32) (x3 : Int32) : Option Int32 :=
  (if x2 < 0 then some (-1 : Int32) else (if (10 : Int32) < x2 then some (-1 : Int32) else (if x3 < 0 then some (-1 : Int32) else (if x3 ≤ (1 : Int32) then ((f_X9_unlessAlive P x0 x1).bind fun q1 => (if q1 = 0 then (if x3 = 0 then ((f_X0_chance P (P.2.2 x0 6) x1 x2 (1 : Int32)).bind fun q3 => some q3) else ((f_X0_chance P (P.2.2 x0 6) x1 x2 (0 : Int32)).bind fun q4 => some q4)) else some q1)) else some (-1 : Int32)))))
theorem w_X9_odds {x : Fx} {E : Ev} (S : ZS x E r_X9_odds cX9_odds 5 RX9 (some .int)) (M : ZM x E) (P : PH) (x0 : Nat) (x1 : Int32) (x2 : Int32) (x3 : Int32) (h_x0 : ok x0 7 0) (r : Int32) (hf : f_X9_odds P x0 x1 x2 x3 = some r) : Wz x E 5 (QI E x r P) P 0 [(0, .ref (ad E x0)), (1, .int x1), (2, .int x2), (3, .int x3)] [] := by
  unfold f_X9_odds at hf
  refine z_iload_n S 2 dX9_odds_0 rfl rfl ?_
  refine z_if_lt (tgt := 19) S dX9_odds_1 (by decide) hf (fun hf => ?_) (fun hf => ?_)
  · refine z_iconst (v := (-1 : Int32)) S dX9_odds_19 (by decide) ?_
    exact z_iretP (v := (-1 : Int32)) S M rfl dX9_odds_20 hf
  · refine z_iload_n S 2 dX9_odds_4 rfl rfl ?_
    refine z_bipush (v := 10) S dX9_odds_5 (by decide) ?_
    refine z_icmp_gt (tgt := 19) S dX9_odds_7 (by decide) hf (fun hf => ?_) (fun hf => ?_)
    · refine z_iconst (v := (-1 : Int32)) S dX9_odds_19 (by decide) ?_
      exact z_iretP (v := (-1 : Int32)) S M rfl dX9_odds_20 hf
    · refine z_iload_n S 3 dX9_odds_10 rfl rfl ?_
      refine z_if_lt (tgt := 19) S dX9_odds_11 (by decide) hf (fun hf => ?_) (fun hf => ?_)
      · refine z_iconst (v := (-1 : Int32)) S dX9_odds_19 (by decide) ?_
        exact z_iretP (v := (-1 : Int32)) S M rfl dX9_odds_20 hf
      · refine z_iload_n S 3 dX9_odds_14 rfl rfl ?_
        refine z_iconst (v := 1) S dX9_odds_15 (by decide) ?_
        refine z_icmp_le (tgt := 21) S dX9_odds_16 (by decide) hf (fun hf => ?_) (fun hf => ?_)
        · refine z_aload_n S 0 dX9_odds_21 rfl rfl ?_
          refine z_iload_n S 1 dX9_odds_22 rfl rfl ?_
          refine z_callVI (rc := r_X9_unlessAlive) [.int x1] S mo_X9_unlessAlive wd501 wd6 wd499 h_x0 (by decide) cl_7 rfl rfl (by decide) (z_room0 S M (by rfl) (by rfl)) rfl (Nat.le_of_ble_eq_true rfl) rfl dX9_odds_23 (fun q => q) (fun _ => P) (fun q hq => m_X9_unlessAlive (xl x) E _ _ _ h_x0 q hq) hf (fun q1 hf => ?_)
          refine z_istore (lv' := [(4, .int q1), (0, .ref (ad E x0)), (1, .int x1), (2, .int x2), (3, .int x3)]) S dX9_odds_26 (by decide) rfl ?_
          refine z_iload S 0 dX9_odds_28 rfl ?_
          refine z_if_eq (tgt := 38) S dX9_odds_30 (by decide) hf (fun hf => ?_) (fun hf => ?_)
          · refine z_aload_n S 1 dX9_odds_38 rfl rfl ?_
            refine z_getR (K' := 1) (n' := 0) S cf_7 h_x0 6 (by decide) rfl rfl rfl wd257 dX9_odds_39 (fun h2 => ?_)
            refine z_iload_n S 2 dX9_odds_42 rfl rfl ?_
            refine z_iload_n S 3 dX9_odds_43 rfl rfl ?_
            refine z_iload_n S 4 dX9_odds_44 rfl rfl ?_
            refine z_if_ne (tgt := 52) S dX9_odds_45 (by decide) hf (fun hf => ?_) (fun hf => ?_)
            · refine z_iconst (v := 1) S dX9_odds_48 (by decide) ?_
              refine z_goto (tgt := 53) S dX9_odds_49 (by decide) ?_
              refine z_callSI (rc := r_X0_chance) [.ref (ad E (P.2.2 x0 6)), .int x1, .int x2, .int (1 : Int32)] S mo_X0_chance wd588 wd587 rfl rfl (by decide) (z_room0 S M (by rfl) (by rfl)) rfl (Nat.le_of_ble_eq_true rfl) rfl dX9_odds_53 (fun q => q) (fun _ => P) (fun q hq => m_X0_chance (xl x) E _ _ _ _ _ h2 q hq) hf (fun q3 hf => ?_)
              exact z_iretP (v := q3) S M rfl dX9_odds_56 hf
            · refine z_iconst (v := 0) S dX9_odds_52 (by decide) ?_
              refine z_callSI (rc := r_X0_chance) [.ref (ad E (P.2.2 x0 6)), .int x1, .int x2, .int (0 : Int32)] S mo_X0_chance wd588 wd587 rfl rfl (by decide) (z_room0 S M (by rfl) (by rfl)) rfl (Nat.le_of_ble_eq_true rfl) rfl dX9_odds_53 (fun q => q) (fun _ => P) (fun q hq => m_X0_chance (xl x) E _ _ _ _ _ h2 q hq) hf (fun q4 hf => ?_)
              exact z_iretP (v := q4) S M rfl dX9_odds_56 hf
          · refine z_iload S 0 dX9_odds_33 rfl ?_
            refine z_goto (tgt := 56) S dX9_odds_35 (by decide) ?_
            exact z_iretP (v := q1) S M rfl dX9_odds_56 hf
        · refine z_iconst (v := (-1 : Int32)) S dX9_odds_19 (by decide) ?_
          exact z_iretP (v := (-1 : Int32)) S M rfl dX9_odds_20 hf
theorem m_X9_odds (l : Launch) (E : Ev) (P : PH) (x0 : Nat) (x1 : Int32) (x2 : Int32) (x3 : Int32) (h_x0 : ok x0 7 0) (r : Int32) (hf : f_X9_odds P x0 x1 x2 x3 = some r) : CtI l E yX9_odds cX9_odds 5 (some .int) r_X9_odds [.ref (ad E x0), .int x1, .int x2, .int x3] P r P :=
  z_body (own := RX9) (by decide +kernel) rfl (Nat.le_of_ble_eq_true rfl) rfl (fun x _ S M => w_X9_odds S M P x0 x1 x2 x3 h_x0 r hf)
-- yX9_rate
theorem dX9_rate_0 : decode cX9_rate 0 = .ok (.aload_n 0, 1) := by decide +kernel
theorem dX9_rate_1 : decode cX9_rate 1 = .ok (.getfield 46, 3) := by decide +kernel
theorem dX9_rate_4 : decode cX9_rate 4 = .ok (.iload_n 2, 1) := by decide +kernel
theorem dX9_rate_5 : decode cX9_rate 5 = .ok (.invokevirtual 117, 3) := by decide +kernel
theorem dX9_rate_8 : decode cX9_rate 8 = .ok (.ifCond .ne 6, 3) := by decide +kernel
theorem dX9_rate_11 : decode cX9_rate 11 = .ok (.ldc 215, 2) := by decide +kernel
theorem dX9_rate_13 : decode cX9_rate 13 = .ok (.ireturn, 1) := by decide +kernel
theorem dX9_rate_14 : decode cX9_rate 14 = .ok (.iload_n 1, 1) := by decide +kernel
theorem dX9_rate_15 : decode cX9_rate 15 = .ok (.tableswitch 115 0 5 #[37, 50, 63, 76, 89, 102], 37) := by decide +kernel
theorem dX9_rate_52 : decode cX9_rate 52 = .ok (.aload_n 0, 1) := by decide +kernel
theorem dX9_rate_53 : decode cX9_rate 53 = .ok (.getfield 33, 3) := by decide +kernel
theorem dX9_rate_56 : decode cX9_rate 56 = .ok (.aload_n 0, 1) := by decide +kernel
theorem dX9_rate_57 : decode cX9_rate 57 = .ok (.getfield 46, 3) := by decide +kernel
theorem dX9_rate_60 : decode cX9_rate 60 = .ok (.iload_n 2, 1) := by decide +kernel
theorem dX9_rate_61 : decode cX9_rate 61 = .ok (.invokevirtual 216, 3) := by decide +kernel
theorem dX9_rate_64 : decode cX9_rate 64 = .ok (.ireturn, 1) := by decide +kernel
theorem dX9_rate_65 : decode cX9_rate 65 = .ok (.aload_n 0, 1) := by decide +kernel
theorem dX9_rate_66 : decode cX9_rate 66 = .ok (.getfield 33, 3) := by decide +kernel
theorem dX9_rate_69 : decode cX9_rate 69 = .ok (.aload_n 0, 1) := by decide +kernel
theorem dX9_rate_70 : decode cX9_rate 70 = .ok (.getfield 46, 3) := by decide +kernel
theorem dX9_rate_73 : decode cX9_rate 73 = .ok (.iload_n 2, 1) := by decide +kernel
theorem dX9_rate_74 : decode cX9_rate 74 = .ok (.invokevirtual 219, 3) := by decide +kernel
theorem dX9_rate_77 : decode cX9_rate 77 = .ok (.ireturn, 1) := by decide +kernel
theorem dX9_rate_78 : decode cX9_rate 78 = .ok (.aload_n 0, 1) := by decide +kernel
theorem dX9_rate_79 : decode cX9_rate 79 = .ok (.getfield 33, 3) := by decide +kernel
theorem dX9_rate_82 : decode cX9_rate 82 = .ok (.aload_n 0, 1) := by decide +kernel
theorem dX9_rate_83 : decode cX9_rate 83 = .ok (.getfield 46, 3) := by decide +kernel
theorem dX9_rate_86 : decode cX9_rate 86 = .ok (.iload_n 2, 1) := by decide +kernel
theorem dX9_rate_87 : decode cX9_rate 87 = .ok (.invokevirtual 222, 3) := by decide +kernel
theorem dX9_rate_90 : decode cX9_rate 90 = .ok (.ireturn, 1) := by decide +kernel
theorem dX9_rate_91 : decode cX9_rate 91 = .ok (.aload_n 0, 1) := by decide +kernel
theorem dX9_rate_92 : decode cX9_rate 92 = .ok (.getfield 33, 3) := by decide +kernel
theorem dX9_rate_95 : decode cX9_rate 95 = .ok (.aload_n 0, 1) := by decide +kernel
theorem dX9_rate_96 : decode cX9_rate 96 = .ok (.getfield 46, 3) := by decide +kernel
theorem dX9_rate_99 : decode cX9_rate 99 = .ok (.iload_n 2, 1) := by decide +kernel
theorem dX9_rate_100 : decode cX9_rate 100 = .ok (.invokevirtual 225, 3) := by decide +kernel
theorem dX9_rate_103 : decode cX9_rate 103 = .ok (.ireturn, 1) := by decide +kernel
theorem dX9_rate_104 : decode cX9_rate 104 = .ok (.aload_n 0, 1) := by decide +kernel
theorem dX9_rate_105 : decode cX9_rate 105 = .ok (.getfield 33, 3) := by decide +kernel
theorem dX9_rate_108 : decode cX9_rate 108 = .ok (.aload_n 0, 1) := by decide +kernel
theorem dX9_rate_109 : decode cX9_rate 109 = .ok (.getfield 46, 3) := by decide +kernel
theorem dX9_rate_112 : decode cX9_rate 112 = .ok (.iload_n 2, 1) := by decide +kernel
theorem dX9_rate_113 : decode cX9_rate 113 = .ok (.invokevirtual 228, 3) := by decide +kernel
theorem dX9_rate_116 : decode cX9_rate 116 = .ok (.ireturn, 1) := by decide +kernel
theorem dX9_rate_117 : decode cX9_rate 117 = .ok (.aload_n 0, 1) := by decide +kernel
theorem dX9_rate_118 : decode cX9_rate 118 = .ok (.getfield 33, 3) := by decide +kernel
theorem dX9_rate_121 : decode cX9_rate 121 = .ok (.aload_n 0, 1) := by decide +kernel
theorem dX9_rate_122 : decode cX9_rate 122 = .ok (.getfield 46, 3) := by decide +kernel
theorem dX9_rate_125 : decode cX9_rate 125 = .ok (.iload_n 2, 1) := by decide +kernel
theorem dX9_rate_126 : decode cX9_rate 126 = .ok (.invokevirtual 231, 3) := by decide +kernel
theorem dX9_rate_129 : decode cX9_rate 129 = .ok (.ireturn, 1) := by decide +kernel
theorem dX9_rate_130 : decode cX9_rate 130 = .ok (.ldc 215, 2) := by decide +kernel
theorem dX9_rate_132 : decode cX9_rate 132 = .ok (.ireturn, 1) := by decide +kernel
def r_X9_rate : Room := { frames := 6, cells := 0, slots := 0, locals := 140 }
def f_X9_rate (P : PH) (x0 : Nat) (x1 : Int32) (x2 : Int32) : Option (Int32 × PH) :=
  ((f_X2_isRoom P (P.2.2 x0 6) x2).bind fun q2 => (if (b2i q2) = 0 then some ((-1000000 : Int32), P) else (if x1 = (0 : Int32) then ((f_X5_asRoom P (P.2.2 x0 3) (P.2.2 x0 6) x2).bind fun q6 => some (q6.1, q6.2)) else (if x1 = (1 : Int32) then ((f_X5_asHall P (P.2.2 x0 3) (P.2.2 x0 6) x2).bind fun q10 => some (q10.1, q10.2)) else (if x1 = (2 : Int32) then ((f_X5_asStair P (P.2.2 x0 3) (P.2.2 x0 6) x2).bind fun q14 => some (q14.1, q14.2)) else (if x1 = (3 : Int32) then ((f_X5_asAttic P (P.2.2 x0 3) (P.2.2 x0 6) x2).bind fun q18 => some (q18.1, q18.2)) else (if x1 = (4 : Int32) then ((f_X5_asCellar P (P.2.2 x0 3) (P.2.2 x0 6) x2).bind fun q22 => some (q22.1, q22.2)) else (if x1 = (5 : Int32) then ((f_X5_asBath P (P.2.2 x0 3) (P.2.2 x0 6) x2).bind fun q26 => some (q26.1, q26.2)) else some ((-1000000 : Int32), P)))))))))
theorem w_X9_rate {x : Fx} {E : Ev} (S : ZS x E r_X9_rate cX9_rate 3 RX9 (some .int)) (M : ZM x E) (P : PH) (x0 : Nat) (x1 : Int32) (x2 : Int32) (h_x0 : ok x0 7 0) (r : (Int32 × PH)) (hf : f_X9_rate P x0 x1 x2 = some r) : Wz x E 3 (QI E x r.1 r.2) P 0 [(0, .ref (ad E x0)), (1, .int x1), (2, .int x2)] [] := by
  unfold f_X9_rate at hf
  refine z_aload_n S 0 dX9_rate_0 rfl rfl ?_
  refine z_getR (K' := 1) (n' := 0) S cf_7 h_x0 6 (by decide) rfl rfl rfl wd257 dX9_rate_1 (fun h1 => ?_)
  refine z_iload_n S 2 dX9_rate_4 rfl rfl ?_
  refine z_callVI (rc := r_X2_isRoom) [.int x2] S mo_X2_isRoom wd338 wd339 wd412 h1 (by decide) cl_1 rfl rfl (by decide) (z_room0 S M (by rfl) (by rfl)) rfl (Nat.le_of_ble_eq_true rfl) rfl dX9_rate_5 (fun q => b2i q) (fun _ => P) (fun q hq => m_X2_isRoom (xl x) E _ _ _ h1 q hq) hf (fun q2 hf => ?_)
  refine z_if_ne (tgt := 14) S dX9_rate_8 (by decide) hf (fun hf => ?_) (fun hf => ?_)
  · refine z_ldc (v := (-1000000)) S wd601 dX9_rate_11 ?_
    exact z_iretI (v := (-1000000 : Int32)) S M rfl dX9_rate_13 hf
  · refine z_iload_n S 1 dX9_rate_14 rfl rfl ?_
    refine z_tif hf (fun h3 hf => ?_) (fun h3 hf => ?_)
    · refine z_tabIn (tgt := 52) S 0 dX9_rate_15 (by rw [h3]; rfl) (by decide) rfl (by decide) ?_
      refine z_aload_n S 0 dX9_rate_52 rfl rfl ?_
      refine z_getR (K' := 3) (n' := 0) S cf_7 h_x0 3 (by decide) rfl rfl rfl wd254 dX9_rate_53 (fun h4 => ?_)
      refine z_aload_n S 0 dX9_rate_56 rfl rfl ?_
      refine z_getR (K' := 1) (n' := 0) S cf_7 h_x0 6 (by decide) rfl rfl rfl wd257 dX9_rate_57 (fun h5 => ?_)
      refine z_iload_n S 2 dX9_rate_60 rfl rfl ?_
      refine z_callVI (rc := r_X5_asRoom) [.ref (ad E (P.2.2 x0 6)), .int x2] S mo_X5_asRoom wd603 wd604 wd602 h4 (by decide) cl_3 rfl rfl (by decide) (z_room0 S M (by rfl) (by rfl)) rfl (Nat.le_of_ble_eq_true rfl) rfl dX9_rate_61 (fun q => q.1) (fun q => q.2) (fun q hq => m_X5_asRoom (xl x) E _ _ _ _ h4 h5 q hq) hf (fun q6 hf => ?_)
      exact z_iretI (v := q6.1) S M rfl dX9_rate_64 hf
    refine z_tif hf (fun h7 hf => ?_) (fun h7 hf => ?_)
    · refine z_tabIn (tgt := 65) S 1 dX9_rate_15 (by rw [h7]; rfl) (by decide) rfl (by decide) ?_
      refine z_aload_n S 0 dX9_rate_65 rfl rfl ?_
      refine z_getR (K' := 3) (n' := 0) S cf_7 h_x0 3 (by decide) rfl rfl rfl wd254 dX9_rate_66 (fun h8 => ?_)
      refine z_aload_n S 0 dX9_rate_69 rfl rfl ?_
      refine z_getR (K' := 1) (n' := 0) S cf_7 h_x0 6 (by decide) rfl rfl rfl wd257 dX9_rate_70 (fun h9 => ?_)
      refine z_iload_n S 2 dX9_rate_73 rfl rfl ?_
      refine z_callVI (rc := r_X5_asHall) [.ref (ad E (P.2.2 x0 6)), .int x2] S mo_X5_asHall wd608 wd609 wd607 h8 (by decide) cl_3 rfl rfl (by decide) (z_room0 S M (by rfl) (by rfl)) rfl (Nat.le_of_ble_eq_true rfl) rfl dX9_rate_74 (fun q => q.1) (fun q => q.2) (fun q hq => m_X5_asHall (xl x) E _ _ _ _ h8 h9 q hq) hf (fun q10 hf => ?_)
      exact z_iretI (v := q10.1) S M rfl dX9_rate_77 hf
    refine z_tif hf (fun h11 hf => ?_) (fun h11 hf => ?_)
    · refine z_tabIn (tgt := 78) S 2 dX9_rate_15 (by rw [h11]; rfl) (by decide) rfl (by decide) ?_
      refine z_aload_n S 0 dX9_rate_78 rfl rfl ?_
      refine z_getR (K' := 3) (n' := 0) S cf_7 h_x0 3 (by decide) rfl rfl rfl wd254 dX9_rate_79 (fun h12 => ?_)
      refine z_aload_n S 0 dX9_rate_82 rfl rfl ?_
      refine z_getR (K' := 1) (n' := 0) S cf_7 h_x0 6 (by decide) rfl rfl rfl wd257 dX9_rate_83 (fun h13 => ?_)
      refine z_iload_n S 2 dX9_rate_86 rfl rfl ?_
      refine z_callVI (rc := r_X5_asStair) [.ref (ad E (P.2.2 x0 6)), .int x2] S mo_X5_asStair wd615 wd616 wd614 h12 (by decide) cl_3 rfl rfl (by decide) (z_room0 S M (by rfl) (by rfl)) rfl (Nat.le_of_ble_eq_true rfl) rfl dX9_rate_87 (fun q => q.1) (fun q => q.2) (fun q hq => m_X5_asStair (xl x) E _ _ _ _ h12 h13 q hq) hf (fun q14 hf => ?_)
      exact z_iretI (v := q14.1) S M rfl dX9_rate_90 hf
    refine z_tif hf (fun h15 hf => ?_) (fun h15 hf => ?_)
    · refine z_tabIn (tgt := 91) S 3 dX9_rate_15 (by rw [h15]; rfl) (by decide) rfl (by decide) ?_
      refine z_aload_n S 0 dX9_rate_91 rfl rfl ?_
      refine z_getR (K' := 3) (n' := 0) S cf_7 h_x0 3 (by decide) rfl rfl rfl wd254 dX9_rate_92 (fun h16 => ?_)
      refine z_aload_n S 0 dX9_rate_95 rfl rfl ?_
      refine z_getR (K' := 1) (n' := 0) S cf_7 h_x0 6 (by decide) rfl rfl rfl wd257 dX9_rate_96 (fun h17 => ?_)
      refine z_iload_n S 2 dX9_rate_99 rfl rfl ?_
      refine z_callVI (rc := r_X5_asAttic) [.ref (ad E (P.2.2 x0 6)), .int x2] S mo_X5_asAttic wd624 wd625 wd623 h16 (by decide) cl_3 rfl rfl (by decide) (z_room0 S M (by rfl) (by rfl)) rfl (Nat.le_of_ble_eq_true rfl) rfl dX9_rate_100 (fun q => q.1) (fun q => q.2) (fun q hq => m_X5_asAttic (xl x) E _ _ _ _ h16 h17 q hq) hf (fun q18 hf => ?_)
      exact z_iretI (v := q18.1) S M rfl dX9_rate_103 hf
    refine z_tif hf (fun h19 hf => ?_) (fun h19 hf => ?_)
    · refine z_tabIn (tgt := 104) S 4 dX9_rate_15 (by rw [h19]; rfl) (by decide) rfl (by decide) ?_
      refine z_aload_n S 0 dX9_rate_104 rfl rfl ?_
      refine z_getR (K' := 3) (n' := 0) S cf_7 h_x0 3 (by decide) rfl rfl rfl wd254 dX9_rate_105 (fun h20 => ?_)
      refine z_aload_n S 0 dX9_rate_108 rfl rfl ?_
      refine z_getR (K' := 1) (n' := 0) S cf_7 h_x0 6 (by decide) rfl rfl rfl wd257 dX9_rate_109 (fun h21 => ?_)
      refine z_iload_n S 2 dX9_rate_112 rfl rfl ?_
      refine z_callVI (rc := r_X5_asCellar) [.ref (ad E (P.2.2 x0 6)), .int x2] S mo_X5_asCellar wd630 wd631 wd629 h20 (by decide) cl_3 rfl rfl (by decide) (z_room0 S M (by rfl) (by rfl)) rfl (Nat.le_of_ble_eq_true rfl) rfl dX9_rate_113 (fun q => q.1) (fun q => q.2) (fun q hq => m_X5_asCellar (xl x) E _ _ _ _ h20 h21 q hq) hf (fun q22 hf => ?_)
      exact z_iretI (v := q22.1) S M rfl dX9_rate_116 hf
    refine z_tif hf (fun h23 hf => ?_) (fun h23 hf => ?_)
    · refine z_tabIn (tgt := 117) S 5 dX9_rate_15 (by rw [h23]; rfl) (by decide) rfl (by decide) ?_
      refine z_aload_n S 0 dX9_rate_117 rfl rfl ?_
      refine z_getR (K' := 3) (n' := 0) S cf_7 h_x0 3 (by decide) rfl rfl rfl wd254 dX9_rate_118 (fun h24 => ?_)
      refine z_aload_n S 0 dX9_rate_121 rfl rfl ?_
      refine z_getR (K' := 1) (n' := 0) S cf_7 h_x0 6 (by decide) rfl rfl rfl wd257 dX9_rate_122 (fun h25 => ?_)
      refine z_iload_n S 2 dX9_rate_125 rfl rfl ?_
      refine z_callVI (rc := r_X5_asBath) [.ref (ad E (P.2.2 x0 6)), .int x2] S mo_X5_asBath wd636 wd637 wd635 h24 (by decide) cl_3 rfl rfl (by decide) (z_room0 S M (by rfl) (by rfl)) rfl (Nat.le_of_ble_eq_true rfl) rfl dX9_rate_126 (fun q => q.1) (fun q => q.2) (fun q hq => m_X5_asBath (xl x) E _ _ _ _ h24 h25 q hq) hf (fun q26 hf => ?_)
      exact z_iretI (v := q26.1) S M rfl dX9_rate_129 hf
    refine z_tabOut (tgt := 130) S dX9_rate_15 (by have e0 := lv_neT h3 (a := 0) rfl; have e1 := lv_neT h7 (a := 1) rfl; have e2 := lv_neT h11 (a := 2) rfl; have e3 := lv_neT h15 (a := 3) rfl; have e4 := lv_neT h19 (a := 4) rfl; have e5 := lv_neT h23 (a := 5) rfl; omega) (by decide) ?_
    refine z_ldc (v := (-1000000)) S wd601 dX9_rate_130 ?_
    exact z_iretI (v := (-1000000 : Int32)) S M rfl dX9_rate_132 hf
theorem m_X9_rate (l : Launch) (E : Ev) (P : PH) (x0 : Nat) (x1 : Int32) (x2 : Int32) (h_x0 : ok x0 7 0) (r : (Int32 × PH)) (hf : f_X9_rate P x0 x1 x2 = some r) : CtI l E yX9_rate cX9_rate 3 (some .int) r_X9_rate [.ref (ad E x0), .int x1, .int x2] P r.1 r.2 :=
  z_body (own := RX9) (by decide +kernel) rfl (Nat.le_of_ble_eq_true rfl) rfl (fun x _ S M => w_X9_rate S M P x0 x1 x2 h_x0 r hf)
-- yX9_keep
theorem dX9_keep_0 : decode cX9_keep 0 = .ok (.iload_n 1, 1) := by decide +kernel
theorem dX9_keep_1 : decode cX9_keep 1 = .ok (.ifCond .lt 8, 3) := by decide +kernel
theorem dX9_keep_4 : decode cX9_keep 4 = .ok (.iload_n 1, 1) := by decide +kernel
theorem dX9_keep_5 : decode cX9_keep 5 = .ok (.iconst 2, 1) := by decide +kernel
theorem dX9_keep_6 : decode cX9_keep 6 = .ok (.if_icmp .lt 5, 3) := by decide +kernel
theorem dX9_keep_9 : decode cX9_keep 9 = .ok (.iconst (-1), 1) := by decide +kernel
theorem dX9_keep_10 : decode cX9_keep 10 = .ok (.ireturn, 1) := by decide +kernel
theorem dX9_keep_11 : decode cX9_keep 11 = .ok (.aload_n 0, 1) := by decide +kernel
theorem dX9_keep_12 : decode cX9_keep 12 = .ok (.getfield 39, 3) := by decide +kernel
theorem dX9_keep_15 : decode cX9_keep 15 = .ok (.iload_n 1, 1) := by decide +kernel
theorem dX9_keep_16 : decode cX9_keep 16 = .ok (.aaload, 1) := by decide +kernel
theorem dX9_keep_17 : decode cX9_keep 17 = .ok (.aload_n 0, 1) := by decide +kernel
theorem dX9_keep_18 : decode cX9_keep 18 = .ok (.getfield 46, 3) := by decide +kernel
theorem dX9_keep_21 : decode cX9_keep 21 = .ok (.getfield 85, 3) := by decide +kernel
theorem dX9_keep_24 : decode cX9_keep 24 = .ok (.invokevirtual 234, 3) := by decide +kernel
theorem dX9_keep_27 : decode cX9_keep 27 = .ok (.aload_n 0, 1) := by decide +kernel
theorem dX9_keep_28 : decode cX9_keep 28 = .ok (.dup, 1) := by decide +kernel
theorem dX9_keep_29 : decode cX9_keep 29 = .ok (.getfield 76, 3) := by decide +kernel
theorem dX9_keep_32 : decode cX9_keep 32 = .ok (.iconst 1, 1) := by decide +kernel
theorem dX9_keep_33 : decode cX9_keep 33 = .ok (.iload_n 1, 1) := by decide +kernel
theorem dX9_keep_34 : decode cX9_keep 34 = .ok (.ishl, 1) := by decide +kernel
theorem dX9_keep_35 : decode cX9_keep 35 = .ok (.ior, 1) := by decide +kernel
theorem dX9_keep_36 : decode cX9_keep 36 = .ok (.putfield 76, 3) := by decide +kernel
theorem dX9_keep_39 : decode cX9_keep 39 = .ok (.aload_n 0, 1) := by decide +kernel
theorem dX9_keep_40 : decode cX9_keep 40 = .ok (.getfield 46, 3) := by decide +kernel
theorem dX9_keep_43 : decode cX9_keep 43 = .ok (.getfield 85, 3) := by decide +kernel
theorem dX9_keep_46 : decode cX9_keep 46 = .ok (.getfield 110, 3) := by decide +kernel
theorem dX9_keep_49 : decode cX9_keep 49 = .ok (.ireturn, 1) := by decide +kernel
def r_X9_keep : Room := { frames := 2, cells := 0, slots := 0, locals := 47 }
def f_X9_keep (P : PH) (x0 : Nat) (x1 : Int32) : Option (Int32 × PH) :=
  (if x1 < 0 then some ((-1 : Int32), P) else (if x1 < (2 : Int32) then (if (x1 < 0 ∨ 2 ≤ x1.toNatClampNeg) then none else ((f_X4_copy P (P.2.2 (P.2.2 x0 4) x1.toNatClampNeg) (P.2.2 (P.2.2 x0 6) 5)).bind fun q5 => ((some (sI q5 x0 5 ((q5.1 x0 5) ||| ((1 : Int32) <<< (x1 &&& 31))))).bind fun P6 => some ((P6.1 (P6.2.2 (P6.2.2 x0 6) 5) 0), P6)))) else some ((-1 : Int32), P)))
theorem w_X9_keep {x : Fx} {E : Ev} (S : ZS x E r_X9_keep cX9_keep 2 RX9 (some .int)) (M : ZM x E) (P : PH) (x0 : Nat) (x1 : Int32) (h_x0 : ok x0 7 0) (r : (Int32 × PH)) (hf : f_X9_keep P x0 x1 = some r) : Wz x E 2 (QI E x r.1 r.2) P 0 [(0, .ref (ad E x0)), (1, .int x1)] [] := by
  unfold f_X9_keep at hf
  refine z_iload_n S 1 dX9_keep_0 rfl rfl ?_
  refine z_if_lt (tgt := 9) S dX9_keep_1 (by decide) hf (fun hf => ?_) (fun hf => ?_)
  · refine z_iconst (v := (-1 : Int32)) S dX9_keep_9 (by decide) ?_
    exact z_iretI (v := (-1 : Int32)) S M rfl dX9_keep_10 hf
  · refine z_iload_n S 1 dX9_keep_4 rfl rfl ?_
    refine z_iconst (v := 2) S dX9_keep_5 (by decide) ?_
    refine z_icmp_lt (tgt := 11) S dX9_keep_6 (by decide) hf (fun hf => ?_) (fun hf => ?_)
    · refine z_aload_n S 0 dX9_keep_11 rfl rfl ?_
      refine z_getR (K' := 11) (n' := 2) S cf_7 h_x0 4 (by decide) rfl rfl rfl wd255 dX9_keep_12 (fun h1 => ?_)
      refine z_iload_n S 1 dX9_keep_15 rfl rfl ?_
      refine z_aald S h1 (by decide) dX9_keep_16 hf (fun h2 hf => ?_)
      refine z_aload_n S 0 dX9_keep_17 rfl rfl ?_
      refine z_getR (K' := 1) (n' := 0) S cf_7 h_x0 6 (by decide) rfl rfl rfl wd257 dX9_keep_18 (fun h3 => ?_)
      refine z_getR (K' := 2) (n' := 0) S cf_1 h3 5 (by decide) rfl rfl rfl wd236 dX9_keep_21 (fun h4 => ?_)
      refine z_callVV (rc := r_X4_copy) [.ref (ad E (P.2.2 (P.2.2 x0 6) 5))] S mo_X4_copy wd645 wd646 wd644 h2 (by decide) cl_2 rfl rfl (by decide) (z_room0 S M (by rfl) (by rfl)) rfl (Nat.le_of_ble_eq_true rfl) rfl dX9_keep_24  (fun q => q) (fun q hq => m_X4_copy (xl x) E _ _ _ h2 h4 q hq) hf (fun q5 hf => ?_)
      refine z_aload_n S 0 dX9_keep_27 rfl rfl ?_
      refine z_dup S dX9_keep_28 rfl ?_
      refine z_getI S cf_7 h_x0 5 (by decide) rfl wd256 dX9_keep_29 ?_
      refine z_iconst (v := 1) S dX9_keep_32 (by decide) ?_
      refine z_iload_n S 1 dX9_keep_33 rfl rfl ?_
      refine z_ishl S dX9_keep_34 ?_
      refine z_ior S dX9_keep_35 ?_
      refine z_putI S cf_7 h_x0 5 (by decide) rfl rfl rfl rfl wd256 dX9_keep_36 ?_
      refine z_nmP hf (fun P6 hf => ?_)
      refine z_aload_n S 0 dX9_keep_39 rfl rfl ?_
      refine z_getR (K' := 1) (n' := 0) S cf_7 h_x0 6 (by decide) rfl rfl rfl wd257 dX9_keep_40 (fun h7 => ?_)
      refine z_getR (K' := 2) (n' := 0) S cf_1 h7 5 (by decide) rfl rfl rfl wd236 dX9_keep_43 (fun h8 => ?_)
      refine z_getI S cf_2 h8 0 (by decide) rfl wd169 dX9_keep_46 ?_
      exact z_iretI (v := (P6.1 (P6.2.2 (P6.2.2 x0 6) 5) 0)) S M rfl dX9_keep_49 hf
    · refine z_iconst (v := (-1 : Int32)) S dX9_keep_9 (by decide) ?_
      exact z_iretI (v := (-1 : Int32)) S M rfl dX9_keep_10 hf
theorem m_X9_keep (l : Launch) (E : Ev) (P : PH) (x0 : Nat) (x1 : Int32) (h_x0 : ok x0 7 0) (r : (Int32 × PH)) (hf : f_X9_keep P x0 x1 = some r) : CtI l E yX9_keep cX9_keep 2 (some .int) r_X9_keep [.ref (ad E x0), .int x1] P r.1 r.2 :=
  z_body (own := RX9) (by decide +kernel) rfl (Nat.le_of_ble_eq_true rfl) rfl (fun x _ S M => w_X9_keep S M P x0 x1 h_x0 r hf)
-- yX9_back
theorem dX9_back_0 : decode cX9_back 0 = .ok (.iload_n 1, 1) := by decide +kernel
theorem dX9_back_1 : decode cX9_back 1 = .ok (.ifCond .lt 8, 3) := by decide +kernel
theorem dX9_back_4 : decode cX9_back 4 = .ok (.iload_n 1, 1) := by decide +kernel
theorem dX9_back_5 : decode cX9_back 5 = .ok (.iconst 2, 1) := by decide +kernel
theorem dX9_back_6 : decode cX9_back 6 = .ok (.if_icmp .lt 5, 3) := by decide +kernel
theorem dX9_back_9 : decode cX9_back 9 = .ok (.iconst (-1), 1) := by decide +kernel
theorem dX9_back_10 : decode cX9_back 10 = .ok (.ireturn, 1) := by decide +kernel
theorem dX9_back_11 : decode cX9_back 11 = .ok (.aload_n 0, 1) := by decide +kernel
theorem dX9_back_12 : decode cX9_back 12 = .ok (.getfield 76, 3) := by decide +kernel
theorem dX9_back_15 : decode cX9_back 15 = .ok (.iload_n 1, 1) := by decide +kernel
theorem dX9_back_16 : decode cX9_back 16 = .ok (.ishr, 1) := by decide +kernel
theorem dX9_back_17 : decode cX9_back 17 = .ok (.iconst 1, 1) := by decide +kernel
theorem dX9_back_18 : decode cX9_back 18 = .ok (.iand, 1) := by decide +kernel
theorem dX9_back_19 : decode cX9_back 19 = .ok (.ifCond .ne 6, 3) := by decide +kernel
theorem dX9_back_22 : decode cX9_back 22 = .ok (.bipush (-2), 2) := by decide +kernel
theorem dX9_back_24 : decode cX9_back 24 = .ok (.ireturn, 1) := by decide +kernel
theorem dX9_back_25 : decode cX9_back 25 = .ok (.aload_n 0, 1) := by decide +kernel
theorem dX9_back_26 : decode cX9_back 26 = .ok (.getfield 46, 3) := by decide +kernel
theorem dX9_back_29 : decode cX9_back 29 = .ok (.getfield 85, 3) := by decide +kernel
theorem dX9_back_32 : decode cX9_back 32 = .ok (.aload_n 0, 1) := by decide +kernel
theorem dX9_back_33 : decode cX9_back 33 = .ok (.getfield 39, 3) := by decide +kernel
theorem dX9_back_36 : decode cX9_back 36 = .ok (.iload_n 1, 1) := by decide +kernel
theorem dX9_back_37 : decode cX9_back 37 = .ok (.aaload, 1) := by decide +kernel
theorem dX9_back_38 : decode cX9_back 38 = .ok (.invokevirtual 234, 3) := by decide +kernel
theorem dX9_back_41 : decode cX9_back 41 = .ok (.aload_n 0, 1) := by decide +kernel
theorem dX9_back_42 : decode cX9_back 42 = .ok (.getfield 19, 3) := by decide +kernel
theorem dX9_back_45 : decode cX9_back 45 = .ok (.iconst 0, 1) := by decide +kernel
theorem dX9_back_46 : decode cX9_back 46 = .ok (.putfield 75, 3) := by decide +kernel
theorem dX9_back_49 : decode cX9_back 49 = .ok (.aload_n 0, 1) := by decide +kernel
theorem dX9_back_50 : decode cX9_back 50 = .ok (.getfield 46, 3) := by decide +kernel
theorem dX9_back_53 : decode cX9_back 53 = .ok (.getfield 85, 3) := by decide +kernel
theorem dX9_back_56 : decode cX9_back 56 = .ok (.getfield 110, 3) := by decide +kernel
theorem dX9_back_59 : decode cX9_back 59 = .ok (.ireturn, 1) := by decide +kernel
def r_X9_back : Room := { frames := 2, cells := 0, slots := 0, locals := 47 }
def f_X9_back (P : PH) (x0 : Nat) (x1 : Int32) : Option (Int32 × PH) :=
  (if x1 < 0 then some ((-1 : Int32), P) else (if x1 < (2 : Int32) then (if (((P.1 x0 5) >>> (x1 &&& 31)) &&& (1 : Int32)) = 0 then some ((-2 : Int32), P) else (if (x1 < 0 ∨ 2 ≤ x1.toNatClampNeg) then none else ((f_X4_copy P (P.2.2 (P.2.2 x0 6) 5) (P.2.2 (P.2.2 x0 4) x1.toNatClampNeg)).bind fun q5 => some (((sI q5 (q5.2.2 x0 1) 0 (0 : Int32)).1 ((sI q5 (q5.2.2 x0 1) 0 (0 : Int32)).2.2 ((sI q5 (q5.2.2 x0 1) 0 (0 : Int32)).2.2 x0 6) 5) 0), (sI q5 (q5.2.2 x0 1) 0 (0 : Int32)))))) else some ((-1 : Int32), P)))
theorem w_X9_back {x : Fx} {E : Ev} (S : ZS x E r_X9_back cX9_back 2 RX9 (some .int)) (M : ZM x E) (P : PH) (x0 : Nat) (x1 : Int32) (h_x0 : ok x0 7 0) (r : (Int32 × PH)) (hf : f_X9_back P x0 x1 = some r) : Wz x E 2 (QI E x r.1 r.2) P 0 [(0, .ref (ad E x0)), (1, .int x1)] [] := by
  unfold f_X9_back at hf
  refine z_iload_n S 1 dX9_back_0 rfl rfl ?_
  refine z_if_lt (tgt := 9) S dX9_back_1 (by decide) hf (fun hf => ?_) (fun hf => ?_)
  · refine z_iconst (v := (-1 : Int32)) S dX9_back_9 (by decide) ?_
    exact z_iretI (v := (-1 : Int32)) S M rfl dX9_back_10 hf
  · refine z_iload_n S 1 dX9_back_4 rfl rfl ?_
    refine z_iconst (v := 2) S dX9_back_5 (by decide) ?_
    refine z_icmp_lt (tgt := 11) S dX9_back_6 (by decide) hf (fun hf => ?_) (fun hf => ?_)
    · refine z_aload_n S 0 dX9_back_11 rfl rfl ?_
      refine z_getI S cf_7 h_x0 5 (by decide) rfl wd256 dX9_back_12 ?_
      refine z_iload_n S 1 dX9_back_15 rfl rfl ?_
      refine z_ishr S dX9_back_16 ?_
      refine z_iconst (v := 1) S dX9_back_17 (by decide) ?_
      refine z_iand S dX9_back_18 ?_
      refine z_if_ne (tgt := 25) S dX9_back_19 (by decide) hf (fun hf => ?_) (fun hf => ?_)
      · refine z_bipush (v := (-2 : Int32)) S dX9_back_22 (by decide) ?_
        exact z_iretI (v := (-2 : Int32)) S M rfl dX9_back_24 hf
      · refine z_aload_n S 0 dX9_back_25 rfl rfl ?_
        refine z_getR (K' := 1) (n' := 0) S cf_7 h_x0 6 (by decide) rfl rfl rfl wd257 dX9_back_26 (fun h1 => ?_)
        refine z_getR (K' := 2) (n' := 0) S cf_1 h1 5 (by decide) rfl rfl rfl wd236 dX9_back_29 (fun h2 => ?_)
        refine z_aload_n S 0 dX9_back_32 rfl rfl ?_
        refine z_getR (K' := 11) (n' := 2) S cf_7 h_x0 4 (by decide) rfl rfl rfl wd255 dX9_back_33 (fun h3 => ?_)
        refine z_iload_n S 1 dX9_back_36 rfl rfl ?_
        refine z_aald S h3 (by decide) dX9_back_37 hf (fun h4 hf => ?_)
        refine z_callVV (rc := r_X4_copy) [.ref (ad E (P.2.2 (P.2.2 x0 4) x1.toNatClampNeg))] S mo_X4_copy wd645 wd646 wd644 h2 (by decide) cl_2 rfl rfl (by decide) (z_room0 S M (by rfl) (by rfl)) rfl (Nat.le_of_ble_eq_true rfl) rfl dX9_back_38  (fun q => q) (fun q hq => m_X4_copy (xl x) E _ _ _ h2 h4 q hq) hf (fun q5 hf => ?_)
        refine z_aload_n S 0 dX9_back_41 rfl rfl ?_
        refine z_getR (K' := 0) (n' := 0) S cf_7 h_x0 1 (by decide) rfl rfl rfl wd252 dX9_back_42 (fun h6 => ?_)
        refine z_iconst (v := 0) S dX9_back_45 (by decide) ?_
        refine z_putI S cf_0 h6 0 (by decide) rfl rfl rfl rfl wd106 dX9_back_46 ?_
        refine z_aload_n S 0 dX9_back_49 rfl rfl ?_
        refine z_getR (K' := 1) (n' := 0) S cf_7 h_x0 6 (by decide) rfl rfl rfl wd257 dX9_back_50 (fun h7 => ?_)
        refine z_getR (K' := 2) (n' := 0) S cf_1 h7 5 (by decide) rfl rfl rfl wd236 dX9_back_53 (fun h8 => ?_)
        refine z_getI S cf_2 h8 0 (by decide) rfl wd169 dX9_back_56 ?_
        exact z_iretI (v := ((sI q5 (q5.2.2 x0 1) 0 (0 : Int32)).1 ((sI q5 (q5.2.2 x0 1) 0 (0 : Int32)).2.2 ((sI q5 (q5.2.2 x0 1) 0 (0 : Int32)).2.2 x0 6) 5) 0)) S M rfl dX9_back_59 hf
    · refine z_iconst (v := (-1 : Int32)) S dX9_back_9 (by decide) ?_
      exact z_iretI (v := (-1 : Int32)) S M rfl dX9_back_10 hf
theorem m_X9_back (l : Launch) (E : Ev) (P : PH) (x0 : Nat) (x1 : Int32) (h_x0 : ok x0 7 0) (r : (Int32 × PH)) (hf : f_X9_back P x0 x1 = some r) : CtI l E yX9_back cX9_back 2 (some .int) r_X9_back [.ref (ad E x0), .int x1] P r.1 r.2 :=
  z_body (own := RX9) (by decide +kernel) rfl (Nat.le_of_ble_eq_true rfl) rfl (fun x _ S M => w_X9_back S M P x0 x1 h_x0 r hf)
-- yX9_count
theorem dX9_count_0 : decode cX9_count 0 = .ok (.iload_n 1, 1) := by decide +kernel
theorem dX9_count_1 : decode cX9_count 1 = .ok (.tableswitch 66 0 3 #[31, 39, 47, 55], 31) := by decide +kernel
theorem dX9_count_32 : decode cX9_count 32 = .ok (.aload_n 0, 1) := by decide +kernel
theorem dX9_count_33 : decode cX9_count 33 = .ok (.getfield 46, 3) := by decide +kernel
theorem dX9_count_36 : decode cX9_count 36 = .ok (.getfield 237, 3) := by decide +kernel
theorem dX9_count_39 : decode cX9_count 39 = .ok (.ireturn, 1) := by decide +kernel
theorem dX9_count_40 : decode cX9_count 40 = .ok (.aload_n 0, 1) := by decide +kernel
theorem dX9_count_41 : decode cX9_count 41 = .ok (.getfield 46, 3) := by decide +kernel
theorem dX9_count_44 : decode cX9_count 44 = .ok (.getfield 240, 3) := by decide +kernel
theorem dX9_count_47 : decode cX9_count 47 = .ok (.ireturn, 1) := by decide +kernel
theorem dX9_count_48 : decode cX9_count 48 = .ok (.aload_n 0, 1) := by decide +kernel
theorem dX9_count_49 : decode cX9_count 49 = .ok (.getfield 26, 3) := by decide +kernel
theorem dX9_count_52 : decode cX9_count 52 = .ok (.getfield 72, 3) := by decide +kernel
theorem dX9_count_55 : decode cX9_count 55 = .ok (.ireturn, 1) := by decide +kernel
theorem dX9_count_56 : decode cX9_count 56 = .ok (.aload_n 0, 1) := by decide +kernel
theorem dX9_count_57 : decode cX9_count 57 = .ok (.getfield 10, 3) := by decide +kernel
theorem dX9_count_60 : decode cX9_count 60 = .ok (.getfield 54, 3) := by decide +kernel
theorem dX9_count_63 : decode cX9_count 63 = .ok (.getfield 64, 3) := by decide +kernel
theorem dX9_count_66 : decode cX9_count 66 = .ok (.ireturn, 1) := by decide +kernel
theorem dX9_count_67 : decode cX9_count 67 = .ok (.iconst (-1), 1) := by decide +kernel
theorem dX9_count_68 : decode cX9_count 68 = .ok (.ireturn, 1) := by decide +kernel
def r_X9_count : Room := { frames := 0, cells := 0, slots := 0, locals := 0 }
def f_X9_count (P : PH) (x0 : Nat) (x1 : Int32) : Option Int32 :=
  (if x1 = (0 : Int32) then some (P.1 (P.2.2 x0 6) 0) else (if x1 = (1 : Int32) then some (P.1 (P.2.2 x0 6) 1) else (if x1 = (2 : Int32) then some (P.1 (P.2.2 x0 2) 0) else (if x1 = (3 : Int32) then some (P.1 (P.2.2 (P.2.2 x0 0) 0) 1) else some (-1 : Int32)))))
theorem w_X9_count {x : Fx} {E : Ev} (S : ZS x E r_X9_count cX9_count 2 RX9 (some .int)) (M : ZM x E) (P : PH) (x0 : Nat) (x1 : Int32) (h_x0 : ok x0 7 0) (r : Int32) (hf : f_X9_count P x0 x1 = some r) : Wz x E 2 (QI E x r P) P 0 [(0, .ref (ad E x0)), (1, .int x1)] [] := by
  unfold f_X9_count at hf
  refine z_iload_n S 1 dX9_count_0 rfl rfl ?_
  refine z_tif hf (fun h1 hf => ?_) (fun h1 hf => ?_)
  · refine z_tabIn (tgt := 32) S 0 dX9_count_1 (by rw [h1]; rfl) (by decide) rfl (by decide) ?_
    refine z_aload_n S 0 dX9_count_32 rfl rfl ?_
    refine z_getR (K' := 1) (n' := 0) S cf_7 h_x0 6 (by decide) rfl rfl rfl wd257 dX9_count_33 (fun h2 => ?_)
    refine z_getI S cf_1 h2 0 (by decide) rfl wd216 dX9_count_36 ?_
    exact z_iretP (v := (P.1 (P.2.2 x0 6) 0)) S M rfl dX9_count_39 hf
  refine z_tif hf (fun h3 hf => ?_) (fun h3 hf => ?_)
  · refine z_tabIn (tgt := 40) S 1 dX9_count_1 (by rw [h3]; rfl) (by decide) rfl (by decide) ?_
    refine z_aload_n S 0 dX9_count_40 rfl rfl ?_
    refine z_getR (K' := 1) (n' := 0) S cf_7 h_x0 6 (by decide) rfl rfl rfl wd257 dX9_count_41 (fun h4 => ?_)
    refine z_getI S cf_1 h4 1 (by decide) rfl wd220 dX9_count_44 ?_
    exact z_iretP (v := (P.1 (P.2.2 x0 6) 1)) S M rfl dX9_count_47 hf
  refine z_tif hf (fun h5 hf => ?_) (fun h5 hf => ?_)
  · refine z_tabIn (tgt := 48) S 2 dX9_count_1 (by rw [h5]; rfl) (by decide) rfl (by decide) ?_
    refine z_aload_n S 0 dX9_count_48 rfl rfl ?_
    refine z_getR (K' := 5) (n' := 0) S cf_7 h_x0 2 (by decide) rfl rfl rfl wd253 dX9_count_49 (fun h6 => ?_)
    refine z_getI S cf_5 h6 0 (by decide) rfl wd126 dX9_count_52 ?_
    exact z_iretP (v := (P.1 (P.2.2 x0 2) 0)) S M rfl dX9_count_55 hf
  refine z_tif hf (fun h7 hf => ?_) (fun h7 hf => ?_)
  · refine z_tabIn (tgt := 56) S 3 dX9_count_1 (by rw [h7]; rfl) (by decide) rfl (by decide) ?_
    refine z_aload_n S 0 dX9_count_56 rfl rfl ?_
    refine z_getR (K' := 4) (n' := 0) S cf_7 h_x0 0 (by decide) rfl rfl rfl wd251 dX9_count_57 (fun h8 => ?_)
    refine z_getR (K' := 6) (n' := 0) S cf_4 h8 0 (by decide) rfl rfl rfl wd92 dX9_count_60 (fun h9 => ?_)
    refine z_getI S cf_6 h9 1 (by decide) rfl wd69 dX9_count_63 ?_
    exact z_iretP (v := (P.1 (P.2.2 (P.2.2 x0 0) 0) 1)) S M rfl dX9_count_66 hf
  refine z_tabOut (tgt := 67) S dX9_count_1 (by have e0 := lv_neT h1 (a := 0) rfl; have e1 := lv_neT h3 (a := 1) rfl; have e2 := lv_neT h5 (a := 2) rfl; have e3 := lv_neT h7 (a := 3) rfl; omega) (by decide) ?_
  refine z_iconst (v := (-1 : Int32)) S dX9_count_67 (by decide) ?_
  exact z_iretP (v := (-1 : Int32)) S M rfl dX9_count_68 hf
theorem m_X9_count (l : Launch) (E : Ev) (P : PH) (x0 : Nat) (x1 : Int32) (h_x0 : ok x0 7 0) (r : Int32) (hf : f_X9_count P x0 x1 = some r) : CtI l E yX9_count cX9_count 2 (some .int) r_X9_count [.ref (ad E x0), .int x1] P r P :=
  z_body (own := RX9) (by decide +kernel) rfl (Nat.le_of_ble_eq_true rfl) rfl (fun x _ S M => w_X9_count S M P x0 x1 h_x0 r hf)
-- yX9_trace
theorem dX9_trace_0 : decode cX9_trace 0 = .ok (.aload_n 0, 1) := by decide +kernel
theorem dX9_trace_1 : decode cX9_trace 1 = .ok (.getfield 33, 3) := by decide +kernel
theorem dX9_trace_4 : decode cX9_trace 4 = .ok (.getfield 243, 3) := by decide +kernel
theorem dX9_trace_7 : decode cX9_trace 7 = .ok (.lreturn, 1) := by decide +kernel
def r_X9_trace : Room := { frames := 0, cells := 0, slots := 0, locals := 0 }
def f_X9_trace (P : PH) (x0 : Nat) : Option Int64 :=
  some (P.2.1 (P.2.2 x0 3))
theorem w_X9_trace {x : Fx} {E : Ev} (S : ZS x E r_X9_trace cX9_trace 1 RX9 (some .long)) (M : ZM x E) (P : PH) (x0 : Nat) (h_x0 : ok x0 7 0) (r : Int64) (hf : f_X9_trace P x0 = some r) : Wz x E 1 (QL E x r P) P 0 [(0, .ref (ad E x0))] [] := by
  unfold f_X9_trace at hf
  refine z_aload_n S 0 dX9_trace_0 rfl rfl ?_
  refine z_getR (K' := 3) (n' := 0) S cf_7 h_x0 3 (by decide) rfl rfl rfl wd254 dX9_trace_1 (fun h1 => ?_)
  refine z_getL S cf_3 h1 0 (by decide) rfl wd146 dX9_trace_4 ?_
  exact z_lretP (v := (P.2.1 (P.2.2 x0 3))) S M rfl dX9_trace_7 hf
theorem m_X9_trace (l : Launch) (E : Ev) (P : PH) (x0 : Nat) (h_x0 : ok x0 7 0) (r : Int64) (hf : f_X9_trace P x0 = some r) : CtL l E yX9_trace cX9_trace 1 (some .long) r_X9_trace [.ref (ad E x0)] P r P :=
  z_body (own := RX9) (by decide +kernel) rfl (Nat.le_of_ble_eq_true rfl) rfl (fun x _ S M => w_X9_trace S M P x0 h_x0 r hf)
