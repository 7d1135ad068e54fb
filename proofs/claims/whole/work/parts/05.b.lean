-- yX2_owner
theorem dX2_owner_0 : decode cX2_owner 0 = .ok (.aload_n 0, 1) := by decide +kernel
theorem dX2_owner_1 : decode cX2_owner 1 = .ok (.getfield 24, 3) := by decide +kernel
theorem dX2_owner_4 : decode cX2_owner 4 = .ok (.getfield 47, 3) := by decide +kernel
theorem dX2_owner_7 : decode cX2_owner 7 = .ok (.iload_n 1, 1) := by decide +kernel
theorem dX2_owner_8 : decode cX2_owner 8 = .ok (.iaload, 1) := by decide +kernel
theorem dX2_owner_9 : decode cX2_owner 9 = .ok (.istore_n 3, 1) := by decide +kernel
theorem dX2_owner_10 : decode cX2_owner 10 = .ok (.iconst 0, 1) := by decide +kernel
theorem dX2_owner_11 : decode cX2_owner 11 = .ok (.istore 4, 2) := by decide +kernel
theorem dX2_owner_13 : decode cX2_owner 13 = .ok (.iload 4, 2) := by decide +kernel
theorem dX2_owner_15 : decode cX2_owner 15 = .ok (.aload_n 0, 1) := by decide +kernel
theorem dX2_owner_16 : decode cX2_owner 16 = .ok (.getfield 28, 3) := by decide +kernel
theorem dX2_owner_19 : decode cX2_owner 19 = .ok (.if_icmp .ge 42, 3) := by decide +kernel
theorem dX2_owner_22 : decode cX2_owner 22 = .ok (.iload_n 3, 1) := by decide +kernel
theorem dX2_owner_23 : decode cX2_owner 23 = .ok (.ifCond .lt 38, 3) := by decide +kernel
theorem dX2_owner_26 : decode cX2_owner 26 = .ok (.iload_n 3, 1) := by decide +kernel
theorem dX2_owner_27 : decode cX2_owner 27 = .ok (.aload_n 0, 1) := by decide +kernel
theorem dX2_owner_28 : decode cX2_owner 28 = .ok (.getfield 28, 3) := by decide +kernel
theorem dX2_owner_31 : decode cX2_owner 31 = .ok (.if_icmp .ge 30, 3) := by decide +kernel
theorem dX2_owner_34 : decode cX2_owner 34 = .ok (.iload_n 2, 1) := by decide +kernel
theorem dX2_owner_35 : decode cX2_owner 35 = .ok (.iload_n 3, 1) := by decide +kernel
theorem dX2_owner_36 : decode cX2_owner 36 = .ok (.ishr, 1) := by decide +kernel
theorem dX2_owner_37 : decode cX2_owner 37 = .ok (.iconst 1, 1) := by decide +kernel
theorem dX2_owner_38 : decode cX2_owner 38 = .ok (.iand, 1) := by decide +kernel
theorem dX2_owner_39 : decode cX2_owner 39 = .ok (.iconst 1, 1) := by decide +kernel
theorem dX2_owner_40 : decode cX2_owner 40 = .ok (.if_icmp .ne 5, 3) := by decide +kernel
theorem dX2_owner_43 : decode cX2_owner 43 = .ok (.iload_n 3, 1) := by decide +kernel
theorem dX2_owner_44 : decode cX2_owner 44 = .ok (.ireturn, 1) := by decide +kernel
theorem dX2_owner_45 : decode cX2_owner 45 = .ok (.aload_n 0, 1) := by decide +kernel
theorem dX2_owner_46 : decode cX2_owner 46 = .ok (.getfield 24, 3) := by decide +kernel
theorem dX2_owner_49 : decode cX2_owner 49 = .ok (.getfield 44, 3) := by decide +kernel
theorem dX2_owner_52 : decode cX2_owner 52 = .ok (.iload_n 3, 1) := by decide +kernel
theorem dX2_owner_53 : decode cX2_owner 53 = .ok (.iaload, 1) := by decide +kernel
theorem dX2_owner_54 : decode cX2_owner 54 = .ok (.istore_n 3, 1) := by decide +kernel
theorem dX2_owner_55 : decode cX2_owner 55 = .ok (.iinc 4 1, 3) := by decide +kernel
theorem dX2_owner_58 : decode cX2_owner 58 = .ok (.goto (-45), 3) := by decide +kernel
theorem dX2_owner_61 : decode cX2_owner 61 = .ok (.bipush (-9), 2) := by decide +kernel
theorem dX2_owner_63 : decode cX2_owner 63 = .ok (.ireturn, 1) := by decide +kernel
def r_X2_owner : Room := { frames := 0, cells := 0, slots := 0, locals := 0 }
def f_X2_owner_L13 (K0 : Int32 → Option Int32) (K1 : Option Int32) (P : PH) (x0 : Nat) (x2 : Int32) : Nat → Int32 → Int32 → Option Int32
  | 0, _, _ => none
  | n + 1, x3, x4 =>
    (if (P.1 x0 0) ≤ x4 then K1 else (if x3 < 0 then K1 else (if (P.1 x0 0) ≤ x3 then K1 else (if ((x2 >>> (x3 &&& 31)) &&& (1 : Int32)) = (1 : Int32) then K0 x3 else (if (x3 < 0 ∨ 6 ≤ x3.toNatClampNeg) then none else f_X2_owner_L13 K0 K1 P x0 x2 n (P.1 (P.2.2 (P.2.2 x0 5) 3) x3.toNatClampNeg) (x4 + (1 : Int32)))))))
theorem w_X2_owner_L13 {x : Fx} {E : Ev} (S : ZS x E r_X2_owner cX2_owner 5 RX2 (some .int)) (M : ZM x E) {K0 : Int32 → Option Int32} {K1 : Option Int32} (P : PH) (x0 : Nat) (x2 : Int32) (h_x0 : ok x0 1 0) (r : Int32) (hK0 : ∀ (y3 : Int32), K0 y3 = some r → Wz x E 5 (QI E x r P) P 43 [(3, .int y3)] []) (hK1 : K1  = some r → Wz x E 5 (QI E x r P) P 61 [] []) : ∀ (n : Nat) (x3 : Int32) (x4 : Int32), f_X2_owner_L13 K0 K1 P x0 x2 n x3 x4 = some r → Wz x E 5 (QI E x r P) P 13 [(0, .ref (ad E x0)), (2, .int x2), (3, .int x3), (4, .int x4)] [] := by
  intro n
  induction n with
  | zero => intro x3 x4 hf; cases hf
  | succ n ih =>
    intro x3 x4 hf
    unfold f_X2_owner_L13 at hf
    refine z_iload S 3 dX2_owner_13 rfl ?_
    refine z_aload_n S 0 dX2_owner_15 rfl rfl ?_
    refine z_getI S cf_1 h_x0 0 (by decide) rfl wd213 dX2_owner_16 ?_
    refine z_icmp_ge (tgt := 61) S dX2_owner_19 (by decide) hf (fun hf => ?_) (fun hf => ?_)
    · refine z_sub [] rfl ?_
      exact hK1  hf
    · refine z_iload_n S 2 dX2_owner_22 rfl rfl ?_
      refine z_if_lt (tgt := 61) S dX2_owner_23 (by decide) hf (fun hf => ?_) (fun hf => ?_)
      · refine z_sub [] rfl ?_
        exact hK1  hf
      · refine z_iload_n S 2 dX2_owner_26 rfl rfl ?_
        refine z_aload_n S 0 dX2_owner_27 rfl rfl ?_
        refine z_getI S cf_1 h_x0 0 (by decide) rfl wd213 dX2_owner_28 ?_
        refine z_icmp_ge (tgt := 61) S dX2_owner_31 (by decide) hf (fun hf => ?_) (fun hf => ?_)
        · refine z_sub [] rfl ?_
          exact hK1  hf
        · refine z_iload_n S 1 dX2_owner_34 rfl rfl ?_
          refine z_iload_n S 2 dX2_owner_35 rfl rfl ?_
          refine z_ishr S dX2_owner_36 ?_
          refine z_iconst (v := 1) S dX2_owner_37 (by decide) ?_
          refine z_iand S dX2_owner_38 ?_
          refine z_iconst (v := 1) S dX2_owner_39 (by decide) ?_
          refine z_icmp_ne (tgt := 45) S dX2_owner_40 (by decide) hf (fun hf => ?_) (fun hf => ?_)
          · refine z_sub [2] rfl ?_
            exact hK0 x3 hf
          · refine z_aload_n S 0 dX2_owner_45 rfl rfl ?_
            refine z_getR (K' := 2) (n' := 0) S cf_1 h_x0 5 (by decide) rfl rfl rfl wd230 dX2_owner_46 (fun h1 => ?_)
            refine z_getR (K' := 9) (n' := 6) S cf_2 h1 3 (by decide) rfl rfl rfl wd184 dX2_owner_49 (fun h2 => ?_)
            refine z_iload_n S 2 dX2_owner_52 rfl rfl ?_
            refine z_iald S h2 dX2_owner_53 hf (fun hf => ?_)
            refine z_istore_n (lv' := [(3, .int (P.1 (P.2.2 (P.2.2 x0 5) 3) x3.toNatClampNeg)), (0, .ref (ad E x0)), (2, .int x2), (4, .int x4)]) S dX2_owner_54 rfl (by decide) rfl ?_
            refine z_iinc (v := (x4 + (1 : Int32))) (lv' := [(4, .int (x4 + (1 : Int32))), (3, .int (P.1 (P.2.2 (P.2.2 x0 5) 3) x3.toNatClampNeg)), (0, .ref (ad E x0)), (2, .int x2)]) S 3 dX2_owner_55 rfl (by rfl) (by decide) rfl ?_
            refine z_goto (tgt := 13) S dX2_owner_58 (by decide) ?_
            refine z_sub [2, 3, 1, 0] rfl ?_
            exact ih (P.1 (P.2.2 (P.2.2 x0 5) 3) x3.toNatClampNeg) (x4 + (1 : Int32)) hf
def f_X2_owner (P : PH) (x0 : Nat) (x1 : Int32) (x2 : Int32) : Option Int32 :=
  (if (x1 < 0 ∨ 7 ≤ x1.toNatClampNeg) then none else f_X2_owner_L13 (fun v5 => some v5) (some (-9 : Int32)) P x0 x2 1000 (P.1 (P.2.2 (P.2.2 x0 5) 4) x1.toNatClampNeg) (0 : Int32))
theorem w_X2_owner {x : Fx} {E : Ev} (S : ZS x E r_X2_owner cX2_owner 5 RX2 (some .int)) (M : ZM x E) (P : PH) (x0 : Nat) (x1 : Int32) (x2 : Int32) (h_x0 : ok x0 1 0) (r : Int32) (hf : f_X2_owner P x0 x1 x2 = some r) : Wz x E 5 (QI E x r P) P 0 [(0, .ref (ad E x0)), (1, .int x1), (2, .int x2)] [] := by
  unfold f_X2_owner at hf
  refine z_aload_n S 0 dX2_owner_0 rfl rfl ?_
  refine z_getR (K' := 2) (n' := 0) S cf_1 h_x0 5 (by decide) rfl rfl rfl wd230 dX2_owner_1 (fun h3 => ?_)
  refine z_getR (K' := 9) (n' := 7) S cf_2 h3 4 (by decide) rfl rfl rfl wd188 dX2_owner_4 (fun h4 => ?_)
  refine z_iload_n S 1 dX2_owner_7 rfl rfl ?_
  refine z_iald S h4 dX2_owner_8 hf (fun hf => ?_)
  refine z_istore_n (lv' := [(3, .int (P.1 (P.2.2 (P.2.2 x0 5) 4) x1.toNatClampNeg)), (0, .ref (ad E x0)), (1, .int x1), (2, .int x2)]) S dX2_owner_9 rfl (by decide) rfl ?_
  refine z_iconst (v := 0) S dX2_owner_10 (by decide) ?_
  refine z_istore (lv' := [(4, .int (0 : Int32)), (3, .int (P.1 (P.2.2 (P.2.2 x0 5) 4) x1.toNatClampNeg)), (0, .ref (ad E x0)), (1, .int x1), (2, .int x2)]) S dX2_owner_11 (by decide) rfl ?_
  refine z_sub [2, 4, 1, 0] rfl ?_
  refine w_X2_owner_L13 S M _ x0 x2 h_x0 r (fun v5 hf => ?_) (fun hf => ?_) 1000 (P.1 (P.2.2 (P.2.2 x0 5) 4) x1.toNatClampNeg) (0 : Int32) hf
  · refine z_iload_n S 0 dX2_owner_43 rfl rfl ?_
    exact z_iretP (v := v5) S M rfl dX2_owner_44 hf
  · refine z_bipush (v := (-9 : Int32)) S dX2_owner_61 (by decide) ?_
    exact z_iretP (v := (-9 : Int32)) S M rfl dX2_owner_63 hf
theorem m_X2_owner (l : Launch) (E : Ev) (P : PH) (x0 : Nat) (x1 : Int32) (x2 : Int32) (h_x0 : ok x0 1 0) (r : Int32) (hf : f_X2_owner P x0 x1 x2 = some r) : CtI l E yX2_owner cX2_owner 5 (some .int) r_X2_owner [.ref (ad E x0), .int x1, .int x2] P r P :=
  z_body (own := RX2) (by decide +kernel) rfl (Nat.le_of_ble_eq_true rfl) rfl (fun x _ S M => w_X2_owner S M P x0 x1 x2 h_x0 r hf)
-- yX2_owned
theorem dX2_owned_0 : decode cX2_owned 0 = .ok (.iconst 0, 1) := by decide +kernel
theorem dX2_owned_1 : decode cX2_owned 1 = .ok (.istore_n 3, 1) := by decide +kernel
theorem dX2_owned_2 : decode cX2_owned 2 = .ok (.iconst 0, 1) := by decide +kernel
theorem dX2_owned_3 : decode cX2_owned 3 = .ok (.istore 4, 2) := by decide +kernel
theorem dX2_owned_5 : decode cX2_owned 5 = .ok (.iload 4, 2) := by decide +kernel
theorem dX2_owned_7 : decode cX2_owned 7 = .ok (.aload_n 0, 1) := by decide +kernel
theorem dX2_owned_8 : decode cX2_owned 8 = .ok (.getfield 32, 3) := by decide +kernel
theorem dX2_owned_11 : decode cX2_owned 11 = .ok (.if_icmp .ge 27, 3) := by decide +kernel
theorem dX2_owned_14 : decode cX2_owned 14 = .ok (.aload_n 0, 1) := by decide +kernel
theorem dX2_owned_15 : decode cX2_owned 15 = .ok (.iload 4, 2) := by decide +kernel
theorem dX2_owned_17 : decode cX2_owned 17 = .ok (.iload_n 2, 1) := by decide +kernel
theorem dX2_owned_18 : decode cX2_owned 18 = .ok (.invokevirtual 54, 3) := by decide +kernel
theorem dX2_owned_21 : decode cX2_owned 21 = .ok (.iload_n 1, 1) := by decide +kernel
theorem dX2_owned_22 : decode cX2_owned 22 = .ok (.if_icmp .ne 10, 3) := by decide +kernel
theorem dX2_owned_25 : decode cX2_owned 25 = .ok (.iload_n 3, 1) := by decide +kernel
theorem dX2_owned_26 : decode cX2_owned 26 = .ok (.iconst 1, 1) := by decide +kernel
theorem dX2_owned_27 : decode cX2_owned 27 = .ok (.iload 4, 2) := by decide +kernel
theorem dX2_owned_29 : decode cX2_owned 29 = .ok (.ishl, 1) := by decide +kernel
theorem dX2_owned_30 : decode cX2_owned 30 = .ok (.ior, 1) := by decide +kernel
theorem dX2_owned_31 : decode cX2_owned 31 = .ok (.istore_n 3, 1) := by decide +kernel
theorem dX2_owned_32 : decode cX2_owned 32 = .ok (.iinc 4 1, 3) := by decide +kernel
theorem dX2_owned_35 : decode cX2_owned 35 = .ok (.goto (-30), 3) := by decide +kernel
theorem dX2_owned_38 : decode cX2_owned 38 = .ok (.iload_n 3, 1) := by decide +kernel
theorem dX2_owned_39 : decode cX2_owned 39 = .ok (.ireturn, 1) := by decide +kernel
def r_X2_owned : Room := { frames := 1, cells := 0, slots := 0, locals := 24 }
def f_X2_owned_L5 (K : Int32 → Option Int32) (P : PH) (x0 : Nat) (x1 : Int32) (x2 : Int32) : Nat → Int32 → Int32 → Option Int32
  | 0, _, _ => none
  | n + 1, x3, x4 =>
    (if (P.1 x0 1) ≤ x4 then K x3 else ((f_X2_owner P x0 x4 x2).bind fun q1 => (if q1 = x1 then f_X2_owned_L5 K P x0 x1 x2 n (x3 ||| ((1 : Int32) <<< (x4 &&& 31))) (x4 + (1 : Int32)) else f_X2_owned_L5 K P x0 x1 x2 n x3 (x4 + (1 : Int32)))))
theorem w_X2_owned_L5 {x : Fx} {E : Ev} (S : ZS x E r_X2_owned cX2_owned 5 RX2 (some .int)) (M : ZM x E) {K : Int32 → Option Int32} (P : PH) (x0 : Nat) (x1 : Int32) (x2 : Int32) (h_x0 : ok x0 1 0) (r : Int32) (hK : ∀ (y3 : Int32), K y3 = some r → Wz x E 5 (QI E x r P) P 38 [(3, .int y3)] []) : ∀ (n : Nat) (x3 : Int32) (x4 : Int32), f_X2_owned_L5 K P x0 x1 x2 n x3 x4 = some r → Wz x E 5 (QI E x r P) P 5 [(0, .ref (ad E x0)), (1, .int x1), (2, .int x2), (3, .int x3), (4, .int x4)] [] := by
  intro n
  induction n with
  | zero => intro x3 x4 hf; cases hf
  | succ n ih =>
    intro x3 x4 hf
    unfold f_X2_owned_L5 at hf
    refine z_iload S 4 dX2_owned_5 rfl ?_
    refine z_aload_n S 0 dX2_owned_7 rfl rfl ?_
    refine z_getI S cf_1 h_x0 1 (by decide) rfl wd217 dX2_owned_8 ?_
    refine z_icmp_ge (tgt := 38) S dX2_owned_11 (by decide) hf (fun hf => ?_) (fun hf => ?_)
    · refine z_sub [3] rfl ?_
      exact hK x3 hf
    · refine z_aload_n S 0 dX2_owned_14 rfl rfl ?_
      refine z_iload S 4 dX2_owned_15 rfl ?_
      refine z_iload_n S 2 dX2_owned_17 rfl rfl ?_
      refine z_callVI (rc := r_X2_owner) [.int x4, .int x2] S mo_X2_owner wd384 wd385 wd383 h_x0 (by decide) cl_1 rfl rfl (by decide) (z_room0 S M (by rfl) (by rfl)) rfl (Nat.le_of_ble_eq_true rfl) rfl dX2_owned_18 (fun q => q) (fun _ => P) (fun q hq => m_X2_owner (xl x) E _ _ _ _ h_x0 q hq) hf (fun q1 hf => ?_)
      refine z_iload_n S 1 dX2_owned_21 rfl rfl ?_
      refine z_icmp_ne (tgt := 32) S dX2_owned_22 (by decide) hf (fun hf => ?_) (fun hf => ?_)
      · refine z_iload_n S 3 dX2_owned_25 rfl rfl ?_
        refine z_iconst (v := 1) S dX2_owned_26 (by decide) ?_
        refine z_iload S 4 dX2_owned_27 rfl ?_
        refine z_ishl S dX2_owned_29 ?_
        refine z_ior S dX2_owned_30 ?_
        refine z_istore_n (lv' := [(3, .int (x3 ||| ((1 : Int32) <<< (x4 &&& 31)))), (0, .ref (ad E x0)), (1, .int x1), (2, .int x2), (4, .int x4)]) S dX2_owned_31 rfl (by decide) rfl ?_
        refine z_iinc (v := (x4 + (1 : Int32))) (lv' := [(4, .int (x4 + (1 : Int32))), (3, .int (x3 ||| ((1 : Int32) <<< (x4 &&& 31)))), (0, .ref (ad E x0)), (1, .int x1), (2, .int x2)]) S 4 dX2_owned_32 rfl (by rfl) (by decide) rfl ?_
        refine z_goto (tgt := 5) S dX2_owned_35 (by decide) ?_
        refine z_sub [2, 3, 4, 1, 0] rfl ?_
        exact ih (x3 ||| ((1 : Int32) <<< (x4 &&& 31))) (x4 + (1 : Int32)) hf
      · refine z_iinc (v := (x4 + (1 : Int32))) (lv' := [(4, .int (x4 + (1 : Int32))), (0, .ref (ad E x0)), (1, .int x1), (2, .int x2), (3, .int x3)]) S 4 dX2_owned_32 rfl (by rfl) (by decide) rfl ?_
        refine z_goto (tgt := 5) S dX2_owned_35 (by decide) ?_
        refine z_sub [1, 2, 3, 4, 0] rfl ?_
        exact ih x3 (x4 + (1 : Int32)) hf
def f_X2_owned (P : PH) (x0 : Nat) (x1 : Int32) (x2 : Int32) : Option Int32 :=
  f_X2_owned_L5 (fun v2 => some v2) P x0 x1 x2 1000 (0 : Int32) (0 : Int32)
theorem w_X2_owned {x : Fx} {E : Ev} (S : ZS x E r_X2_owned cX2_owned 5 RX2 (some .int)) (M : ZM x E) (P : PH) (x0 : Nat) (x1 : Int32) (x2 : Int32) (h_x0 : ok x0 1 0) (r : Int32) (hf : f_X2_owned P x0 x1 x2 = some r) : Wz x E 5 (QI E x r P) P 0 [(0, .ref (ad E x0)), (1, .int x1), (2, .int x2)] [] := by
  unfold f_X2_owned at hf
  refine z_iconst (v := 0) S dX2_owned_0 (by decide) ?_
  refine z_istore_n (lv' := [(3, .int (0 : Int32)), (0, .ref (ad E x0)), (1, .int x1), (2, .int x2)]) S dX2_owned_1 rfl (by decide) rfl ?_
  refine z_iconst (v := 0) S dX2_owned_2 (by decide) ?_
  refine z_istore (lv' := [(4, .int (0 : Int32)), (3, .int (0 : Int32)), (0, .ref (ad E x0)), (1, .int x1), (2, .int x2)]) S dX2_owned_3 (by decide) rfl ?_
  refine z_sub [2, 3, 4, 1, 0] rfl ?_
  refine w_X2_owned_L5 S M _ x0 x1 x2 h_x0 r (fun v2 hf => ?_) 1000 (0 : Int32) (0 : Int32) hf
  refine z_iload_n S 0 dX2_owned_38 rfl rfl ?_
  exact z_iretP (v := v2) S M rfl dX2_owned_39 hf
theorem m_X2_owned (l : Launch) (E : Ev) (P : PH) (x0 : Nat) (x1 : Int32) (x2 : Int32) (h_x0 : ok x0 1 0) (r : Int32) (hf : f_X2_owned P x0 x1 x2 = some r) : CtI l E yX2_owned cX2_owned 5 (some .int) r_X2_owned [.ref (ad E x0), .int x1, .int x2] P r P :=
  z_body (own := RX2) (by decide +kernel) rfl (Nat.le_of_ble_eq_true rfl) rfl (fun x _ S M => w_X2_owned S M P x0 x1 x2 h_x0 r hf)
-- yX2_may
theorem dX2_may_0 : decode cX2_may 0 = .ok (.iload_n 2, 1) := by decide +kernel
theorem dX2_may_1 : decode cX2_may 1 = .ok (.iload_n 1, 1) := by decide +kernel
theorem dX2_may_2 : decode cX2_may 2 = .ok (.ishr, 1) := by decide +kernel
theorem dX2_may_3 : decode cX2_may 3 = .ok (.iconst 1, 1) := by decide +kernel
theorem dX2_may_4 : decode cX2_may 4 = .ok (.iand, 1) := by decide +kernel
theorem dX2_may_5 : decode cX2_may 5 = .ok (.ifCond .ne 5, 3) := by decide +kernel
theorem dX2_may_8 : decode cX2_may 8 = .ok (.iconst 0, 1) := by decide +kernel
theorem dX2_may_9 : decode cX2_may 9 = .ok (.ireturn, 1) := by decide +kernel
theorem dX2_may_10 : decode cX2_may 10 = .ok (.aload_n 0, 1) := by decide +kernel
theorem dX2_may_11 : decode cX2_may 11 = .ok (.getfield 15, 3) := by decide +kernel
theorem dX2_may_14 : decode cX2_may 14 = .ok (.iload_n 1, 1) := by decide +kernel
theorem dX2_may_15 : decode cX2_may 15 = .ok (.iaload, 1) := by decide +kernel
theorem dX2_may_16 : decode cX2_may 16 = .ok (.bipush (-9), 2) := by decide +kernel
theorem dX2_may_18 : decode cX2_may 18 = .ok (.if_icmp .ne 7, 3) := by decide +kernel
theorem dX2_may_21 : decode cX2_may 21 = .ok (.iconst 0, 1) := by decide +kernel
theorem dX2_may_22 : decode cX2_may 22 = .ok (.goto 11, 3) := by decide +kernel
theorem dX2_may_25 : decode cX2_may 25 = .ok (.iconst 1, 1) := by decide +kernel
theorem dX2_may_26 : decode cX2_may 26 = .ok (.aload_n 0, 1) := by decide +kernel
theorem dX2_may_27 : decode cX2_may 27 = .ok (.getfield 15, 3) := by decide +kernel
theorem dX2_may_30 : decode cX2_may 30 = .ok (.iload_n 1, 1) := by decide +kernel
theorem dX2_may_31 : decode cX2_may 31 = .ok (.iaload, 1) := by decide +kernel
theorem dX2_may_32 : decode cX2_may 32 = .ok (.ishl, 1) := by decide +kernel
theorem dX2_may_33 : decode cX2_may 33 = .ok (.istore 5, 2) := by decide +kernel
theorem dX2_may_35 : decode cX2_may 35 = .ok (.aload_n 0, 1) := by decide +kernel
theorem dX2_may_36 : decode cX2_may 36 = .ok (.iload_n 1, 1) := by decide +kernel
theorem dX2_may_37 : decode cX2_may 37 = .ok (.iload_n 2, 1) := by decide +kernel
theorem dX2_may_38 : decode cX2_may 38 = .ok (.invokevirtual 58, 3) := by decide +kernel
theorem dX2_may_41 : decode cX2_may 41 = .ok (.iload 5, 2) := by decide +kernel
theorem dX2_may_43 : decode cX2_may 43 = .ok (.ior, 1) := by decide +kernel
theorem dX2_may_44 : decode cX2_may 44 = .ok (.aload_n 0, 1) := by decide +kernel
theorem dX2_may_45 : decode cX2_may 45 = .ok (.getfield 24, 3) := by decide +kernel
theorem dX2_may_48 : decode cX2_may 48 = .ok (.iload_n 1, 1) := by decide +kernel
theorem dX2_may_49 : decode cX2_may 49 = .ok (.iload_n 3, 1) := by decide +kernel
theorem dX2_may_50 : decode cX2_may 50 = .ok (.invokevirtual 61, 3) := by decide +kernel
theorem dX2_may_53 : decode cX2_may 53 = .ok (.iload 4, 2) := by decide +kernel
theorem dX2_may_55 : decode cX2_may 55 = .ok (.iconst (-1), 1) := by decide +kernel
theorem dX2_may_56 : decode cX2_may 56 = .ok (.ixor, 1) := by decide +kernel
theorem dX2_may_57 : decode cX2_may 57 = .ok (.iand, 1) := by decide +kernel
theorem dX2_may_58 : decode cX2_may 58 = .ok (.ior, 1) := by decide +kernel
theorem dX2_may_59 : decode cX2_may 59 = .ok (.ireturn, 1) := by decide +kernel
def r_X2_may : Room := { frames := 2, cells := 0, slots := 0, locals := 48 }
def f_X2_may_J33 (P : PH) (x0 : Nat) (x1 : Int32) (x2 : Int32) (x3 : Int32) (x4 : Int32) (s0 : Int32) : Option Int32 :=
  ((f_X2_owned P x0 x1 x2).bind fun q1 => ((f_X4_roomsByRight P (P.2.2 x0 5) x1 x3).bind fun q3 => some ((q1 ||| s0) ||| (q3 &&& (x4 ^^^ (-1 : Int32))))))
theorem w_X2_may_J33 {x : Fx} {E : Ev} (S : ZS x E r_X2_may cX2_may 6 RX2 (some .int)) (M : ZM x E) (P : PH) (x0 : Nat) (x1 : Int32) (x2 : Int32) (x3 : Int32) (x4 : Int32) (s0 : Int32) (h_x0 : ok x0 1 0) (r : Int32) (hf : f_X2_may_J33 P x0 x1 x2 x3 x4 s0 = some r) : Wz x E 6 (QI E x r P) P 33 [(0, .ref (ad E x0)), (1, .int x1), (2, .int x2), (3, .int x3), (4, .int x4)] [.int s0] := by
  unfold f_X2_may_J33 at hf
  refine z_istore (lv' := [(5, .int s0), (0, .ref (ad E x0)), (1, .int x1), (2, .int x2), (3, .int x3), (4, .int x4)]) S dX2_may_33 (by decide) rfl ?_
  refine z_aload_n S 1 dX2_may_35 rfl rfl ?_
  refine z_iload_n S 2 dX2_may_36 rfl rfl ?_
  refine z_iload_n S 3 dX2_may_37 rfl rfl ?_
  refine z_callVI (rc := r_X2_owned) [.int x1, .int x2] S mo_X2_owned wd380 wd381 wd379 h_x0 (by decide) cl_1 rfl rfl (by decide) (z_room0 S M (by rfl) (by rfl)) rfl (Nat.le_of_ble_eq_true rfl) rfl dX2_may_38 (fun q => q) (fun _ => P) (fun q hq => m_X2_owned (xl x) E _ _ _ _ h_x0 q hq) hf (fun q1 hf => ?_)
  refine z_iload S 0 dX2_may_41 rfl ?_
  refine z_ior S dX2_may_43 ?_
  refine z_aload_n S 1 dX2_may_44 rfl rfl ?_
  refine z_getR (K' := 2) (n' := 0) S cf_1 h_x0 5 (by decide) rfl rfl rfl wd230 dX2_may_45 (fun h2 => ?_)
  refine z_iload_n S 2 dX2_may_48 rfl rfl ?_
  refine z_iload_n S 4 dX2_may_49 rfl rfl ?_
  refine z_callVI (rc := r_X4_roomsByRight) [.int x1, .int x3] S mo_X4_roomsByRight wd388 wd389 wd387 h2 (by decide) cl_2 rfl rfl (by decide) (z_room0 S M (by rfl) (by rfl)) rfl (Nat.le_of_ble_eq_true rfl) rfl dX2_may_50 (fun q => q) (fun _ => P) (fun q hq => m_X4_roomsByRight (xl x) E _ _ _ _ h2 q hq) hf (fun q3 hf => ?_)
  refine z_iload S 5 dX2_may_53 rfl ?_
  refine z_iconst (v := (-1 : Int32)) S dX2_may_55 (by decide) ?_
  refine z_ixor S dX2_may_56 ?_
  refine z_iand S dX2_may_57 ?_
  refine z_ior S dX2_may_58 ?_
  exact z_iretP (v := ((q1 ||| s0) ||| (q3 &&& (x4 ^^^ (-1 : Int32))))) S M rfl dX2_may_59 hf
def f_X2_may (P : PH) (x0 : Nat) (x1 : Int32) (x2 : Int32) (x3 : Int32) (x4 : Int32) : Option Int32 :=
  (if ((x2 >>> (x1 &&& 31)) &&& (1 : Int32)) = 0 then some (0 : Int32) else (if (x1 < 0 ∨ 6 ≤ x1.toNatClampNeg) then none else (if (P.1 (P.2.2 x0 3) x1.toNatClampNeg) = (-9 : Int32) then f_X2_may_J33 P x0 x1 x2 x3 x4 (0 : Int32) else (if (x1 < 0 ∨ 6 ≤ x1.toNatClampNeg) then none else f_X2_may_J33 P x0 x1 x2 x3 x4 ((1 : Int32) <<< ((P.1 (P.2.2 x0 3) x1.toNatClampNeg) &&& 31))))))
theorem w_X2_may {x : Fx} {E : Ev} (S : ZS x E r_X2_may cX2_may 6 RX2 (some .int)) (M : ZM x E) (P : PH) (x0 : Nat) (x1 : Int32) (x2 : Int32) (x3 : Int32) (x4 : Int32) (h_x0 : ok x0 1 0) (r : Int32) (hf : f_X2_may P x0 x1 x2 x3 x4 = some r) : Wz x E 6 (QI E x r P) P 0 [(0, .ref (ad E x0)), (1, .int x1), (2, .int x2), (3, .int x3), (4, .int x4)] [] := by
  unfold f_X2_may at hf
  refine z_iload_n S 2 dX2_may_0 rfl rfl ?_
  refine z_iload_n S 1 dX2_may_1 rfl rfl ?_
  refine z_ishr S dX2_may_2 ?_
  refine z_iconst (v := 1) S dX2_may_3 (by decide) ?_
  refine z_iand S dX2_may_4 ?_
  refine z_if_ne (tgt := 10) S dX2_may_5 (by decide) hf (fun hf => ?_) (fun hf => ?_)
  · refine z_iconst (v := 0) S dX2_may_8 (by decide) ?_
    exact z_iretP (v := (0 : Int32)) S M rfl dX2_may_9 hf
  · refine z_aload_n S 0 dX2_may_10 rfl rfl ?_
    refine z_getR (K' := 9) (n' := 6) S cf_1 h_x0 3 (by decide) rfl rfl rfl wd224 dX2_may_11 (fun h4 => ?_)
    refine z_iload_n S 1 dX2_may_14 rfl rfl ?_
    refine z_iald S h4 dX2_may_15 hf (fun hf => ?_)
    refine z_bipush (v := (-9 : Int32)) S dX2_may_16 (by decide) ?_
    refine z_icmp_ne (tgt := 25) S dX2_may_18 (by decide) hf (fun hf => ?_) (fun hf => ?_)
    · refine z_iconst (v := 0) S dX2_may_21 (by decide) ?_
      refine z_goto (tgt := 33) S dX2_may_22 (by decide) ?_
      exact w_X2_may_J33 S M P x0 x1 x2 x3 x4 (0 : Int32) h_x0 r hf
    · refine z_iconst (v := 1) S dX2_may_25 (by decide) ?_
      refine z_aload_n S 0 dX2_may_26 rfl rfl ?_
      refine z_getR (K' := 9) (n' := 6) S cf_1 h_x0 3 (by decide) rfl rfl rfl wd224 dX2_may_27 (fun h5 => ?_)
      refine z_iload_n S 1 dX2_may_30 rfl rfl ?_
      refine z_iald S h5 dX2_may_31 hf (fun hf => ?_)
      refine z_ishl S dX2_may_32 ?_
      exact w_X2_may_J33 S M P x0 x1 x2 x3 x4 ((1 : Int32) <<< ((P.1 (P.2.2 x0 3) x1.toNatClampNeg) &&& 31)) h_x0 r hf
theorem m_X2_may (l : Launch) (E : Ev) (P : PH) (x0 : Nat) (x1 : Int32) (x2 : Int32) (x3 : Int32) (x4 : Int32) (h_x0 : ok x0 1 0) (r : Int32) (hf : f_X2_may P x0 x1 x2 x3 x4 = some r) : CtI l E yX2_may cX2_may 6 (some .int) r_X2_may [.ref (ad E x0), .int x1, .int x2, .int x3, .int x4] P r P :=
  z_body (own := RX2) (by decide +kernel) rfl (Nat.le_of_ble_eq_true rfl) rfl (fun x _ S M => w_X2_may S M P x0 x1 x2 x3 x4 h_x0 r hf)
-- yX2_behindDoorsOf
theorem dX2_behindDoorsOf_0 : decode cX2_behindDoorsOf 0 = .ok (.iconst 0, 1) := by decide +kernel
theorem dX2_behindDoorsOf_1 : decode cX2_behindDoorsOf 1 = .ok (.istore_n 2, 1) := by decide +kernel
theorem dX2_behindDoorsOf_2 : decode cX2_behindDoorsOf 2 = .ok (.iconst 0, 1) := by decide +kernel
theorem dX2_behindDoorsOf_3 : decode cX2_behindDoorsOf 3 = .ok (.istore_n 3, 1) := by decide +kernel
theorem dX2_behindDoorsOf_4 : decode cX2_behindDoorsOf 4 = .ok (.iload_n 3, 1) := by decide +kernel
theorem dX2_behindDoorsOf_5 : decode cX2_behindDoorsOf 5 = .ok (.aload_n 0, 1) := by decide +kernel
theorem dX2_behindDoorsOf_6 : decode cX2_behindDoorsOf 6 = .ok (.getfield 32, 3) := by decide +kernel
theorem dX2_behindDoorsOf_9 : decode cX2_behindDoorsOf 9 = .ok (.if_icmp .ge 27, 3) := by decide +kernel
theorem dX2_behindDoorsOf_12 : decode cX2_behindDoorsOf 12 = .ok (.iload_n 1, 1) := by decide +kernel
theorem dX2_behindDoorsOf_13 : decode cX2_behindDoorsOf 13 = .ok (.iload_n 3, 1) := by decide +kernel
theorem dX2_behindDoorsOf_14 : decode cX2_behindDoorsOf 14 = .ok (.ishr, 1) := by decide +kernel
theorem dX2_behindDoorsOf_15 : decode cX2_behindDoorsOf 15 = .ok (.iconst 1, 1) := by decide +kernel
theorem dX2_behindDoorsOf_16 : decode cX2_behindDoorsOf 16 = .ok (.iand, 1) := by decide +kernel
theorem dX2_behindDoorsOf_17 : decode cX2_behindDoorsOf 17 = .ok (.iconst 1, 1) := by decide +kernel
theorem dX2_behindDoorsOf_18 : decode cX2_behindDoorsOf 18 = .ok (.if_icmp .ne 12, 3) := by decide +kernel
theorem dX2_behindDoorsOf_21 : decode cX2_behindDoorsOf 21 = .ok (.iload_n 2, 1) := by decide +kernel
theorem dX2_behindDoorsOf_22 : decode cX2_behindDoorsOf 22 = .ok (.aload_n 0, 1) := by decide +kernel
theorem dX2_behindDoorsOf_23 : decode cX2_behindDoorsOf 23 = .ok (.getfield 9, 3) := by decide +kernel
theorem dX2_behindDoorsOf_26 : decode cX2_behindDoorsOf 26 = .ok (.iload_n 3, 1) := by decide +kernel
theorem dX2_behindDoorsOf_27 : decode cX2_behindDoorsOf 27 = .ok (.iaload, 1) := by decide +kernel
theorem dX2_behindDoorsOf_28 : decode cX2_behindDoorsOf 28 = .ok (.ior, 1) := by decide +kernel
theorem dX2_behindDoorsOf_29 : decode cX2_behindDoorsOf 29 = .ok (.istore_n 2, 1) := by decide +kernel
theorem dX2_behindDoorsOf_30 : decode cX2_behindDoorsOf 30 = .ok (.iinc 3 1, 3) := by decide +kernel
theorem dX2_behindDoorsOf_33 : decode cX2_behindDoorsOf 33 = .ok (.goto (-29), 3) := by decide +kernel
theorem dX2_behindDoorsOf_36 : decode cX2_behindDoorsOf 36 = .ok (.iload_n 2, 1) := by decide +kernel
theorem dX2_behindDoorsOf_37 : decode cX2_behindDoorsOf 37 = .ok (.ireturn, 1) := by decide +kernel
def r_X2_behindDoorsOf : Room := { frames := 0, cells := 0, slots := 0, locals := 0 }
def f_X2_behindDoorsOf_L4 (K : Int32 → Option Int32) (P : PH) (x0 : Nat) (x1 : Int32) : Nat → Int32 → Int32 → Option Int32
  | 0, _, _ => none
  | n + 1, x2, x3 =>
    (if (P.1 x0 1) ≤ x3 then K x2 else (if ((x1 >>> (x3 &&& 31)) &&& (1 : Int32)) = (1 : Int32) then (if (x3 < 0 ∨ 7 ≤ x3.toNatClampNeg) then none else f_X2_behindDoorsOf_L4 K P x0 x1 n (x2 ||| (P.1 (P.2.2 x0 2) x3.toNatClampNeg)) (x3 + (1 : Int32))) else f_X2_behindDoorsOf_L4 K P x0 x1 n x2 (x3 + (1 : Int32))))
theorem w_X2_behindDoorsOf_L4 {x : Fx} {E : Ev} (S : ZS x E r_X2_behindDoorsOf cX2_behindDoorsOf 4 RX2 (some .int)) (M : ZM x E) {K : Int32 → Option Int32} (P : PH) (x0 : Nat) (x1 : Int32) (h_x0 : ok x0 1 0) (r : Int32) (hK : ∀ (y2 : Int32), K y2 = some r → Wz x E 4 (QI E x r P) P 36 [(2, .int y2)] []) : ∀ (n : Nat) (x2 : Int32) (x3 : Int32), f_X2_behindDoorsOf_L4 K P x0 x1 n x2 x3 = some r → Wz x E 4 (QI E x r P) P 4 [(0, .ref (ad E x0)), (1, .int x1), (2, .int x2), (3, .int x3)] [] := by
  intro n
  induction n with
  | zero => intro x2 x3 hf; cases hf
  | succ n ih =>
    intro x2 x3 hf
    unfold f_X2_behindDoorsOf_L4 at hf
    refine z_iload_n S 3 dX2_behindDoorsOf_4 rfl rfl ?_
    refine z_aload_n S 0 dX2_behindDoorsOf_5 rfl rfl ?_
    refine z_getI S cf_1 h_x0 1 (by decide) rfl wd217 dX2_behindDoorsOf_6 ?_
    refine z_icmp_ge (tgt := 36) S dX2_behindDoorsOf_9 (by decide) hf (fun hf => ?_) (fun hf => ?_)
    · refine z_sub [2] rfl ?_
      exact hK x2 hf
    · refine z_iload_n S 1 dX2_behindDoorsOf_12 rfl rfl ?_
      refine z_iload_n S 3 dX2_behindDoorsOf_13 rfl rfl ?_
      refine z_ishr S dX2_behindDoorsOf_14 ?_
      refine z_iconst (v := 1) S dX2_behindDoorsOf_15 (by decide) ?_
      refine z_iand S dX2_behindDoorsOf_16 ?_
      refine z_iconst (v := 1) S dX2_behindDoorsOf_17 (by decide) ?_
      refine z_icmp_ne (tgt := 30) S dX2_behindDoorsOf_18 (by decide) hf (fun hf => ?_) (fun hf => ?_)
      · refine z_iload_n S 2 dX2_behindDoorsOf_21 rfl rfl ?_
        refine z_aload_n S 0 dX2_behindDoorsOf_22 rfl rfl ?_
        refine z_getR (K' := 9) (n' := 7) S cf_1 h_x0 2 (by decide) rfl rfl rfl wd221 dX2_behindDoorsOf_23 (fun h1 => ?_)
        refine z_iload_n S 3 dX2_behindDoorsOf_26 rfl rfl ?_
        refine z_iald S h1 dX2_behindDoorsOf_27 hf (fun hf => ?_)
        refine z_ior S dX2_behindDoorsOf_28 ?_
        refine z_istore_n (lv' := [(2, .int (x2 ||| (P.1 (P.2.2 x0 2) x3.toNatClampNeg))), (0, .ref (ad E x0)), (1, .int x1), (3, .int x3)]) S dX2_behindDoorsOf_29 rfl (by decide) rfl ?_
        refine z_iinc (v := (x3 + (1 : Int32))) (lv' := [(3, .int (x3 + (1 : Int32))), (2, .int (x2 ||| (P.1 (P.2.2 x0 2) x3.toNatClampNeg))), (0, .ref (ad E x0)), (1, .int x1)]) S 3 dX2_behindDoorsOf_30 rfl (by rfl) (by decide) rfl ?_
        refine z_goto (tgt := 4) S dX2_behindDoorsOf_33 (by decide) ?_
        refine z_sub [2, 3, 1, 0] rfl ?_
        exact ih (x2 ||| (P.1 (P.2.2 x0 2) x3.toNatClampNeg)) (x3 + (1 : Int32)) hf
      · refine z_iinc (v := (x3 + (1 : Int32))) (lv' := [(3, .int (x3 + (1 : Int32))), (0, .ref (ad E x0)), (1, .int x1), (2, .int x2)]) S 3 dX2_behindDoorsOf_30 rfl (by rfl) (by decide) rfl ?_
        refine z_goto (tgt := 4) S dX2_behindDoorsOf_33 (by decide) ?_
        refine z_sub [1, 2, 3, 0] rfl ?_
        exact ih x2 (x3 + (1 : Int32)) hf
def f_X2_behindDoorsOf (P : PH) (x0 : Nat) (x1 : Int32) : Option Int32 :=
  f_X2_behindDoorsOf_L4 (fun v2 => some v2) P x0 x1 1000 (0 : Int32) (0 : Int32)
theorem w_X2_behindDoorsOf {x : Fx} {E : Ev} (S : ZS x E r_X2_behindDoorsOf cX2_behindDoorsOf 4 RX2 (some .int)) (M : ZM x E) (P : PH) (x0 : Nat) (x1 : Int32) (h_x0 : ok x0 1 0) (r : Int32) (hf : f_X2_behindDoorsOf P x0 x1 = some r) : Wz x E 4 (QI E x r P) P 0 [(0, .ref (ad E x0)), (1, .int x1)] [] := by
  unfold f_X2_behindDoorsOf at hf
  refine z_iconst (v := 0) S dX2_behindDoorsOf_0 (by decide) ?_
  refine z_istore_n (lv' := [(2, .int (0 : Int32)), (0, .ref (ad E x0)), (1, .int x1)]) S dX2_behindDoorsOf_1 rfl (by decide) rfl ?_
  refine z_iconst (v := 0) S dX2_behindDoorsOf_2 (by decide) ?_
  refine z_istore_n (lv' := [(3, .int (0 : Int32)), (2, .int (0 : Int32)), (0, .ref (ad E x0)), (1, .int x1)]) S dX2_behindDoorsOf_3 rfl (by decide) rfl ?_
  refine z_sub [2, 3, 1, 0] rfl ?_
  refine w_X2_behindDoorsOf_L4 S M _ x0 x1 h_x0 r (fun v2 hf => ?_) 1000 (0 : Int32) (0 : Int32) hf
  refine z_iload_n S 0 dX2_behindDoorsOf_36 rfl rfl ?_
  exact z_iretP (v := v2) S M rfl dX2_behindDoorsOf_37 hf
theorem m_X2_behindDoorsOf (l : Launch) (E : Ev) (P : PH) (x0 : Nat) (x1 : Int32) (h_x0 : ok x0 1 0) (r : Int32) (hf : f_X2_behindDoorsOf P x0 x1 = some r) : CtI l E yX2_behindDoorsOf cX2_behindDoorsOf 4 (some .int) r_X2_behindDoorsOf [.ref (ad E x0), .int x1] P r P :=
  z_body (own := RX2) (by decide +kernel) rfl (Nat.le_of_ble_eq_true rfl) rfl (fun x _ S M => w_X2_behindDoorsOf S M P x0 x1 h_x0 r hf)
-- yX2_reach
theorem dX2_reach_0 : decode cX2_reach 0 = .ok (.aload_n 0, 1) := by decide +kernel
theorem dX2_reach_1 : decode cX2_reach 1 = .ok (.getfield 15, 3) := by decide +kernel
theorem dX2_reach_4 : decode cX2_reach 4 = .ok (.iload_n 1, 1) := by decide +kernel
theorem dX2_reach_5 : decode cX2_reach 5 = .ok (.iaload, 1) := by decide +kernel
theorem dX2_reach_6 : decode cX2_reach 6 = .ok (.bipush (-9), 2) := by decide +kernel
theorem dX2_reach_8 : decode cX2_reach 8 = .ok (.if_icmp .ne 7, 3) := by decide +kernel
theorem dX2_reach_11 : decode cX2_reach 11 = .ok (.iconst 0, 1) := by decide +kernel
theorem dX2_reach_12 : decode cX2_reach 12 = .ok (.goto 13, 3) := by decide +kernel
theorem dX2_reach_15 : decode cX2_reach 15 = .ok (.iconst 1, 1) := by decide +kernel
theorem dX2_reach_16 : decode cX2_reach 16 = .ok (.aload_n 0, 1) := by decide +kernel
theorem dX2_reach_17 : decode cX2_reach 17 = .ok (.getfield 15, 3) := by decide +kernel
theorem dX2_reach_20 : decode cX2_reach 20 = .ok (.iload_n 1, 1) := by decide +kernel
theorem dX2_reach_21 : decode cX2_reach 21 = .ok (.iaload, 1) := by decide +kernel
theorem dX2_reach_22 : decode cX2_reach 22 = .ok (.ishl, 1) := by decide +kernel
theorem dX2_reach_23 : decode cX2_reach 23 = .ok (.iload_n 2, 1) := by decide +kernel
theorem dX2_reach_24 : decode cX2_reach 24 = .ok (.iand, 1) := by decide +kernel
theorem dX2_reach_25 : decode cX2_reach 25 = .ok (.istore_n 3, 1) := by decide +kernel
theorem dX2_reach_26 : decode cX2_reach 26 = .ok (.iconst 0, 1) := by decide +kernel
theorem dX2_reach_27 : decode cX2_reach 27 = .ok (.istore 4, 2) := by decide +kernel
theorem dX2_reach_29 : decode cX2_reach 29 = .ok (.iload 4, 2) := by decide +kernel
theorem dX2_reach_31 : decode cX2_reach 31 = .ok (.aload_n 0, 1) := by decide +kernel
theorem dX2_reach_32 : decode cX2_reach 32 = .ok (.getfield 32, 3) := by decide +kernel
theorem dX2_reach_35 : decode cX2_reach 35 = .ok (.if_icmp .ge 19, 3) := by decide +kernel
theorem dX2_reach_38 : decode cX2_reach 38 = .ok (.iload_n 3, 1) := by decide +kernel
theorem dX2_reach_39 : decode cX2_reach 39 = .ok (.aload_n 0, 1) := by decide +kernel
theorem dX2_reach_40 : decode cX2_reach 40 = .ok (.iload_n 3, 1) := by decide +kernel
theorem dX2_reach_41 : decode cX2_reach 41 = .ok (.invokevirtual 68, 3) := by decide +kernel
theorem dX2_reach_44 : decode cX2_reach 44 = .ok (.iload_n 2, 1) := by decide +kernel
theorem dX2_reach_45 : decode cX2_reach 45 = .ok (.iand, 1) := by decide +kernel
theorem dX2_reach_46 : decode cX2_reach 46 = .ok (.ior, 1) := by decide +kernel
theorem dX2_reach_47 : decode cX2_reach 47 = .ok (.istore_n 3, 1) := by decide +kernel
theorem dX2_reach_48 : decode cX2_reach 48 = .ok (.iinc 4 1, 3) := by decide +kernel
theorem dX2_reach_51 : decode cX2_reach 51 = .ok (.goto (-22), 3) := by decide +kernel
theorem dX2_reach_54 : decode cX2_reach 54 = .ok (.iload_n 3, 1) := by decide +kernel
theorem dX2_reach_55 : decode cX2_reach 55 = .ok (.ireturn, 1) := by decide +kernel
def r_X2_reach : Room := { frames := 1, cells := 0, slots := 0, locals := 23 }
def f_X2_reach_L29 (K : Int32 → Option Int32) (P : PH) (x0 : Nat) (x2 : Int32) : Nat → Int32 → Int32 → Option Int32
  | 0, _, _ => none
  | n + 1, x3, x4 =>
    (if (P.1 x0 1) ≤ x4 then K x3 else ((f_X2_behindDoorsOf P x0 x3).bind fun q1 => f_X2_reach_L29 K P x0 x2 n (x3 ||| (q1 &&& x2)) (x4 + (1 : Int32))))
theorem w_X2_reach_L29 {x : Fx} {E : Ev} (S : ZS x E r_X2_reach cX2_reach 5 RX2 (some .int)) (M : ZM x E) {K : Int32 → Option Int32} (P : PH) (x0 : Nat) (x2 : Int32) (h_x0 : ok x0 1 0) (r : Int32) (hK : ∀ (y3 : Int32), K y3 = some r → Wz x E 5 (QI E x r P) P 54 [(3, .int y3)] []) : ∀ (n : Nat) (x3 : Int32) (x4 : Int32), f_X2_reach_L29 K P x0 x2 n x3 x4 = some r → Wz x E 5 (QI E x r P) P 29 [(0, .ref (ad E x0)), (2, .int x2), (3, .int x3), (4, .int x4)] [] := by
  intro n
  induction n with
  | zero => intro x3 x4 hf; cases hf
  | succ n ih =>
    intro x3 x4 hf
    unfold f_X2_reach_L29 at hf
    refine z_iload S 3 dX2_reach_29 rfl ?_
    refine z_aload_n S 0 dX2_reach_31 rfl rfl ?_
    refine z_getI S cf_1 h_x0 1 (by decide) rfl wd217 dX2_reach_32 ?_
    refine z_icmp_ge (tgt := 54) S dX2_reach_35 (by decide) hf (fun hf => ?_) (fun hf => ?_)
    · refine z_sub [2] rfl ?_
      exact hK x3 hf
    · refine z_iload_n S 2 dX2_reach_38 rfl rfl ?_
      refine z_aload_n S 0 dX2_reach_39 rfl rfl ?_
      refine z_iload_n S 2 dX2_reach_40 rfl rfl ?_
      refine z_callVI (rc := r_X2_behindDoorsOf) [.int x3] S mo_X2_behindDoorsOf wd396 wd397 wd395 h_x0 (by decide) cl_1 rfl rfl (by decide) (z_room0 S M (by rfl) (by rfl)) rfl (Nat.le_of_ble_eq_true rfl) rfl dX2_reach_41 (fun q => q) (fun _ => P) (fun q hq => m_X2_behindDoorsOf (xl x) E _ _ _ h_x0 q hq) hf (fun q1 hf => ?_)
      refine z_iload_n S 1 dX2_reach_44 rfl rfl ?_
      refine z_iand S dX2_reach_45 ?_
      refine z_ior S dX2_reach_46 ?_
      refine z_istore_n (lv' := [(3, .int (x3 ||| (q1 &&& x2))), (0, .ref (ad E x0)), (2, .int x2), (4, .int x4)]) S dX2_reach_47 rfl (by decide) rfl ?_
      refine z_iinc (v := (x4 + (1 : Int32))) (lv' := [(4, .int (x4 + (1 : Int32))), (3, .int (x3 ||| (q1 &&& x2))), (0, .ref (ad E x0)), (2, .int x2)]) S 3 dX2_reach_48 rfl (by rfl) (by decide) rfl ?_
      refine z_goto (tgt := 29) S dX2_reach_51 (by decide) ?_
      refine z_sub [2, 3, 1, 0] rfl ?_
      exact ih (x3 ||| (q1 &&& x2)) (x4 + (1 : Int32)) hf
def f_X2_reach (P : PH) (x0 : Nat) (x1 : Int32) (x2 : Int32) : Option Int32 :=
  (if (x1 < 0 ∨ 6 ≤ x1.toNatClampNeg) then none else (if (P.1 (P.2.2 x0 3) x1.toNatClampNeg) = (-9 : Int32) then f_X2_reach_L29 (fun v3 => some v3) P x0 x2 1000 (0 : Int32) (0 : Int32) else (if (x1 < 0 ∨ 6 ≤ x1.toNatClampNeg) then none else ((some (((1 : Int32) <<< ((P.1 (P.2.2 x0 3) x1.toNatClampNeg) &&& 31)) &&& x2)).bind fun u5 => f_X2_reach_L29 (fun v6 => some v6) P x0 x2 1000 u5 (0 : Int32)))))
theorem w_X2_reach {x : Fx} {E : Ev} (S : ZS x E r_X2_reach cX2_reach 5 RX2 (some .int)) (M : ZM x E) (P : PH) (x0 : Nat) (x1 : Int32) (x2 : Int32) (h_x0 : ok x0 1 0) (r : Int32) (hf : f_X2_reach P x0 x1 x2 = some r) : Wz x E 5 (QI E x r P) P 0 [(0, .ref (ad E x0)), (1, .int x1), (2, .int x2)] [] := by
  unfold f_X2_reach at hf
  refine z_aload_n S 0 dX2_reach_0 rfl rfl ?_
  refine z_getR (K' := 9) (n' := 6) S cf_1 h_x0 3 (by decide) rfl rfl rfl wd224 dX2_reach_1 (fun h2 => ?_)
  refine z_iload_n S 1 dX2_reach_4 rfl rfl ?_
  refine z_iald S h2 dX2_reach_5 hf (fun hf => ?_)
  refine z_bipush (v := (-9 : Int32)) S dX2_reach_6 (by decide) ?_
  refine z_icmp_ne (tgt := 15) S dX2_reach_8 (by decide) hf (fun hf => ?_) (fun hf => ?_)
  · refine z_iconst (v := 0) S dX2_reach_11 (by decide) ?_
    refine z_goto (tgt := 25) S dX2_reach_12 (by decide) ?_
    refine z_istore_n (lv' := [(3, .int (0 : Int32)), (0, .ref (ad E x0)), (1, .int x1), (2, .int x2)]) S dX2_reach_25 rfl (by decide) rfl ?_
    refine z_iconst (v := 0) S dX2_reach_26 (by decide) ?_
    refine z_istore (lv' := [(4, .int (0 : Int32)), (3, .int (0 : Int32)), (0, .ref (ad E x0)), (1, .int x1), (2, .int x2)]) S dX2_reach_27 (by decide) rfl ?_
    refine z_sub [2, 4, 1, 0] rfl ?_
    refine w_X2_reach_L29 S M _ x0 x2 h_x0 r (fun v3 hf => ?_) 1000 (0 : Int32) (0 : Int32) hf
    refine z_iload_n S 0 dX2_reach_54 rfl rfl ?_
    exact z_iretP (v := v3) S M rfl dX2_reach_55 hf
  · refine z_iconst (v := 1) S dX2_reach_15 (by decide) ?_
    refine z_aload_n S 0 dX2_reach_16 rfl rfl ?_
    refine z_getR (K' := 9) (n' := 6) S cf_1 h_x0 3 (by decide) rfl rfl rfl wd224 dX2_reach_17 (fun h4 => ?_)
    refine z_iload_n S 1 dX2_reach_20 rfl rfl ?_
    refine z_iald S h4 dX2_reach_21 hf (fun hf => ?_)
    refine z_ishl S dX2_reach_22 ?_
    refine z_iload_n S 2 dX2_reach_23 rfl rfl ?_
    refine z_iand S dX2_reach_24 ?_
    refine z_nm hf (fun u5 hf => ?_)
    refine z_istore_n (lv' := [(3, .int u5), (0, .ref (ad E x0)), (1, .int x1), (2, .int x2)]) S dX2_reach_25 rfl (by decide) rfl ?_
    refine z_iconst (v := 0) S dX2_reach_26 (by decide) ?_
    refine z_istore (lv' := [(4, .int (0 : Int32)), (3, .int u5), (0, .ref (ad E x0)), (1, .int x1), (2, .int x2)]) S dX2_reach_27 (by decide) rfl ?_
    refine z_sub [2, 4, 1, 0] rfl ?_
    refine w_X2_reach_L29 S M _ x0 x2 h_x0 r (fun v6 hf => ?_) 1000 u5 (0 : Int32) hf
    refine z_iload_n S 0 dX2_reach_54 rfl rfl ?_
    exact z_iretP (v := v6) S M rfl dX2_reach_55 hf
theorem m_X2_reach (l : Launch) (E : Ev) (P : PH) (x0 : Nat) (x1 : Int32) (x2 : Int32) (h_x0 : ok x0 1 0) (r : Int32) (hf : f_X2_reach P x0 x1 x2 = some r) : CtI l E yX2_reach cX2_reach 5 (some .int) r_X2_reach [.ref (ad E x0), .int x1, .int x2] P r P :=
  z_body (own := RX2) (by decide +kernel) rfl (Nat.le_of_ble_eq_true rfl) rfl (fun x _ S M => w_X2_reach S M P x0 x1 x2 h_x0 r hf)
-- yX2_lacks
theorem dX2_lacks_0 : decode cX2_lacks 0 = .ok (.aload_n 0, 1) := by decide +kernel
theorem dX2_lacks_1 : decode cX2_lacks 1 = .ok (.getfield 18, 3) := by decide +kernel
theorem dX2_lacks_4 : decode cX2_lacks 4 = .ok (.iload_n 1, 1) := by decide +kernel
theorem dX2_lacks_5 : decode cX2_lacks 5 = .ok (.iaload, 1) := by decide +kernel
theorem dX2_lacks_6 : decode cX2_lacks 6 = .ok (.aload_n 0, 1) := by decide +kernel
theorem dX2_lacks_7 : decode cX2_lacks 7 = .ok (.iload_n 1, 1) := by decide +kernel
theorem dX2_lacks_8 : decode cX2_lacks 8 = .ok (.iload_n 2, 1) := by decide +kernel
theorem dX2_lacks_9 : decode cX2_lacks 9 = .ok (.invokevirtual 72, 3) := by decide +kernel
theorem dX2_lacks_12 : decode cX2_lacks 12 = .ok (.iconst (-1), 1) := by decide +kernel
theorem dX2_lacks_13 : decode cX2_lacks 13 = .ok (.ixor, 1) := by decide +kernel
theorem dX2_lacks_14 : decode cX2_lacks 14 = .ok (.iand, 1) := by decide +kernel
theorem dX2_lacks_15 : decode cX2_lacks 15 = .ok (.ifCond .eq 7, 3) := by decide +kernel
theorem dX2_lacks_18 : decode cX2_lacks 18 = .ok (.iconst 1, 1) := by decide +kernel
theorem dX2_lacks_19 : decode cX2_lacks 19 = .ok (.goto 4, 3) := by decide +kernel
theorem dX2_lacks_22 : decode cX2_lacks 22 = .ok (.iconst 0, 1) := by decide +kernel
theorem dX2_lacks_23 : decode cX2_lacks 23 = .ok (.ireturn, 1) := by decide +kernel
def r_X2_lacks : Room := { frames := 2, cells := 0, slots := 0, locals := 47 }
def f_X2_lacks (P : PH) (x0 : Nat) (x1 : Int32) (x2 : Int32) : Option Bool :=
  (if (x1 < 0 ∨ 6 ≤ x1.toNatClampNeg) then none else ((f_X2_reach P x0 x1 x2).bind fun q2 => (if ((P.1 (P.2.2 x0 4) x1.toNatClampNeg) &&& (q2 ^^^ (-1 : Int32))) = 0 then some false else some true)))
theorem w_X2_lacks {x : Fx} {E : Ev} (S : ZS x E r_X2_lacks cX2_lacks 3 RX2 (some .boolean)) (M : ZM x E) (P : PH) (x0 : Nat) (x1 : Int32) (x2 : Int32) (h_x0 : ok x0 1 0) (r : Bool) (hf : f_X2_lacks P x0 x1 x2 = some r) : Wz x E 3 (QI E x (b2i r) P) P 0 [(0, .ref (ad E x0)), (1, .int x1), (2, .int x2)] [] := by
  unfold f_X2_lacks at hf
  refine z_aload_n S 0 dX2_lacks_0 rfl rfl ?_
  refine z_getR (K' := 9) (n' := 6) S cf_1 h_x0 4 (by decide) rfl rfl rfl wd227 dX2_lacks_1 (fun h1 => ?_)
  refine z_iload_n S 1 dX2_lacks_4 rfl rfl ?_
  refine z_iald S h1 dX2_lacks_5 hf (fun hf => ?_)
  refine z_aload_n S 0 dX2_lacks_6 rfl rfl ?_
  refine z_iload_n S 1 dX2_lacks_7 rfl rfl ?_
  refine z_iload_n S 2 dX2_lacks_8 rfl rfl ?_
  refine z_callVI (rc := r_X2_reach) [.int x1, .int x2] S mo_X2_reach wd392 wd393 wd407 h_x0 (by decide) cl_1 rfl rfl (by decide) (z_room0 S M (by rfl) (by rfl)) rfl (Nat.le_of_ble_eq_true rfl) rfl dX2_lacks_9 (fun q => q) (fun _ => P) (fun q hq => m_X2_reach (xl x) E _ _ _ _ h_x0 q hq) hf (fun q2 hf => ?_)
  refine z_iconst (v := (-1 : Int32)) S dX2_lacks_12 (by decide) ?_
  refine z_ixor S dX2_lacks_13 ?_
  refine z_iand S dX2_lacks_14 ?_
  refine z_if_eq (tgt := 22) S dX2_lacks_15 (by decide) hf (fun hf => ?_) (fun hf => ?_)
  · refine z_iconst (v := 0) S dX2_lacks_22 (by decide) ?_
    exact z_zretP (v := false) S M rfl dX2_lacks_23 hf
  · refine z_iconst (v := 1) S dX2_lacks_18 (by decide) ?_
    refine z_goto (tgt := 23) S dX2_lacks_19 (by decide) ?_
    exact z_zretP (v := true) S M rfl dX2_lacks_23 hf
theorem m_X2_lacks (l : Launch) (E : Ev) (P : PH) (x0 : Nat) (x1 : Int32) (x2 : Int32) (h_x0 : ok x0 1 0) (r : Bool) (hf : f_X2_lacks P x0 x1 x2 = some r) : CtI l E yX2_lacks cX2_lacks 3 (some .boolean) r_X2_lacks [.ref (ad E x0), .int x1, .int x2] P (b2i r) P :=
  z_body (own := RX2) (by decide +kernel) rfl (Nat.le_of_ble_eq_true rfl) rfl (fun x _ S M => w_X2_lacks S M P x0 x1 x2 h_x0 r hf)
-- yX2_isCutOff
theorem dX2_isCutOff_0 : decode cX2_isCutOff 0 = .ok (.iload_n 2, 1) := by decide +kernel
theorem dX2_isCutOff_1 : decode cX2_isCutOff 1 = .ok (.iload_n 1, 1) := by decide +kernel
theorem dX2_isCutOff_2 : decode cX2_isCutOff 2 = .ok (.ishr, 1) := by decide +kernel
theorem dX2_isCutOff_3 : decode cX2_isCutOff 3 = .ok (.iconst 1, 1) := by decide +kernel
theorem dX2_isCutOff_4 : decode cX2_isCutOff 4 = .ok (.iand, 1) := by decide +kernel
theorem dX2_isCutOff_5 : decode cX2_isCutOff 5 = .ok (.iconst 1, 1) := by decide +kernel
theorem dX2_isCutOff_6 : decode cX2_isCutOff 6 = .ok (.if_icmp .ne 24, 3) := by decide +kernel
theorem dX2_isCutOff_9 : decode cX2_isCutOff 9 = .ok (.aload_n 0, 1) := by decide +kernel
theorem dX2_isCutOff_10 : decode cX2_isCutOff 10 = .ok (.iload_n 1, 1) := by decide +kernel
theorem dX2_isCutOff_11 : decode cX2_isCutOff 11 = .ok (.aload_n 0, 1) := by decide +kernel
theorem dX2_isCutOff_12 : decode cX2_isCutOff 12 = .ok (.iload_n 1, 1) := by decide +kernel
theorem dX2_isCutOff_13 : decode cX2_isCutOff 13 = .ok (.iload_n 2, 1) := by decide +kernel
theorem dX2_isCutOff_14 : decode cX2_isCutOff 14 = .ok (.iload_n 3, 1) := by decide +kernel
theorem dX2_isCutOff_15 : decode cX2_isCutOff 15 = .ok (.iload 4, 2) := by decide +kernel
theorem dX2_isCutOff_17 : decode cX2_isCutOff 17 = .ok (.invokevirtual 64, 3) := by decide +kernel
theorem dX2_isCutOff_20 : decode cX2_isCutOff 20 = .ok (.invokevirtual 75, 3) := by decide +kernel
theorem dX2_isCutOff_23 : decode cX2_isCutOff 23 = .ok (.ifCond .eq 7, 3) := by decide +kernel
theorem dX2_isCutOff_26 : decode cX2_isCutOff 26 = .ok (.iconst 1, 1) := by decide +kernel
theorem dX2_isCutOff_27 : decode cX2_isCutOff 27 = .ok (.goto 4, 3) := by decide +kernel
theorem dX2_isCutOff_30 : decode cX2_isCutOff 30 = .ok (.iconst 0, 1) := by decide +kernel
theorem dX2_isCutOff_31 : decode cX2_isCutOff 31 = .ok (.ireturn, 1) := by decide +kernel
def r_X2_isCutOff : Room := { frames := 3, cells := 0, slots := 0, locals := 73 }
def f_X2_isCutOff (P : PH) (x0 : Nat) (x1 : Int32) (x2 : Int32) (x3 : Int32) (x4 : Int32) : Option Bool :=
  (if ((x2 >>> (x1 &&& 31)) &&& (1 : Int32)) = (1 : Int32) then ((f_X2_may P x0 x1 x2 x3 x4).bind fun q1 => ((f_X2_lacks P x0 x1 q1).bind fun q2 => (if (b2i q2) = 0 then some false else some true))) else some false)
theorem w_X2_isCutOff {x : Fx} {E : Ev} (S : ZS x E r_X2_isCutOff cX2_isCutOff 5 RX2 (some .boolean)) (M : ZM x E) (P : PH) (x0 : Nat) (x1 : Int32) (x2 : Int32) (x3 : Int32) (x4 : Int32) (h_x0 : ok x0 1 0) (r : Bool) (hf : f_X2_isCutOff P x0 x1 x2 x3 x4 = some r) : Wz x E 5 (QI E x (b2i r) P) P 0 [(0, .ref (ad E x0)), (1, .int x1), (2, .int x2), (3, .int x3), (4, .int x4)] [] := by
  unfold f_X2_isCutOff at hf
  refine z_iload_n S 2 dX2_isCutOff_0 rfl rfl ?_
  refine z_iload_n S 1 dX2_isCutOff_1 rfl rfl ?_
  refine z_ishr S dX2_isCutOff_2 ?_
  refine z_iconst (v := 1) S dX2_isCutOff_3 (by decide) ?_
  refine z_iand S dX2_isCutOff_4 ?_
  refine z_iconst (v := 1) S dX2_isCutOff_5 (by decide) ?_
  refine z_icmp_ne (tgt := 30) S dX2_isCutOff_6 (by decide) hf (fun hf => ?_) (fun hf => ?_)
  · refine z_aload_n S 0 dX2_isCutOff_9 rfl rfl ?_
    refine z_iload_n S 1 dX2_isCutOff_10 rfl rfl ?_
    refine z_aload_n S 0 dX2_isCutOff_11 rfl rfl ?_
    refine z_iload_n S 1 dX2_isCutOff_12 rfl rfl ?_
    refine z_iload_n S 2 dX2_isCutOff_13 rfl rfl ?_
    refine z_iload_n S 3 dX2_isCutOff_14 rfl rfl ?_
    refine z_iload S 4 dX2_isCutOff_15 rfl ?_
    refine z_callVI (rc := r_X2_may) [.int x1, .int x2, .int x3, .int x4] S mo_X2_may wd376 wd377 wd375 h_x0 (by decide) cl_1 rfl rfl (by decide) (z_room0 S M (by rfl) (by rfl)) rfl (Nat.le_of_ble_eq_true rfl) rfl dX2_isCutOff_17 (fun q => q) (fun _ => P) (fun q hq => m_X2_may (xl x) E _ _ _ _ _ _ h_x0 q hq) hf (fun q1 hf => ?_)
    refine z_callVI (rc := r_X2_lacks) [.int x1, .int q1] S mo_X2_lacks wd404 wd405 wd403 h_x0 (by decide) cl_1 rfl rfl (by decide) (z_room0 S M (by rfl) (by rfl)) rfl (Nat.le_of_ble_eq_true rfl) rfl dX2_isCutOff_20 (fun q => b2i q) (fun _ => P) (fun q hq => m_X2_lacks (xl x) E _ _ _ _ h_x0 q hq) hf (fun q2 hf => ?_)
    refine z_if_eq (tgt := 30) S dX2_isCutOff_23 (by decide) hf (fun hf => ?_) (fun hf => ?_)
    · refine z_iconst (v := 0) S dX2_isCutOff_30 (by decide) ?_
      exact z_zretP (v := false) S M rfl dX2_isCutOff_31 hf
    · refine z_iconst (v := 1) S dX2_isCutOff_26 (by decide) ?_
      refine z_goto (tgt := 31) S dX2_isCutOff_27 (by decide) ?_
      exact z_zretP (v := true) S M rfl dX2_isCutOff_31 hf
  · refine z_iconst (v := 0) S dX2_isCutOff_30 (by decide) ?_
    exact z_zretP (v := false) S M rfl dX2_isCutOff_31 hf
theorem m_X2_isCutOff (l : Launch) (E : Ev) (P : PH) (x0 : Nat) (x1 : Int32) (x2 : Int32) (x3 : Int32) (x4 : Int32) (h_x0 : ok x0 1 0) (r : Bool) (hf : f_X2_isCutOff P x0 x1 x2 x3 x4 = some r) : CtI l E yX2_isCutOff cX2_isCutOff 5 (some .boolean) r_X2_isCutOff [.ref (ad E x0), .int x1, .int x2, .int x3, .int x4] P (b2i r) P :=
  z_body (own := RX2) (by decide +kernel) rfl (Nat.le_of_ble_eq_true rfl) rfl (fun x _ S M => w_X2_isCutOff S M P x0 x1 x2 x3 x4 h_x0 r hf)
-- yX2_empty
theorem dX2_empty_0 : decode cX2_empty 0 = .ok (.aload_n 0, 1) := by decide +kernel
theorem dX2_empty_1 : decode cX2_empty 1 = .ok (.iconst 0, 1) := by decide +kernel
theorem dX2_empty_2 : decode cX2_empty 2 = .ok (.putfield 28, 3) := by decide +kernel
theorem dX2_empty_5 : decode cX2_empty 5 = .ok (.aload_n 0, 1) := by decide +kernel
theorem dX2_empty_6 : decode cX2_empty 6 = .ok (.iconst 0, 1) := by decide +kernel
theorem dX2_empty_7 : decode cX2_empty 7 = .ok (.putfield 32, 3) := by decide +kernel
theorem dX2_empty_10 : decode cX2_empty 10 = .ok (.aload_n 0, 1) := by decide +kernel
theorem dX2_empty_11 : decode cX2_empty 11 = .ok (.getfield 24, 3) := by decide +kernel
theorem dX2_empty_14 : decode cX2_empty 14 = .ok (.iconst 0, 1) := by decide +kernel
theorem dX2_empty_15 : decode cX2_empty 15 = .ok (.putfield 35, 3) := by decide +kernel
theorem dX2_empty_18 : decode cX2_empty 18 = .ok (.aload_n 0, 1) := by decide +kernel
theorem dX2_empty_19 : decode cX2_empty 19 = .ok (.getfield 24, 3) := by decide +kernel
theorem dX2_empty_22 : decode cX2_empty 22 = .ok (.iconst 0, 1) := by decide +kernel
theorem dX2_empty_23 : decode cX2_empty 23 = .ok (.putfield 38, 3) := by decide +kernel
theorem dX2_empty_26 : decode cX2_empty 26 = .ok (.aload_n 0, 1) := by decide +kernel
theorem dX2_empty_27 : decode cX2_empty 27 = .ok (.getfield 24, 3) := by decide +kernel
theorem dX2_empty_30 : decode cX2_empty 30 = .ok (.iconst 0, 1) := by decide +kernel
theorem dX2_empty_31 : decode cX2_empty 31 = .ok (.putfield 41, 3) := by decide +kernel
theorem dX2_empty_34 : decode cX2_empty 34 = .ok (.return_, 1) := by decide +kernel
def r_X2_empty : Room := { frames := 0, cells := 0, slots := 0, locals := 0 }
def f_X2_empty (P : PH) (x0 : Nat) : Option PH :=
  ((some (sI (sI P x0 0 (0 : Int32)) x0 1 (0 : Int32))).bind fun P1 => ((some (sI (sI P1 (P1.2.2 x0 5) 0 (0 : Int32)) ((sI P1 (P1.2.2 x0 5) 0 (0 : Int32)).2.2 x0 5) 1 (0 : Int32))).bind fun P4 => some (sI P4 (P4.2.2 x0 5) 2 (0 : Int32))))
theorem w_X2_empty {x : Fx} {E : Ev} (S : ZS x E r_X2_empty cX2_empty 1 RX2 none) (M : ZM x E) (P : PH) (x0 : Nat) (h_x0 : ok x0 1 0) (r : PH) (hf : f_X2_empty P x0 = some r) : Wz x E 1 (QV E x r) P 0 [(0, .ref (ad E x0))] [] := by
  unfold f_X2_empty at hf
  refine z_aload_n S 0 dX2_empty_0 rfl rfl ?_
  refine z_iconst (v := 0) S dX2_empty_1 (by decide) ?_
  refine z_putI S cf_1 h_x0 0 (by decide) rfl rfl rfl rfl wd213 dX2_empty_2 ?_
  refine z_aload_n S 0 dX2_empty_5 rfl rfl ?_
  refine z_iconst (v := 0) S dX2_empty_6 (by decide) ?_
  refine z_putI S cf_1 h_x0 1 (by decide) rfl rfl rfl rfl wd217 dX2_empty_7 ?_
  refine z_nmP hf (fun P1 hf => ?_)
  refine z_aload_n S 0 dX2_empty_10 rfl rfl ?_
  refine z_getR (K' := 2) (n' := 0) S cf_1 h_x0 5 (by decide) rfl rfl rfl wd230 dX2_empty_11 (fun h2 => ?_)
  refine z_iconst (v := 0) S dX2_empty_14 (by decide) ?_
  refine z_putI S cf_2 h2 0 (by decide) rfl rfl rfl rfl wd166 dX2_empty_15 ?_
  refine z_aload_n S 0 dX2_empty_18 rfl rfl ?_
  refine z_getR (K' := 2) (n' := 0) S cf_1 h_x0 5 (by decide) rfl rfl rfl wd230 dX2_empty_19 (fun h3 => ?_)
  refine z_iconst (v := 0) S dX2_empty_22 (by decide) ?_
  refine z_putI S cf_2 h3 1 (by decide) rfl rfl rfl rfl wd173 dX2_empty_23 ?_
  refine z_nmP hf (fun P4 hf => ?_)
  refine z_aload_n S 0 dX2_empty_26 rfl rfl ?_
  refine z_getR (K' := 2) (n' := 0) S cf_1 h_x0 5 (by decide) rfl rfl rfl wd230 dX2_empty_27 (fun h5 => ?_)
  refine z_iconst (v := 0) S dX2_empty_30 (by decide) ?_
  refine z_putI S cf_2 h5 2 (by decide) rfl rfl rfl rfl wd178 dX2_empty_31 ?_
  exact z_vretI S M rfl dX2_empty_34 hf
theorem m_X2_empty (l : Launch) (E : Ev) (P : PH) (x0 : Nat) (h_x0 : ok x0 1 0) (r : PH) (hf : f_X2_empty P x0 = some r) : CtV l E yX2_empty cX2_empty 1 none r_X2_empty [.ref (ad E x0)] P r :=
  z_body (own := RX2) (by decide +kernel) rfl (Nat.le_of_ble_eq_true rfl) rfl (fun x _ S M => w_X2_empty S M P x0 h_x0 r hf)
-- yX2_addPerson
theorem dX2_addPerson_0 : decode cX2_addPerson 0 = .ok (.aload_n 0, 1) := by decide +kernel
theorem dX2_addPerson_1 : decode cX2_addPerson 1 = .ok (.getfield 28, 3) := by decide +kernel
theorem dX2_addPerson_4 : decode cX2_addPerson 4 = .ok (.bipush 6, 2) := by decide +kernel
theorem dX2_addPerson_6 : decode cX2_addPerson 6 = .ok (.if_icmp .ge 69, 3) := by decide +kernel
theorem dX2_addPerson_9 : decode cX2_addPerson 9 = .ok (.aload_n 0, 1) := by decide +kernel
theorem dX2_addPerson_10 : decode cX2_addPerson 10 = .ok (.getfield 15, 3) := by decide +kernel
theorem dX2_addPerson_13 : decode cX2_addPerson 13 = .ok (.aload_n 0, 1) := by decide +kernel
theorem dX2_addPerson_14 : decode cX2_addPerson 14 = .ok (.getfield 28, 3) := by decide +kernel
theorem dX2_addPerson_17 : decode cX2_addPerson 17 = .ok (.bipush (-9), 2) := by decide +kernel
theorem dX2_addPerson_19 : decode cX2_addPerson 19 = .ok (.iastore, 1) := by decide +kernel
theorem dX2_addPerson_20 : decode cX2_addPerson 20 = .ok (.aload_n 0, 1) := by decide +kernel
theorem dX2_addPerson_21 : decode cX2_addPerson 21 = .ok (.getfield 18, 3) := by decide +kernel
theorem dX2_addPerson_24 : decode cX2_addPerson 24 = .ok (.aload_n 0, 1) := by decide +kernel
theorem dX2_addPerson_25 : decode cX2_addPerson 25 = .ok (.getfield 28, 3) := by decide +kernel
theorem dX2_addPerson_28 : decode cX2_addPerson 28 = .ok (.iconst 0, 1) := by decide +kernel
theorem dX2_addPerson_29 : decode cX2_addPerson 29 = .ok (.iastore, 1) := by decide +kernel
theorem dX2_addPerson_30 : decode cX2_addPerson 30 = .ok (.aload_n 0, 1) := by decide +kernel
theorem dX2_addPerson_31 : decode cX2_addPerson 31 = .ok (.getfield 24, 3) := by decide +kernel
theorem dX2_addPerson_34 : decode cX2_addPerson 34 = .ok (.getfield 44, 3) := by decide +kernel
theorem dX2_addPerson_37 : decode cX2_addPerson 37 = .ok (.aload_n 0, 1) := by decide +kernel
theorem dX2_addPerson_38 : decode cX2_addPerson 38 = .ok (.getfield 28, 3) := by decide +kernel
theorem dX2_addPerson_41 : decode cX2_addPerson 41 = .ok (.iload_n 2, 1) := by decide +kernel
theorem dX2_addPerson_42 : decode cX2_addPerson 42 = .ok (.iastore, 1) := by decide +kernel
theorem dX2_addPerson_43 : decode cX2_addPerson 43 = .ok (.iload_n 1, 1) := by decide +kernel
theorem dX2_addPerson_44 : decode cX2_addPerson 44 = .ok (.ifCond .eq 21, 3) := by decide +kernel
theorem dX2_addPerson_47 : decode cX2_addPerson 47 = .ok (.aload_n 0, 1) := by decide +kernel
theorem dX2_addPerson_48 : decode cX2_addPerson 48 = .ok (.getfield 24, 3) := by decide +kernel
theorem dX2_addPerson_51 : decode cX2_addPerson 51 = .ok (.dup, 1) := by decide +kernel
theorem dX2_addPerson_52 : decode cX2_addPerson 52 = .ok (.getfield 38, 3) := by decide +kernel
theorem dX2_addPerson_55 : decode cX2_addPerson 55 = .ok (.iconst 1, 1) := by decide +kernel
theorem dX2_addPerson_56 : decode cX2_addPerson 56 = .ok (.aload_n 0, 1) := by decide +kernel
theorem dX2_addPerson_57 : decode cX2_addPerson 57 = .ok (.getfield 28, 3) := by decide +kernel
theorem dX2_addPerson_60 : decode cX2_addPerson 60 = .ok (.ishl, 1) := by decide +kernel
theorem dX2_addPerson_61 : decode cX2_addPerson 61 = .ok (.ior, 1) := by decide +kernel
theorem dX2_addPerson_62 : decode cX2_addPerson 62 = .ok (.putfield 38, 3) := by decide +kernel
theorem dX2_addPerson_65 : decode cX2_addPerson 65 = .ok (.aload_n 0, 1) := by decide +kernel
theorem dX2_addPerson_66 : decode cX2_addPerson 66 = .ok (.dup, 1) := by decide +kernel
theorem dX2_addPerson_67 : decode cX2_addPerson 67 = .ok (.getfield 28, 3) := by decide +kernel
theorem dX2_addPerson_70 : decode cX2_addPerson 70 = .ok (.iconst 1, 1) := by decide +kernel
theorem dX2_addPerson_71 : decode cX2_addPerson 71 = .ok (.iadd, 1) := by decide +kernel
theorem dX2_addPerson_72 : decode cX2_addPerson 72 = .ok (.putfield 28, 3) := by decide +kernel
theorem dX2_addPerson_75 : decode cX2_addPerson 75 = .ok (.return_, 1) := by decide +kernel
def r_X2_addPerson : Room := { frames := 0, cells := 0, slots := 0, locals := 0 }
def f_X2_addPerson (P : PH) (x0 : Nat) (x1 : Int32) (x2 : Int32) : Option PH :=
  (if (6 : Int32) ≤ (P.1 x0 0) then some P else (if ((P.1 x0 0) < 0 ∨ 6 ≤ (P.1 x0 0).toNatClampNeg) then none else ((some (sI P (P.2.2 x0 3) (P.1 x0 0).toNatClampNeg (-9 : Int32))).bind fun P2 => (if ((P2.1 x0 0) < 0 ∨ 6 ≤ (P2.1 x0 0).toNatClampNeg) then none else ((some (sI P2 (P2.2.2 x0 4) (P2.1 x0 0).toNatClampNeg (0 : Int32))).bind fun P4 => (if ((P4.1 x0 0) < 0 ∨ 6 ≤ (P4.1 x0 0).toNatClampNeg) then none else ((some (sI P4 (P4.2.2 (P4.2.2 x0 5) 3) (P4.1 x0 0).toNatClampNeg x2)).bind fun P7 => (if x1 = 0 then some (sI P7 x0 0 ((P7.1 x0 0) + (1 : Int32))) else ((some (sI P7 (P7.2.2 x0 5) 1 ((P7.1 (P7.2.2 x0 5) 1) ||| ((1 : Int32) <<< ((P7.1 x0 0) &&& 31))))).bind fun P9 => some (sI P9 x0 0 ((P9.1 x0 0) + (1 : Int32))))))))))))
theorem w_X2_addPerson {x : Fx} {E : Ev} (S : ZS x E r_X2_addPerson cX2_addPerson 3 RX2 none) (M : ZM x E) (P : PH) (x0 : Nat) (x1 : Int32) (x2 : Int32) (h_x0 : ok x0 1 0) (r : PH) (hf : f_X2_addPerson P x0 x1 x2 = some r) : Wz x E 3 (QV E x r) P 0 [(0, .ref (ad E x0)), (1, .int x1), (2, .int x2)] [] := by
  unfold f_X2_addPerson at hf
  refine z_aload_n S 0 dX2_addPerson_0 rfl rfl ?_
  refine z_getI S cf_1 h_x0 0 (by decide) rfl wd213 dX2_addPerson_1 ?_
  refine z_bipush (v := 6) S dX2_addPerson_4 (by decide) ?_
  refine z_icmp_ge (tgt := 75) S dX2_addPerson_6 (by decide) hf (fun hf => ?_) (fun hf => ?_)
  · exact z_vretI S M rfl dX2_addPerson_75 hf
  · refine z_aload_n S 0 dX2_addPerson_9 rfl rfl ?_
    refine z_getR (K' := 9) (n' := 6) S cf_1 h_x0 3 (by decide) rfl rfl rfl wd224 dX2_addPerson_10 (fun h1 => ?_)
    refine z_aload_n S 0 dX2_addPerson_13 rfl rfl ?_
    refine z_getI S cf_1 h_x0 0 (by decide) rfl wd213 dX2_addPerson_14 ?_
    refine z_bipush (v := (-9 : Int32)) S dX2_addPerson_17 (by decide) ?_
    refine z_iast S h1 dX2_addPerson_19 hf (fun hf => ?_)
    refine z_nmP hf (fun P2 hf => ?_)
    refine z_aload_n S 0 dX2_addPerson_20 rfl rfl ?_
    refine z_getR (K' := 9) (n' := 6) S cf_1 h_x0 4 (by decide) rfl rfl rfl wd227 dX2_addPerson_21 (fun h3 => ?_)
    refine z_aload_n S 0 dX2_addPerson_24 rfl rfl ?_
    refine z_getI S cf_1 h_x0 0 (by decide) rfl wd213 dX2_addPerson_25 ?_
    refine z_iconst (v := 0) S dX2_addPerson_28 (by decide) ?_
    refine z_iast S h3 dX2_addPerson_29 hf (fun hf => ?_)
    refine z_nmP hf (fun P4 hf => ?_)
    refine z_aload_n S 0 dX2_addPerson_30 rfl rfl ?_
    refine z_getR (K' := 2) (n' := 0) S cf_1 h_x0 5 (by decide) rfl rfl rfl wd230 dX2_addPerson_31 (fun h5 => ?_)
    refine z_getR (K' := 9) (n' := 6) S cf_2 h5 3 (by decide) rfl rfl rfl wd184 dX2_addPerson_34 (fun h6 => ?_)
    refine z_aload_n S 0 dX2_addPerson_37 rfl rfl ?_
    refine z_getI S cf_1 h_x0 0 (by decide) rfl wd213 dX2_addPerson_38 ?_
    refine z_iload_n S 2 dX2_addPerson_41 rfl rfl ?_
    refine z_iast S h6 dX2_addPerson_42 hf (fun hf => ?_)
    refine z_nmP hf (fun P7 hf => ?_)
    refine z_iload_n S 1 dX2_addPerson_43 rfl rfl ?_
    refine z_if_eq (tgt := 65) S dX2_addPerson_44 (by decide) hf (fun hf => ?_) (fun hf => ?_)
    · refine z_aload_n S 0 dX2_addPerson_65 rfl rfl ?_
      refine z_dup S dX2_addPerson_66 rfl ?_
      refine z_getI S cf_1 h_x0 0 (by decide) rfl wd213 dX2_addPerson_67 ?_
      refine z_iconst (v := 1) S dX2_addPerson_70 (by decide) ?_
      refine z_iadd S dX2_addPerson_71 ?_
      refine z_putI S cf_1 h_x0 0 (by decide) rfl rfl rfl rfl wd213 dX2_addPerson_72 ?_
      exact z_vretI S M rfl dX2_addPerson_75 hf
    · refine z_aload_n S 0 dX2_addPerson_47 rfl rfl ?_
      refine z_getR (K' := 2) (n' := 0) S cf_1 h_x0 5 (by decide) rfl rfl rfl wd230 dX2_addPerson_48 (fun h8 => ?_)
      refine z_dup S dX2_addPerson_51 rfl ?_
      refine z_getI S cf_2 h8 1 (by decide) rfl wd173 dX2_addPerson_52 ?_
      refine z_iconst (v := 1) S dX2_addPerson_55 (by decide) ?_
      refine z_aload_n S 0 dX2_addPerson_56 rfl rfl ?_
      refine z_getI S cf_1 h_x0 0 (by decide) rfl wd213 dX2_addPerson_57 ?_
      refine z_ishl S dX2_addPerson_60 ?_
      refine z_ior S dX2_addPerson_61 ?_
      refine z_putI S cf_2 h8 1 (by decide) rfl rfl rfl rfl wd173 dX2_addPerson_62 ?_
      refine z_nmP hf (fun P9 hf => ?_)
      refine z_aload_n S 0 dX2_addPerson_65 rfl rfl ?_
      refine z_dup S dX2_addPerson_66 rfl ?_
      refine z_getI S cf_1 h_x0 0 (by decide) rfl wd213 dX2_addPerson_67 ?_
      refine z_iconst (v := 1) S dX2_addPerson_70 (by decide) ?_
      refine z_iadd S dX2_addPerson_71 ?_
      refine z_putI S cf_1 h_x0 0 (by decide) rfl rfl rfl rfl wd213 dX2_addPerson_72 ?_
      exact z_vretI S M rfl dX2_addPerson_75 hf
theorem m_X2_addPerson (l : Launch) (E : Ev) (P : PH) (x0 : Nat) (x1 : Int32) (x2 : Int32) (h_x0 : ok x0 1 0) (r : PH) (hf : f_X2_addPerson P x0 x1 x2 = some r) : CtV l E yX2_addPerson cX2_addPerson 3 none r_X2_addPerson [.ref (ad E x0), .int x1, .int x2] P r :=
  z_body (own := RX2) (by decide +kernel) rfl (Nat.le_of_ble_eq_true rfl) rfl (fun x _ S M => w_X2_addPerson S M P x0 x1 x2 h_x0 r hf)
-- yX2_addRoom
theorem dX2_addRoom_0 : decode cX2_addRoom 0 = .ok (.aload_n 0, 1) := by decide +kernel
theorem dX2_addRoom_1 : decode cX2_addRoom 1 = .ok (.getfield 32, 3) := by decide +kernel
theorem dX2_addRoom_4 : decode cX2_addRoom 4 = .ok (.bipush 7, 2) := by decide +kernel
theorem dX2_addRoom_6 : decode cX2_addRoom 6 = .ok (.if_icmp .ge 36, 3) := by decide +kernel
theorem dX2_addRoom_9 : decode cX2_addRoom 9 = .ok (.aload_n 0, 1) := by decide +kernel
theorem dX2_addRoom_10 : decode cX2_addRoom 10 = .ok (.getfield 9, 3) := by decide +kernel
theorem dX2_addRoom_13 : decode cX2_addRoom 13 = .ok (.aload_n 0, 1) := by decide +kernel
theorem dX2_addRoom_14 : decode cX2_addRoom 14 = .ok (.getfield 32, 3) := by decide +kernel
theorem dX2_addRoom_17 : decode cX2_addRoom 17 = .ok (.iconst 0, 1) := by decide +kernel
theorem dX2_addRoom_18 : decode cX2_addRoom 18 = .ok (.iastore, 1) := by decide +kernel
theorem dX2_addRoom_19 : decode cX2_addRoom 19 = .ok (.aload_n 0, 1) := by decide +kernel
theorem dX2_addRoom_20 : decode cX2_addRoom 20 = .ok (.getfield 24, 3) := by decide +kernel
theorem dX2_addRoom_23 : decode cX2_addRoom 23 = .ok (.getfield 47, 3) := by decide +kernel
theorem dX2_addRoom_26 : decode cX2_addRoom 26 = .ok (.aload_n 0, 1) := by decide +kernel
theorem dX2_addRoom_27 : decode cX2_addRoom 27 = .ok (.getfield 32, 3) := by decide +kernel
theorem dX2_addRoom_30 : decode cX2_addRoom 30 = .ok (.iload_n 1, 1) := by decide +kernel
theorem dX2_addRoom_31 : decode cX2_addRoom 31 = .ok (.iastore, 1) := by decide +kernel
theorem dX2_addRoom_32 : decode cX2_addRoom 32 = .ok (.aload_n 0, 1) := by decide +kernel
theorem dX2_addRoom_33 : decode cX2_addRoom 33 = .ok (.dup, 1) := by decide +kernel
theorem dX2_addRoom_34 : decode cX2_addRoom 34 = .ok (.getfield 32, 3) := by decide +kernel
theorem dX2_addRoom_37 : decode cX2_addRoom 37 = .ok (.iconst 1, 1) := by decide +kernel
theorem dX2_addRoom_38 : decode cX2_addRoom 38 = .ok (.iadd, 1) := by decide +kernel
theorem dX2_addRoom_39 : decode cX2_addRoom 39 = .ok (.putfield 32, 3) := by decide +kernel
theorem dX2_addRoom_42 : decode cX2_addRoom 42 = .ok (.return_, 1) := by decide +kernel
def r_X2_addRoom : Room := { frames := 0, cells := 0, slots := 0, locals := 0 }
def f_X2_addRoom (P : PH) (x0 : Nat) (x1 : Int32) : Option PH :=
  (if (7 : Int32) ≤ (P.1 x0 1) then some P else (if ((P.1 x0 1) < 0 ∨ 7 ≤ (P.1 x0 1).toNatClampNeg) then none else ((some (sI P (P.2.2 x0 2) (P.1 x0 1).toNatClampNeg (0 : Int32))).bind fun P2 => (if ((P2.1 x0 1) < 0 ∨ 7 ≤ (P2.1 x0 1).toNatClampNeg) then none else ((some (sI P2 (P2.2.2 (P2.2.2 x0 5) 4) (P2.1 x0 1).toNatClampNeg x1)).bind fun P5 => some (sI P5 x0 1 ((P5.1 x0 1) + (1 : Int32))))))))
theorem w_X2_addRoom {x : Fx} {E : Ev} (S : ZS x E r_X2_addRoom cX2_addRoom 2 RX2 none) (M : ZM x E) (P : PH) (x0 : Nat) (x1 : Int32) (h_x0 : ok x0 1 0) (r : PH) (hf : f_X2_addRoom P x0 x1 = some r) : Wz x E 2 (QV E x r) P 0 [(0, .ref (ad E x0)), (1, .int x1)] [] := by
  unfold f_X2_addRoom at hf
  refine z_aload_n S 0 dX2_addRoom_0 rfl rfl ?_
  refine z_getI S cf_1 h_x0 1 (by decide) rfl wd217 dX2_addRoom_1 ?_
  refine z_bipush (v := 7) S dX2_addRoom_4 (by decide) ?_
  refine z_icmp_ge (tgt := 42) S dX2_addRoom_6 (by decide) hf (fun hf => ?_) (fun hf => ?_)
  · exact z_vretI S M rfl dX2_addRoom_42 hf
  · refine z_aload_n S 0 dX2_addRoom_9 rfl rfl ?_
    refine z_getR (K' := 9) (n' := 7) S cf_1 h_x0 2 (by decide) rfl rfl rfl wd221 dX2_addRoom_10 (fun h1 => ?_)
    refine z_aload_n S 0 dX2_addRoom_13 rfl rfl ?_
    refine z_getI S cf_1 h_x0 1 (by decide) rfl wd217 dX2_addRoom_14 ?_
    refine z_iconst (v := 0) S dX2_addRoom_17 (by decide) ?_
    refine z_iast S h1 dX2_addRoom_18 hf (fun hf => ?_)
    refine z_nmP hf (fun P2 hf => ?_)
    refine z_aload_n S 0 dX2_addRoom_19 rfl rfl ?_
    refine z_getR (K' := 2) (n' := 0) S cf_1 h_x0 5 (by decide) rfl rfl rfl wd230 dX2_addRoom_20 (fun h3 => ?_)
    refine z_getR (K' := 9) (n' := 7) S cf_2 h3 4 (by decide) rfl rfl rfl wd188 dX2_addRoom_23 (fun h4 => ?_)
    refine z_aload_n S 0 dX2_addRoom_26 rfl rfl ?_
    refine z_getI S cf_1 h_x0 1 (by decide) rfl wd217 dX2_addRoom_27 ?_
    refine z_iload_n S 1 dX2_addRoom_30 rfl rfl ?_
    refine z_iast S h4 dX2_addRoom_31 hf (fun hf => ?_)
    refine z_nmP hf (fun P5 hf => ?_)
    refine z_aload_n S 0 dX2_addRoom_32 rfl rfl ?_
    refine z_dup S dX2_addRoom_33 rfl ?_
    refine z_getI S cf_1 h_x0 1 (by decide) rfl wd217 dX2_addRoom_34 ?_
    refine z_iconst (v := 1) S dX2_addRoom_37 (by decide) ?_
    refine z_iadd S dX2_addRoom_38 ?_
    refine z_putI S cf_1 h_x0 1 (by decide) rfl rfl rfl rfl wd217 dX2_addRoom_39 ?_
    exact z_vretI S M rfl dX2_addRoom_42 hf
theorem m_X2_addRoom (l : Launch) (E : Ev) (P : PH) (x0 : Nat) (x1 : Int32) (h_x0 : ok x0 1 0) (r : PH) (hf : f_X2_addRoom P x0 x1 = some r) : CtV l E yX2_addRoom cX2_addRoom 2 none r_X2_addRoom [.ref (ad E x0), .int x1] P r :=
  z_body (own := RX2) (by decide +kernel) rfl (Nat.le_of_ble_eq_true rfl) rfl (fun x _ S M => w_X2_addRoom S M P x0 x1 h_x0 r hf)
-- yX2_addDoor
theorem dX2_addDoor_0 : decode cX2_addDoor 0 = .ok (.aload_n 0, 1) := by decide +kernel
theorem dX2_addDoor_1 : decode cX2_addDoor 1 = .ok (.getfield 9, 3) := by decide +kernel
theorem dX2_addDoor_4 : decode cX2_addDoor 4 = .ok (.iload_n 1, 1) := by decide +kernel
theorem dX2_addDoor_5 : decode cX2_addDoor 5 = .ok (.dup2, 1) := by decide +kernel
theorem dX2_addDoor_6 : decode cX2_addDoor 6 = .ok (.iaload, 1) := by decide +kernel
theorem dX2_addDoor_7 : decode cX2_addDoor 7 = .ok (.iconst 1, 1) := by decide +kernel
theorem dX2_addDoor_8 : decode cX2_addDoor 8 = .ok (.iload_n 2, 1) := by decide +kernel
theorem dX2_addDoor_9 : decode cX2_addDoor 9 = .ok (.ishl, 1) := by decide +kernel
theorem dX2_addDoor_10 : decode cX2_addDoor 10 = .ok (.ior, 1) := by decide +kernel
theorem dX2_addDoor_11 : decode cX2_addDoor 11 = .ok (.iastore, 1) := by decide +kernel
theorem dX2_addDoor_12 : decode cX2_addDoor 12 = .ok (.aload_n 0, 1) := by decide +kernel
theorem dX2_addDoor_13 : decode cX2_addDoor 13 = .ok (.getfield 9, 3) := by decide +kernel
theorem dX2_addDoor_16 : decode cX2_addDoor 16 = .ok (.iload_n 2, 1) := by decide +kernel
theorem dX2_addDoor_17 : decode cX2_addDoor 17 = .ok (.dup2, 1) := by decide +kernel
theorem dX2_addDoor_18 : decode cX2_addDoor 18 = .ok (.iaload, 1) := by decide +kernel
theorem dX2_addDoor_19 : decode cX2_addDoor 19 = .ok (.iconst 1, 1) := by decide +kernel
theorem dX2_addDoor_20 : decode cX2_addDoor 20 = .ok (.iload_n 1, 1) := by decide +kernel
theorem dX2_addDoor_21 : decode cX2_addDoor 21 = .ok (.ishl, 1) := by decide +kernel
theorem dX2_addDoor_22 : decode cX2_addDoor 22 = .ok (.ior, 1) := by decide +kernel
theorem dX2_addDoor_23 : decode cX2_addDoor 23 = .ok (.iastore, 1) := by decide +kernel
theorem dX2_addDoor_24 : decode cX2_addDoor 24 = .ok (.return_, 1) := by decide +kernel
def r_X2_addDoor : Room := { frames := 0, cells := 0, slots := 0, locals := 0 }
def f_X2_addDoor (P : PH) (x0 : Nat) (x1 : Int32) (x2 : Int32) : Option PH :=
  (if (x1 < 0 ∨ 7 ≤ x1.toNatClampNeg) then none else (if (x1 < 0 ∨ 7 ≤ x1.toNatClampNeg) then none else ((some (sI P (P.2.2 x0 2) x1.toNatClampNeg ((P.1 (P.2.2 x0 2) x1.toNatClampNeg) ||| ((1 : Int32) <<< (x2 &&& 31))))).bind fun P2 => (if (x2 < 0 ∨ 7 ≤ x2.toNatClampNeg) then none else (if (x2 < 0 ∨ 7 ≤ x2.toNatClampNeg) then none else ((some (sI P2 (P2.2.2 x0 2) x2.toNatClampNeg ((P2.1 (P2.2.2 x0 2) x2.toNatClampNeg) ||| ((1 : Int32) <<< (x1 &&& 31))))).bind fun P4 => some P4))))))
theorem w_X2_addDoor {x : Fx} {E : Ev} (S : ZS x E r_X2_addDoor cX2_addDoor 3 RX2 none) (M : ZM x E) (P : PH) (x0 : Nat) (x1 : Int32) (x2 : Int32) (h_x0 : ok x0 1 0) (r : PH) (hf : f_X2_addDoor P x0 x1 x2 = some r) : Wz x E 3 (QV E x r) P 0 [(0, .ref (ad E x0)), (1, .int x1), (2, .int x2)] [] := by
  unfold f_X2_addDoor at hf
  refine z_aload_n S 0 dX2_addDoor_0 rfl rfl ?_
  refine z_getR (K' := 9) (n' := 7) S cf_1 h_x0 2 (by decide) rfl rfl rfl wd221 dX2_addDoor_1 (fun h1 => ?_)
  refine z_iload_n S 1 dX2_addDoor_4 rfl rfl ?_
  refine z_dup2 S dX2_addDoor_5 rfl rfl ?_
  refine z_iald S h1 dX2_addDoor_6 hf (fun hf => ?_)
  refine z_iconst (v := 1) S dX2_addDoor_7 (by decide) ?_
  refine z_iload_n S 2 dX2_addDoor_8 rfl rfl ?_
  refine z_ishl S dX2_addDoor_9 ?_
  refine z_ior S dX2_addDoor_10 ?_
  refine z_iast S h1 dX2_addDoor_11 hf (fun hf => ?_)
  refine z_nmP hf (fun P2 hf => ?_)
  refine z_aload_n S 0 dX2_addDoor_12 rfl rfl ?_
  refine z_getR (K' := 9) (n' := 7) S cf_1 h_x0 2 (by decide) rfl rfl rfl wd221 dX2_addDoor_13 (fun h3 => ?_)
  refine z_iload_n S 2 dX2_addDoor_16 rfl rfl ?_
  refine z_dup2 S dX2_addDoor_17 rfl rfl ?_
  refine z_iald S h3 dX2_addDoor_18 hf (fun hf => ?_)
  refine z_iconst (v := 1) S dX2_addDoor_19 (by decide) ?_
  refine z_iload_n S 1 dX2_addDoor_20 rfl rfl ?_
  refine z_ishl S dX2_addDoor_21 ?_
  refine z_ior S dX2_addDoor_22 ?_
  refine z_iast S h3 dX2_addDoor_23 hf (fun hf => ?_)
  refine z_nmP hf (fun P4 hf => ?_)
  exact z_vretI S M rfl dX2_addDoor_24 hf
theorem m_X2_addDoor (l : Launch) (E : Ev) (P : PH) (x0 : Nat) (x1 : Int32) (x2 : Int32) (h_x0 : ok x0 1 0) (r : PH) (hf : f_X2_addDoor P x0 x1 x2 = some r) : CtV l E yX2_addDoor cX2_addDoor 3 none r_X2_addDoor [.ref (ad E x0), .int x1, .int x2] P r :=
  z_body (own := RX2) (by decide +kernel) rfl (Nat.le_of_ble_eq_true rfl) rfl (fun x _ S M => w_X2_addDoor S M P x0 x1 x2 h_x0 r hf)
-- yX2_isPerson
theorem dX2_isPerson_0 : decode cX2_isPerson 0 = .ok (.iload_n 1, 1) := by decide +kernel
theorem dX2_isPerson_1 : decode cX2_isPerson 1 = .ok (.ifCond .lt 15, 3) := by decide +kernel
theorem dX2_isPerson_4 : decode cX2_isPerson 4 = .ok (.iload_n 1, 1) := by decide +kernel
theorem dX2_isPerson_5 : decode cX2_isPerson 5 = .ok (.aload_n 0, 1) := by decide +kernel
theorem dX2_isPerson_6 : decode cX2_isPerson 6 = .ok (.getfield 28, 3) := by decide +kernel
theorem dX2_isPerson_9 : decode cX2_isPerson 9 = .ok (.if_icmp .ge 7, 3) := by decide +kernel
theorem dX2_isPerson_12 : decode cX2_isPerson 12 = .ok (.iconst 1, 1) := by decide +kernel
theorem dX2_isPerson_13 : decode cX2_isPerson 13 = .ok (.goto 4, 3) := by decide +kernel
theorem dX2_isPerson_16 : decode cX2_isPerson 16 = .ok (.iconst 0, 1) := by decide +kernel
theorem dX2_isPerson_17 : decode cX2_isPerson 17 = .ok (.ireturn, 1) := by decide +kernel
def r_X2_isPerson : Room := { frames := 0, cells := 0, slots := 0, locals := 0 }
def f_X2_isPerson (P : PH) (x0 : Nat) (x1 : Int32) : Option Bool :=
  (if x1 < 0 then some false else (if (P.1 x0 0) ≤ x1 then some false else some true))
theorem w_X2_isPerson {x : Fx} {E : Ev} (S : ZS x E r_X2_isPerson cX2_isPerson 2 RX2 (some .boolean)) (M : ZM x E) (P : PH) (x0 : Nat) (x1 : Int32) (h_x0 : ok x0 1 0) (r : Bool) (hf : f_X2_isPerson P x0 x1 = some r) : Wz x E 2 (QI E x (b2i r) P) P 0 [(0, .ref (ad E x0)), (1, .int x1)] [] := by
  unfold f_X2_isPerson at hf
  refine z_iload_n S 1 dX2_isPerson_0 rfl rfl ?_
  refine z_if_lt (tgt := 16) S dX2_isPerson_1 (by decide) hf (fun hf => ?_) (fun hf => ?_)
  · refine z_iconst (v := 0) S dX2_isPerson_16 (by decide) ?_
    exact z_zretP (v := false) S M rfl dX2_isPerson_17 hf
  · refine z_iload_n S 1 dX2_isPerson_4 rfl rfl ?_
    refine z_aload_n S 0 dX2_isPerson_5 rfl rfl ?_
    refine z_getI S cf_1 h_x0 0 (by decide) rfl wd213 dX2_isPerson_6 ?_
    refine z_icmp_ge (tgt := 16) S dX2_isPerson_9 (by decide) hf (fun hf => ?_) (fun hf => ?_)
    · refine z_iconst (v := 0) S dX2_isPerson_16 (by decide) ?_
      exact z_zretP (v := false) S M rfl dX2_isPerson_17 hf
    · refine z_iconst (v := 1) S dX2_isPerson_12 (by decide) ?_
      refine z_goto (tgt := 17) S dX2_isPerson_13 (by decide) ?_
      exact z_zretP (v := true) S M rfl dX2_isPerson_17 hf
theorem m_X2_isPerson (l : Launch) (E : Ev) (P : PH) (x0 : Nat) (x1 : Int32) (h_x0 : ok x0 1 0) (r : Bool) (hf : f_X2_isPerson P x0 x1 = some r) : CtI l E yX2_isPerson cX2_isPerson 2 (some .boolean) r_X2_isPerson [.ref (ad E x0), .int x1] P (b2i r) P :=
  z_body (own := RX2) (by decide +kernel) rfl (Nat.le_of_ble_eq_true rfl) rfl (fun x _ S M => w_X2_isPerson S M P x0 x1 h_x0 r hf)
-- yX2_isRoom
theorem dX2_isRoom_0 : decode cX2_isRoom 0 = .ok (.iload_n 1, 1) := by decide +kernel
theorem dX2_isRoom_1 : decode cX2_isRoom 1 = .ok (.ifCond .lt 15, 3) := by decide +kernel
theorem dX2_isRoom_4 : decode cX2_isRoom 4 = .ok (.iload_n 1, 1) := by decide +kernel
theorem dX2_isRoom_5 : decode cX2_isRoom 5 = .ok (.aload_n 0, 1) := by decide +kernel
theorem dX2_isRoom_6 : decode cX2_isRoom 6 = .ok (.getfield 32, 3) := by decide +kernel
theorem dX2_isRoom_9 : decode cX2_isRoom 9 = .ok (.if_icmp .ge 7, 3) := by decide +kernel
theorem dX2_isRoom_12 : decode cX2_isRoom 12 = .ok (.iconst 1, 1) := by decide +kernel
theorem dX2_isRoom_13 : decode cX2_isRoom 13 = .ok (.goto 4, 3) := by decide +kernel
theorem dX2_isRoom_16 : decode cX2_isRoom 16 = .ok (.iconst 0, 1) := by decide +kernel
theorem dX2_isRoom_17 : decode cX2_isRoom 17 = .ok (.ireturn, 1) := by decide +kernel
def r_X2_isRoom : Room := { frames := 0, cells := 0, slots := 0, locals := 0 }
def f_X2_isRoom (P : PH) (x0 : Nat) (x1 : Int32) : Option Bool :=
  (if x1 < 0 then some false else (if (P.1 x0 1) ≤ x1 then some false else some true))
theorem w_X2_isRoom {x : Fx} {E : Ev} (S : ZS x E r_X2_isRoom cX2_isRoom 2 RX2 (some .boolean)) (M : ZM x E) (P : PH) (x0 : Nat) (x1 : Int32) (h_x0 : ok x0 1 0) (r : Bool) (hf : f_X2_isRoom P x0 x1 = some r) : Wz x E 2 (QI E x (b2i r) P) P 0 [(0, .ref (ad E x0)), (1, .int x1)] [] := by
  unfold f_X2_isRoom at hf
  refine z_iload_n S 1 dX2_isRoom_0 rfl rfl ?_
  refine z_if_lt (tgt := 16) S dX2_isRoom_1 (by decide) hf (fun hf => ?_) (fun hf => ?_)
  · refine z_iconst (v := 0) S dX2_isRoom_16 (by decide) ?_
    exact z_zretP (v := false) S M rfl dX2_isRoom_17 hf
  · refine z_iload_n S 1 dX2_isRoom_4 rfl rfl ?_
    refine z_aload_n S 0 dX2_isRoom_5 rfl rfl ?_
    refine z_getI S cf_1 h_x0 1 (by decide) rfl wd217 dX2_isRoom_6 ?_
    refine z_icmp_ge (tgt := 16) S dX2_isRoom_9 (by decide) hf (fun hf => ?_) (fun hf => ?_)
    · refine z_iconst (v := 0) S dX2_isRoom_16 (by decide) ?_
      exact z_zretP (v := false) S M rfl dX2_isRoom_17 hf
    · refine z_iconst (v := 1) S dX2_isRoom_12 (by decide) ?_
      refine z_goto (tgt := 17) S dX2_isRoom_13 (by decide) ?_
      exact z_zretP (v := true) S M rfl dX2_isRoom_17 hf
theorem m_X2_isRoom (l : Launch) (E : Ev) (P : PH) (x0 : Nat) (x1 : Int32) (h_x0 : ok x0 1 0) (r : Bool) (hf : f_X2_isRoom P x0 x1 = some r) : CtI l E yX2_isRoom cX2_isRoom 2 (some .boolean) r_X2_isRoom [.ref (ad E x0), .int x1] P (b2i r) P :=
  z_body (own := RX2) (by decide +kernel) rfl (Nat.le_of_ble_eq_true rfl) rfl (fun x _ S M => w_X2_isRoom S M P x0 x1 h_x0 r hf)
-- yX2_lives
theorem dX2_lives_0 : decode cX2_lives 0 = .ok (.aload_n 0, 1) := by decide +kernel
theorem dX2_lives_1 : decode cX2_lives 1 = .ok (.iload_n 1, 1) := by decide +kernel
theorem dX2_lives_2 : decode cX2_lives 2 = .ok (.invokevirtual 50, 3) := by decide +kernel
theorem dX2_lives_5 : decode cX2_lives 5 = .ok (.ifCond .eq 22, 3) := by decide +kernel
theorem dX2_lives_8 : decode cX2_lives 8 = .ok (.aload_n 0, 1) := by decide +kernel
theorem dX2_lives_9 : decode cX2_lives 9 = .ok (.getfield 24, 3) := by decide +kernel
theorem dX2_lives_12 : decode cX2_lives 12 = .ok (.getfield 38, 3) := by decide +kernel
theorem dX2_lives_15 : decode cX2_lives 15 = .ok (.iload_n 1, 1) := by decide +kernel
theorem dX2_lives_16 : decode cX2_lives 16 = .ok (.ishr, 1) := by decide +kernel
theorem dX2_lives_17 : decode cX2_lives 17 = .ok (.iconst 1, 1) := by decide +kernel
theorem dX2_lives_18 : decode cX2_lives 18 = .ok (.iand, 1) := by decide +kernel
theorem dX2_lives_19 : decode cX2_lives 19 = .ok (.iconst 1, 1) := by decide +kernel
theorem dX2_lives_20 : decode cX2_lives 20 = .ok (.if_icmp .ne 7, 3) := by decide +kernel
theorem dX2_lives_23 : decode cX2_lives 23 = .ok (.iconst 1, 1) := by decide +kernel
theorem dX2_lives_24 : decode cX2_lives 24 = .ok (.goto 4, 3) := by decide +kernel
theorem dX2_lives_27 : decode cX2_lives 27 = .ok (.iconst 0, 1) := by decide +kernel
theorem dX2_lives_28 : decode cX2_lives 28 = .ok (.ireturn, 1) := by decide +kernel
def r_X2_lives : Room := { frames := 1, cells := 0, slots := 0, locals := 21 }
def f_X2_lives (P : PH) (x0 : Nat) (x1 : Int32) : Option Bool :=
  ((f_X2_isPerson P x0 x1).bind fun q1 => (if (b2i q1) = 0 then some false else (if (((P.1 (P.2.2 x0 5) 1) >>> (x1 &&& 31)) &&& (1 : Int32)) = (1 : Int32) then some true else some false)))
theorem w_X2_lives {x : Fx} {E : Ev} (S : ZS x E r_X2_lives cX2_lives 2 RX2 (some .boolean)) (M : ZM x E) (P : PH) (x0 : Nat) (x1 : Int32) (h_x0 : ok x0 1 0) (r : Bool) (hf : f_X2_lives P x0 x1 = some r) : Wz x E 2 (QI E x (b2i r) P) P 0 [(0, .ref (ad E x0)), (1, .int x1)] [] := by
  unfold f_X2_lives at hf
  refine z_aload_n S 0 dX2_lives_0 rfl rfl ?_
  refine z_iload_n S 1 dX2_lives_1 rfl rfl ?_
  refine z_callVI (rc := r_X2_isPerson) [.int x1] S mo_X2_isPerson wd334 wd335 wd370 h_x0 (by decide) cl_1 rfl rfl (by decide) (z_room0 S M (by rfl) (by rfl)) rfl (Nat.le_of_ble_eq_true rfl) rfl dX2_lives_2 (fun q => b2i q) (fun _ => P) (fun q hq => m_X2_isPerson (xl x) E _ _ _ h_x0 q hq) hf (fun q1 hf => ?_)
  refine z_if_eq (tgt := 27) S dX2_lives_5 (by decide) hf (fun hf => ?_) (fun hf => ?_)
  · refine z_iconst (v := 0) S dX2_lives_27 (by decide) ?_
    exact z_zretP (v := false) S M rfl dX2_lives_28 hf
  · refine z_aload_n S 0 dX2_lives_8 rfl rfl ?_
    refine z_getR (K' := 2) (n' := 0) S cf_1 h_x0 5 (by decide) rfl rfl rfl wd230 dX2_lives_9 (fun h2 => ?_)
    refine z_getI S cf_2 h2 1 (by decide) rfl wd173 dX2_lives_12 ?_
    refine z_iload_n S 1 dX2_lives_15 rfl rfl ?_
    refine z_ishr S dX2_lives_16 ?_
    refine z_iconst (v := 1) S dX2_lives_17 (by decide) ?_
    refine z_iand S dX2_lives_18 ?_
    refine z_iconst (v := 1) S dX2_lives_19 (by decide) ?_
    refine z_icmp_ne (tgt := 27) S dX2_lives_20 (by decide) hf (fun hf => ?_) (fun hf => ?_)
    · refine z_iconst (v := 1) S dX2_lives_23 (by decide) ?_
      refine z_goto (tgt := 28) S dX2_lives_24 (by decide) ?_
      exact z_zretP (v := true) S M rfl dX2_lives_28 hf
    · refine z_iconst (v := 0) S dX2_lives_27 (by decide) ?_
      exact z_zretP (v := false) S M rfl dX2_lives_28 hf
theorem m_X2_lives (l : Launch) (E : Ev) (P : PH) (x0 : Nat) (x1 : Int32) (h_x0 : ok x0 1 0) (r : Bool) (hf : f_X2_lives P x0 x1 = some r) : CtI l E yX2_lives cX2_lives 2 (some .boolean) r_X2_lives [.ref (ad E x0), .int x1] P (b2i r) P :=
  z_body (own := RX2) (by decide +kernel) rfl (Nat.le_of_ble_eq_true rfl) rfl (fun x _ S M => w_X2_lives S M P x0 x1 h_x0 r hf)
-- yX2_canBeHeir
theorem dX2_canBeHeir_0 : decode cX2_canBeHeir 0 = .ok (.iload_n 0, 1) := by decide +kernel
theorem dX2_canBeHeir_1 : decode cX2_canBeHeir 1 = .ok (.bipush 9, 2) := by decide +kernel
theorem dX2_canBeHeir_3 : decode cX2_canBeHeir 3 = .ok (.if_icmp .eq 13, 3) := by decide +kernel
theorem dX2_canBeHeir_6 : decode cX2_canBeHeir 6 = .ok (.iload_n 0, 1) := by decide +kernel
theorem dX2_canBeHeir_7 : decode cX2_canBeHeir 7 = .ok (.ifCond .lt 13, 3) := by decide +kernel
theorem dX2_canBeHeir_10 : decode cX2_canBeHeir 10 = .ok (.iload_n 0, 1) := by decide +kernel
theorem dX2_canBeHeir_11 : decode cX2_canBeHeir 11 = .ok (.bipush 6, 2) := by decide +kernel
theorem dX2_canBeHeir_13 : decode cX2_canBeHeir 13 = .ok (.if_icmp .ge 7, 3) := by decide +kernel
theorem dX2_canBeHeir_16 : decode cX2_canBeHeir 16 = .ok (.iconst 1, 1) := by decide +kernel
theorem dX2_canBeHeir_17 : decode cX2_canBeHeir 17 = .ok (.goto 4, 3) := by decide +kernel
theorem dX2_canBeHeir_20 : decode cX2_canBeHeir 20 = .ok (.iconst 0, 1) := by decide +kernel
theorem dX2_canBeHeir_21 : decode cX2_canBeHeir 21 = .ok (.ireturn, 1) := by decide +kernel
def r_X2_canBeHeir : Room := { frames := 0, cells := 0, slots := 0, locals := 0 }
def f_X2_canBeHeir (P : PH) (x0 : Int32) : Option Bool :=
  (if x0 = (9 : Int32) then some true else (if x0 < 0 then some false else (if (6 : Int32) ≤ x0 then some false else some true)))
theorem w_X2_canBeHeir {x : Fx} {E : Ev} (S : ZS x E r_X2_canBeHeir cX2_canBeHeir 1 RX2 (some .boolean)) (M : ZM x E) (P : PH) (x0 : Int32)  (r : Bool) (hf : f_X2_canBeHeir P x0 = some r) : Wz x E 1 (QI E x (b2i r) P) P 0 [(0, .int x0)] [] := by
  unfold f_X2_canBeHeir at hf
  refine z_iload_n S 0 dX2_canBeHeir_0 rfl rfl ?_
  refine z_bipush (v := 9) S dX2_canBeHeir_1 (by decide) ?_
  refine z_icmp_eq (tgt := 16) S dX2_canBeHeir_3 (by decide) hf (fun hf => ?_) (fun hf => ?_)
  · refine z_iconst (v := 1) S dX2_canBeHeir_16 (by decide) ?_
    refine z_goto (tgt := 21) S dX2_canBeHeir_17 (by decide) ?_
    exact z_zretP (v := true) S M rfl dX2_canBeHeir_21 hf
  · refine z_iload_n S 0 dX2_canBeHeir_6 rfl rfl ?_
    refine z_if_lt (tgt := 20) S dX2_canBeHeir_7 (by decide) hf (fun hf => ?_) (fun hf => ?_)
    · refine z_iconst (v := 0) S dX2_canBeHeir_20 (by decide) ?_
      exact z_zretP (v := false) S M rfl dX2_canBeHeir_21 hf
    · refine z_iload_n S 0 dX2_canBeHeir_10 rfl rfl ?_
      refine z_bipush (v := 6) S dX2_canBeHeir_11 (by decide) ?_
      refine z_icmp_ge (tgt := 20) S dX2_canBeHeir_13 (by decide) hf (fun hf => ?_) (fun hf => ?_)
      · refine z_iconst (v := 0) S dX2_canBeHeir_20 (by decide) ?_
        exact z_zretP (v := false) S M rfl dX2_canBeHeir_21 hf
      · refine z_iconst (v := 1) S dX2_canBeHeir_16 (by decide) ?_
        refine z_goto (tgt := 21) S dX2_canBeHeir_17 (by decide) ?_
        exact z_zretP (v := true) S M rfl dX2_canBeHeir_21 hf
theorem m_X2_canBeHeir (l : Launch) (E : Ev) (P : PH) (x0 : Int32)  (r : Bool) (hf : f_X2_canBeHeir P x0 = some r) : CtI l E yX2_canBeHeir cX2_canBeHeir 1 (some .boolean) r_X2_canBeHeir [.int x0] P (b2i r) P :=
  z_body (own := RX2) (by decide +kernel) rfl (Nat.le_of_ble_eq_true rfl) rfl (fun x _ S M => w_X2_canBeHeir S M P x0  r hf)
-- yX2_chain
theorem dX2_chain_0 : decode cX2_chain 0 = .ok (.aload_n 0, 1) := by decide +kernel
theorem dX2_chain_1 : decode cX2_chain 1 = .ok (.getfield 24, 3) := by decide +kernel
theorem dX2_chain_4 : decode cX2_chain 4 = .ok (.getfield 47, 3) := by decide +kernel
theorem dX2_chain_7 : decode cX2_chain 7 = .ok (.iload_n 1, 1) := by decide +kernel
theorem dX2_chain_8 : decode cX2_chain 8 = .ok (.iaload, 1) := by decide +kernel
theorem dX2_chain_9 : decode cX2_chain 9 = .ok (.istore_n 2, 1) := by decide +kernel
theorem dX2_chain_10 : decode cX2_chain 10 = .ok (.iload_n 2, 1) := by decide +kernel
theorem dX2_chain_11 : decode cX2_chain 11 = .ok (.bipush 9, 2) := by decide +kernel
theorem dX2_chain_13 : decode cX2_chain 13 = .ok (.if_icmp .ne 5, 3) := by decide +kernel
theorem dX2_chain_16 : decode cX2_chain 16 = .ok (.iconst 0, 1) := by decide +kernel
theorem dX2_chain_17 : decode cX2_chain 17 = .ok (.ireturn, 1) := by decide +kernel
theorem dX2_chain_18 : decode cX2_chain 18 = .ok (.iconst 0, 1) := by decide +kernel
theorem dX2_chain_19 : decode cX2_chain 19 = .ok (.istore_n 3, 1) := by decide +kernel
theorem dX2_chain_20 : decode cX2_chain 20 = .ok (.iload_n 3, 1) := by decide +kernel
theorem dX2_chain_21 : decode cX2_chain 21 = .ok (.aload_n 0, 1) := by decide +kernel
theorem dX2_chain_22 : decode cX2_chain 22 = .ok (.getfield 28, 3) := by decide +kernel
theorem dX2_chain_25 : decode cX2_chain 25 = .ok (.if_icmp .ge 48, 3) := by decide +kernel
theorem dX2_chain_28 : decode cX2_chain 28 = .ok (.iload_n 2, 1) := by decide +kernel
theorem dX2_chain_29 : decode cX2_chain 29 = .ok (.ifCond .lt 44, 3) := by decide +kernel
theorem dX2_chain_32 : decode cX2_chain 32 = .ok (.iload_n 2, 1) := by decide +kernel
theorem dX2_chain_33 : decode cX2_chain 33 = .ok (.aload_n 0, 1) := by decide +kernel
theorem dX2_chain_34 : decode cX2_chain 34 = .ok (.getfield 28, 3) := by decide +kernel
theorem dX2_chain_37 : decode cX2_chain 37 = .ok (.if_icmp .ge 36, 3) := by decide +kernel
theorem dX2_chain_40 : decode cX2_chain 40 = .ok (.aload_n 0, 1) := by decide +kernel
theorem dX2_chain_41 : decode cX2_chain 41 = .ok (.getfield 24, 3) := by decide +kernel
theorem dX2_chain_44 : decode cX2_chain 44 = .ok (.getfield 38, 3) := by decide +kernel
theorem dX2_chain_47 : decode cX2_chain 47 = .ok (.iload_n 2, 1) := by decide +kernel
theorem dX2_chain_48 : decode cX2_chain 48 = .ok (.ishr, 1) := by decide +kernel
theorem dX2_chain_49 : decode cX2_chain 49 = .ok (.iconst 1, 1) := by decide +kernel
theorem dX2_chain_50 : decode cX2_chain 50 = .ok (.iand, 1) := by decide +kernel
theorem dX2_chain_51 : decode cX2_chain 51 = .ok (.iconst 1, 1) := by decide +kernel
theorem dX2_chain_52 : decode cX2_chain 52 = .ok (.if_icmp .ne 5, 3) := by decide +kernel
theorem dX2_chain_55 : decode cX2_chain 55 = .ok (.iload_n 3, 1) := by decide +kernel
theorem dX2_chain_56 : decode cX2_chain 56 = .ok (.ireturn, 1) := by decide +kernel
theorem dX2_chain_57 : decode cX2_chain 57 = .ok (.aload_n 0, 1) := by decide +kernel
theorem dX2_chain_58 : decode cX2_chain 58 = .ok (.getfield 24, 3) := by decide +kernel
theorem dX2_chain_61 : decode cX2_chain 61 = .ok (.getfield 44, 3) := by decide +kernel
theorem dX2_chain_64 : decode cX2_chain 64 = .ok (.iload_n 2, 1) := by decide +kernel
theorem dX2_chain_65 : decode cX2_chain 65 = .ok (.iaload, 1) := by decide +kernel
theorem dX2_chain_66 : decode cX2_chain 66 = .ok (.istore_n 2, 1) := by decide +kernel
theorem dX2_chain_67 : decode cX2_chain 67 = .ok (.iinc 3 1, 3) := by decide +kernel
theorem dX2_chain_70 : decode cX2_chain 70 = .ok (.goto (-50), 3) := by decide +kernel
theorem dX2_chain_73 : decode cX2_chain 73 = .ok (.bipush (-9), 2) := by decide +kernel
theorem dX2_chain_75 : decode cX2_chain 75 = .ok (.ireturn, 1) := by decide +kernel
def r_X2_chain : Room := { frames := 0, cells := 0, slots := 0, locals := 0 }
def f_X2_chain_L20 (K0 : Int32 → Option Int32) (K1 : Option Int32) (P : PH) (x0 : Nat) : Nat → Int32 → Int32 → Option Int32
  | 0, _, _ => none
  | n + 1, x2, x3 =>
    (if (P.1 x0 0) ≤ x3 then K1 else (if x2 < 0 then K1 else (if (P.1 x0 0) ≤ x2 then K1 else (if (((P.1 (P.2.2 x0 5) 1) >>> (x2 &&& 31)) &&& (1 : Int32)) = (1 : Int32) then K0 x3 else (if (x2 < 0 ∨ 6 ≤ x2.toNatClampNeg) then none else f_X2_chain_L20 K0 K1 P x0 n (P.1 (P.2.2 (P.2.2 x0 5) 3) x2.toNatClampNeg) (x3 + (1 : Int32)))))))
theorem w_X2_chain_L20 {x : Fx} {E : Ev} (S : ZS x E r_X2_chain cX2_chain 4 RX2 (some .int)) (M : ZM x E) {K0 : Int32 → Option Int32} {K1 : Option Int32} (P : PH) (x0 : Nat) (h_x0 : ok x0 1 0) (r : Int32) (hK0 : ∀ (y3 : Int32), K0 y3 = some r → Wz x E 4 (QI E x r P) P 55 [(3, .int y3)] []) (hK1 : K1  = some r → Wz x E 4 (QI E x r P) P 73 [] []) : ∀ (n : Nat) (x2 : Int32) (x3 : Int32), f_X2_chain_L20 K0 K1 P x0 n x2 x3 = some r → Wz x E 4 (QI E x r P) P 20 [(0, .ref (ad E x0)), (2, .int x2), (3, .int x3)] [] := by
  intro n
  induction n with
  | zero => intro x2 x3 hf; cases hf
  | succ n ih =>
    intro x2 x3 hf
    unfold f_X2_chain_L20 at hf
    refine z_iload_n S 2 dX2_chain_20 rfl rfl ?_
    refine z_aload_n S 0 dX2_chain_21 rfl rfl ?_
    refine z_getI S cf_1 h_x0 0 (by decide) rfl wd213 dX2_chain_22 ?_
    refine z_icmp_ge (tgt := 73) S dX2_chain_25 (by decide) hf (fun hf => ?_) (fun hf => ?_)
    · refine z_sub [] rfl ?_
      exact hK1  hf
    · refine z_iload_n S 1 dX2_chain_28 rfl rfl ?_
      refine z_if_lt (tgt := 73) S dX2_chain_29 (by decide) hf (fun hf => ?_) (fun hf => ?_)
      · refine z_sub [] rfl ?_
        exact hK1  hf
      · refine z_iload_n S 1 dX2_chain_32 rfl rfl ?_
        refine z_aload_n S 0 dX2_chain_33 rfl rfl ?_
        refine z_getI S cf_1 h_x0 0 (by decide) rfl wd213 dX2_chain_34 ?_
        refine z_icmp_ge (tgt := 73) S dX2_chain_37 (by decide) hf (fun hf => ?_) (fun hf => ?_)
        · refine z_sub [] rfl ?_
          exact hK1  hf
        · refine z_aload_n S 0 dX2_chain_40 rfl rfl ?_
          refine z_getR (K' := 2) (n' := 0) S cf_1 h_x0 5 (by decide) rfl rfl rfl wd230 dX2_chain_41 (fun h1 => ?_)
          refine z_getI S cf_2 h1 1 (by decide) rfl wd173 dX2_chain_44 ?_
          refine z_iload_n S 1 dX2_chain_47 rfl rfl ?_
          refine z_ishr S dX2_chain_48 ?_
          refine z_iconst (v := 1) S dX2_chain_49 (by decide) ?_
          refine z_iand S dX2_chain_50 ?_
          refine z_iconst (v := 1) S dX2_chain_51 (by decide) ?_
          refine z_icmp_ne (tgt := 57) S dX2_chain_52 (by decide) hf (fun hf => ?_) (fun hf => ?_)
          · refine z_sub [2] rfl ?_
            exact hK0 x3 hf
          · refine z_aload_n S 0 dX2_chain_57 rfl rfl ?_
            refine z_getR (K' := 2) (n' := 0) S cf_1 h_x0 5 (by decide) rfl rfl rfl wd230 dX2_chain_58 (fun h2 => ?_)
            refine z_getR (K' := 9) (n' := 6) S cf_2 h2 3 (by decide) rfl rfl rfl wd184 dX2_chain_61 (fun h3 => ?_)
            refine z_iload_n S 1 dX2_chain_64 rfl rfl ?_
            refine z_iald S h3 dX2_chain_65 hf (fun hf => ?_)
            refine z_istore_n (lv' := [(2, .int (P.1 (P.2.2 (P.2.2 x0 5) 3) x2.toNatClampNeg)), (0, .ref (ad E x0)), (3, .int x3)]) S dX2_chain_66 rfl (by decide) rfl ?_
            refine z_iinc (v := (x3 + (1 : Int32))) (lv' := [(3, .int (x3 + (1 : Int32))), (2, .int (P.1 (P.2.2 (P.2.2 x0 5) 3) x2.toNatClampNeg)), (0, .ref (ad E x0))]) S 2 dX2_chain_67 rfl (by rfl) (by decide) rfl ?_
            refine z_goto (tgt := 20) S dX2_chain_70 (by decide) ?_
            refine z_sub [2, 1, 0] rfl ?_
            exact ih (P.1 (P.2.2 (P.2.2 x0 5) 3) x2.toNatClampNeg) (x3 + (1 : Int32)) hf
def f_X2_chain (P : PH) (x0 : Nat) (x1 : Int32) : Option Int32 :=
  (if (x1 < 0 ∨ 7 ≤ x1.toNatClampNeg) then none else (if (P.1 (P.2.2 (P.2.2 x0 5) 4) x1.toNatClampNeg) = (9 : Int32) then some (0 : Int32) else f_X2_chain_L20 (fun v6 => some v6) (some (-9 : Int32)) P x0 1000 (P.1 (P.2.2 (P.2.2 x0 5) 4) x1.toNatClampNeg) (0 : Int32)))
theorem w_X2_chain {x : Fx} {E : Ev} (S : ZS x E r_X2_chain cX2_chain 4 RX2 (some .int)) (M : ZM x E) (P : PH) (x0 : Nat) (x1 : Int32) (h_x0 : ok x0 1 0) (r : Int32) (hf : f_X2_chain P x0 x1 = some r) : Wz x E 4 (QI E x r P) P 0 [(0, .ref (ad E x0)), (1, .int x1)] [] := by
  unfold f_X2_chain at hf
  refine z_aload_n S 0 dX2_chain_0 rfl rfl ?_
  refine z_getR (K' := 2) (n' := 0) S cf_1 h_x0 5 (by decide) rfl rfl rfl wd230 dX2_chain_1 (fun h4 => ?_)
  refine z_getR (K' := 9) (n' := 7) S cf_2 h4 4 (by decide) rfl rfl rfl wd188 dX2_chain_4 (fun h5 => ?_)
  refine z_iload_n S 1 dX2_chain_7 rfl rfl ?_
  refine z_iald S h5 dX2_chain_8 hf (fun hf => ?_)
  refine z_istore_n (lv' := [(2, .int (P.1 (P.2.2 (P.2.2 x0 5) 4) x1.toNatClampNeg)), (0, .ref (ad E x0)), (1, .int x1)]) S dX2_chain_9 rfl (by decide) rfl ?_
  refine z_iload_n S 0 dX2_chain_10 rfl rfl ?_
  refine z_bipush (v := 9) S dX2_chain_11 (by decide) ?_
  refine z_icmp_ne (tgt := 18) S dX2_chain_13 (by decide) hf (fun hf => ?_) (fun hf => ?_)
  · refine z_iconst (v := 0) S dX2_chain_16 (by decide) ?_
    exact z_iretP (v := (0 : Int32)) S M rfl dX2_chain_17 hf
  · refine z_iconst (v := 0) S dX2_chain_18 (by decide) ?_
    refine z_istore_n (lv' := [(3, .int (0 : Int32)), (2, .int (P.1 (P.2.2 (P.2.2 x0 5) 4) x1.toNatClampNeg)), (0, .ref (ad E x0)), (1, .int x1)]) S dX2_chain_19 rfl (by decide) rfl ?_
    refine z_sub [2, 1, 0] rfl ?_
    refine w_X2_chain_L20 S M _ x0 h_x0 r (fun v6 hf => ?_) (fun hf => ?_) 1000 (P.1 (P.2.2 (P.2.2 x0 5) 4) x1.toNatClampNeg) (0 : Int32) hf
    · refine z_iload_n S 0 dX2_chain_55 rfl rfl ?_
      exact z_iretP (v := v6) S M rfl dX2_chain_56 hf
    · refine z_bipush (v := (-9 : Int32)) S dX2_chain_73 (by decide) ?_
      exact z_iretP (v := (-9 : Int32)) S M rfl dX2_chain_75 hf
theorem m_X2_chain (l : Launch) (E : Ev) (P : PH) (x0 : Nat) (x1 : Int32) (h_x0 : ok x0 1 0) (r : Int32) (hf : f_X2_chain P x0 x1 = some r) : CtI l E yX2_chain cX2_chain 4 (some .int) r_X2_chain [.ref (ad E x0), .int x1] P r P :=
  z_body (own := RX2) (by decide +kernel) rfl (Nat.le_of_ble_eq_true rfl) rfl (fun x _ S M => w_X2_chain S M P x0 x1 h_x0 r hf)
-- yX2_mayNow
theorem dX2_mayNow_0 : decode cX2_mayNow 0 = .ok (.aload_n 0, 1) := by decide +kernel
theorem dX2_mayNow_1 : decode cX2_mayNow 1 = .ok (.iload_n 1, 1) := by decide +kernel
theorem dX2_mayNow_2 : decode cX2_mayNow 2 = .ok (.aload_n 0, 1) := by decide +kernel
theorem dX2_mayNow_3 : decode cX2_mayNow 3 = .ok (.getfield 24, 3) := by decide +kernel
theorem dX2_mayNow_6 : decode cX2_mayNow 6 = .ok (.getfield 38, 3) := by decide +kernel
theorem dX2_mayNow_9 : decode cX2_mayNow 9 = .ok (.aload_n 0, 1) := by decide +kernel
theorem dX2_mayNow_10 : decode cX2_mayNow 10 = .ok (.getfield 24, 3) := by decide +kernel
theorem dX2_mayNow_13 : decode cX2_mayNow 13 = .ok (.getfield 35, 3) := by decide +kernel
theorem dX2_mayNow_16 : decode cX2_mayNow 16 = .ok (.iconst 0, 1) := by decide +kernel
theorem dX2_mayNow_17 : decode cX2_mayNow 17 = .ok (.invokevirtual 64, 3) := by decide +kernel
theorem dX2_mayNow_20 : decode cX2_mayNow 20 = .ok (.ireturn, 1) := by decide +kernel
def r_X2_mayNow : Room := { frames := 3, cells := 0, slots := 0, locals := 73 }
def f_X2_mayNow (P : PH) (x0 : Nat) (x1 : Int32) : Option Int32 :=
  ((f_X2_may P x0 x1 (P.1 (P.2.2 x0 5) 1) (P.1 (P.2.2 x0 5) 0) (0 : Int32)).bind fun q3 => some q3)
theorem w_X2_mayNow {x : Fx} {E : Ev} (S : ZS x E r_X2_mayNow cX2_mayNow 2 RX2 (some .int)) (M : ZM x E) (P : PH) (x0 : Nat) (x1 : Int32) (h_x0 : ok x0 1 0) (r : Int32) (hf : f_X2_mayNow P x0 x1 = some r) : Wz x E 2 (QI E x r P) P 0 [(0, .ref (ad E x0)), (1, .int x1)] [] := by
  unfold f_X2_mayNow at hf
  refine z_aload_n S 0 dX2_mayNow_0 rfl rfl ?_
  refine z_iload_n S 1 dX2_mayNow_1 rfl rfl ?_
  refine z_aload_n S 0 dX2_mayNow_2 rfl rfl ?_
  refine z_getR (K' := 2) (n' := 0) S cf_1 h_x0 5 (by decide) rfl rfl rfl wd230 dX2_mayNow_3 (fun h1 => ?_)
  refine z_getI S cf_2 h1 1 (by decide) rfl wd173 dX2_mayNow_6 ?_
  refine z_aload_n S 0 dX2_mayNow_9 rfl rfl ?_
  refine z_getR (K' := 2) (n' := 0) S cf_1 h_x0 5 (by decide) rfl rfl rfl wd230 dX2_mayNow_10 (fun h2 => ?_)
  refine z_getI S cf_2 h2 0 (by decide) rfl wd166 dX2_mayNow_13 ?_
  refine z_iconst (v := 0) S dX2_mayNow_16 (by decide) ?_
  refine z_callVI (rc := r_X2_may) [.int x1, .int (P.1 (P.2.2 x0 5) 1), .int (P.1 (P.2.2 x0 5) 0), .int (0 : Int32)] S mo_X2_may wd376 wd377 wd375 h_x0 (by decide) cl_1 rfl rfl (by decide) (z_room0 S M (by rfl) (by rfl)) rfl (Nat.le_of_ble_eq_true rfl) rfl dX2_mayNow_17 (fun q => q) (fun _ => P) (fun q hq => m_X2_may (xl x) E _ _ _ _ _ _ h_x0 q hq) hf (fun q3 hf => ?_)
  exact z_iretP (v := q3) S M rfl dX2_mayNow_20 hf
theorem m_X2_mayNow (l : Launch) (E : Ev) (P : PH) (x0 : Nat) (x1 : Int32) (h_x0 : ok x0 1 0) (r : Int32) (hf : f_X2_mayNow P x0 x1 = some r) : CtI l E yX2_mayNow cX2_mayNow 2 (some .int) r_X2_mayNow [.ref (ad E x0), .int x1] P r P :=
  z_body (own := RX2) (by decide +kernel) rfl (Nat.le_of_ble_eq_true rfl) rfl (fun x _ S M => w_X2_mayNow S M P x0 x1 h_x0 r hf)
-- yX2_whoMay
theorem dX2_whoMay_0 : decode cX2_whoMay 0 = .ok (.iconst 0, 1) := by decide +kernel
theorem dX2_whoMay_1 : decode cX2_whoMay 1 = .ok (.istore_n 2, 1) := by decide +kernel
theorem dX2_whoMay_2 : decode cX2_whoMay 2 = .ok (.iconst 0, 1) := by decide +kernel
theorem dX2_whoMay_3 : decode cX2_whoMay 3 = .ok (.istore_n 3, 1) := by decide +kernel
theorem dX2_whoMay_4 : decode cX2_whoMay 4 = .ok (.iload_n 3, 1) := by decide +kernel
theorem dX2_whoMay_5 : decode cX2_whoMay 5 = .ok (.aload_n 0, 1) := by decide +kernel
theorem dX2_whoMay_6 : decode cX2_whoMay 6 = .ok (.getfield 28, 3) := by decide +kernel
theorem dX2_whoMay_9 : decode cX2_whoMay 9 = .ok (.if_icmp .ge 38, 3) := by decide +kernel
theorem dX2_whoMay_12 : decode cX2_whoMay 12 = .ok (.iload_n 2, 1) := by decide +kernel
theorem dX2_whoMay_13 : decode cX2_whoMay 13 = .ok (.aload_n 0, 1) := by decide +kernel
theorem dX2_whoMay_14 : decode cX2_whoMay 14 = .ok (.iload_n 3, 1) := by decide +kernel
theorem dX2_whoMay_15 : decode cX2_whoMay 15 = .ok (.aload_n 0, 1) := by decide +kernel
theorem dX2_whoMay_16 : decode cX2_whoMay 16 = .ok (.getfield 24, 3) := by decide +kernel
theorem dX2_whoMay_19 : decode cX2_whoMay 19 = .ok (.getfield 38, 3) := by decide +kernel
theorem dX2_whoMay_22 : decode cX2_whoMay 22 = .ok (.aload_n 0, 1) := by decide +kernel
theorem dX2_whoMay_23 : decode cX2_whoMay 23 = .ok (.getfield 24, 3) := by decide +kernel
theorem dX2_whoMay_26 : decode cX2_whoMay 26 = .ok (.getfield 35, 3) := by decide +kernel
theorem dX2_whoMay_29 : decode cX2_whoMay 29 = .ok (.iconst 0, 1) := by decide +kernel
theorem dX2_whoMay_30 : decode cX2_whoMay 30 = .ok (.invokevirtual 64, 3) := by decide +kernel
theorem dX2_whoMay_33 : decode cX2_whoMay 33 = .ok (.iload_n 1, 1) := by decide +kernel
theorem dX2_whoMay_34 : decode cX2_whoMay 34 = .ok (.ishr, 1) := by decide +kernel
theorem dX2_whoMay_35 : decode cX2_whoMay 35 = .ok (.iconst 1, 1) := by decide +kernel
theorem dX2_whoMay_36 : decode cX2_whoMay 36 = .ok (.iand, 1) := by decide +kernel
theorem dX2_whoMay_37 : decode cX2_whoMay 37 = .ok (.iload_n 3, 1) := by decide +kernel
theorem dX2_whoMay_38 : decode cX2_whoMay 38 = .ok (.ishl, 1) := by decide +kernel
theorem dX2_whoMay_39 : decode cX2_whoMay 39 = .ok (.ior, 1) := by decide +kernel
theorem dX2_whoMay_40 : decode cX2_whoMay 40 = .ok (.istore_n 2, 1) := by decide +kernel
theorem dX2_whoMay_41 : decode cX2_whoMay 41 = .ok (.iinc 3 1, 3) := by decide +kernel
theorem dX2_whoMay_44 : decode cX2_whoMay 44 = .ok (.goto (-40), 3) := by decide +kernel
theorem dX2_whoMay_47 : decode cX2_whoMay 47 = .ok (.iload_n 2, 1) := by decide +kernel
theorem dX2_whoMay_48 : decode cX2_whoMay 48 = .ok (.ireturn, 1) := by decide +kernel
def r_X2_whoMay : Room := { frames := 3, cells := 0, slots := 0, locals := 73 }
def f_X2_whoMay_L4 (K : Int32 → Option Int32) (P : PH) (x0 : Nat) (x1 : Int32) : Nat → Int32 → Int32 → Option Int32
  | 0, _, _ => none
  | n + 1, x2, x3 =>
    (if (P.1 x0 0) ≤ x3 then K x2 else ((f_X2_may P x0 x3 (P.1 (P.2.2 x0 5) 1) (P.1 (P.2.2 x0 5) 0) (0 : Int32)).bind fun q3 => ((some (x2 ||| (((q3 >>> (x1 &&& 31)) &&& (1 : Int32)) <<< (x3 &&& 31)))).bind fun u4 => f_X2_whoMay_L4 K P x0 x1 n u4 (x3 + (1 : Int32)))))
theorem w_X2_whoMay_L4 {x : Fx} {E : Ev} (S : ZS x E r_X2_whoMay cX2_whoMay 4 RX2 (some .int)) (M : ZM x E) {K : Int32 → Option Int32} (P : PH) (x0 : Nat) (x1 : Int32) (h_x0 : ok x0 1 0) (r : Int32) (hK : ∀ (y2 : Int32), K y2 = some r → Wz x E 4 (QI E x r P) P 47 [(2, .int y2)] []) : ∀ (n : Nat) (x2 : Int32) (x3 : Int32), f_X2_whoMay_L4 K P x0 x1 n x2 x3 = some r → Wz x E 4 (QI E x r P) P 4 [(0, .ref (ad E x0)), (1, .int x1), (2, .int x2), (3, .int x3)] [] := by
  intro n
  induction n with
  | zero => intro x2 x3 hf; cases hf
  | succ n ih =>
    intro x2 x3 hf
    unfold f_X2_whoMay_L4 at hf
    refine z_iload_n S 3 dX2_whoMay_4 rfl rfl ?_
    refine z_aload_n S 0 dX2_whoMay_5 rfl rfl ?_
    refine z_getI S cf_1 h_x0 0 (by decide) rfl wd213 dX2_whoMay_6 ?_
    refine z_icmp_ge (tgt := 47) S dX2_whoMay_9 (by decide) hf (fun hf => ?_) (fun hf => ?_)
    · refine z_sub [2] rfl ?_
      exact hK x2 hf
    · refine z_iload_n S 2 dX2_whoMay_12 rfl rfl ?_
      refine z_aload_n S 0 dX2_whoMay_13 rfl rfl ?_
      refine z_iload_n S 3 dX2_whoMay_14 rfl rfl ?_
      refine z_aload_n S 0 dX2_whoMay_15 rfl rfl ?_
      refine z_getR (K' := 2) (n' := 0) S cf_1 h_x0 5 (by decide) rfl rfl rfl wd230 dX2_whoMay_16 (fun h1 => ?_)
      refine z_getI S cf_2 h1 1 (by decide) rfl wd173 dX2_whoMay_19 ?_
      refine z_aload_n S 0 dX2_whoMay_22 rfl rfl ?_
      refine z_getR (K' := 2) (n' := 0) S cf_1 h_x0 5 (by decide) rfl rfl rfl wd230 dX2_whoMay_23 (fun h2 => ?_)
      refine z_getI S cf_2 h2 0 (by decide) rfl wd166 dX2_whoMay_26 ?_
      refine z_iconst (v := 0) S dX2_whoMay_29 (by decide) ?_
      refine z_callVI (rc := r_X2_may) [.int x3, .int (P.1 (P.2.2 x0 5) 1), .int (P.1 (P.2.2 x0 5) 0), .int (0 : Int32)] S mo_X2_may wd376 wd377 wd375 h_x0 (by decide) cl_1 rfl rfl (by decide) (z_room0 S M (by rfl) (by rfl)) rfl (Nat.le_of_ble_eq_true rfl) rfl dX2_whoMay_30 (fun q => q) (fun _ => P) (fun q hq => m_X2_may (xl x) E _ _ _ _ _ _ h_x0 q hq) hf (fun q3 hf => ?_)
      refine z_iload_n S 1 dX2_whoMay_33 rfl rfl ?_
      refine z_ishr S dX2_whoMay_34 ?_
      refine z_iconst (v := 1) S dX2_whoMay_35 (by decide) ?_
      refine z_iand S dX2_whoMay_36 ?_
      refine z_iload_n S 3 dX2_whoMay_37 rfl rfl ?_
      refine z_ishl S dX2_whoMay_38 ?_
      refine z_ior S dX2_whoMay_39 ?_
      refine z_nm hf (fun u4 hf => ?_)
      refine z_istore_n (lv' := [(2, .int u4), (0, .ref (ad E x0)), (1, .int x1), (3, .int x3)]) S dX2_whoMay_40 rfl (by decide) rfl ?_
      refine z_iinc (v := (x3 + (1 : Int32))) (lv' := [(3, .int (x3 + (1 : Int32))), (2, .int u4), (0, .ref (ad E x0)), (1, .int x1)]) S 3 dX2_whoMay_41 rfl (by rfl) (by decide) rfl ?_
      refine z_goto (tgt := 4) S dX2_whoMay_44 (by decide) ?_
      refine z_sub [2, 3, 1, 0] rfl ?_
      exact ih u4 (x3 + (1 : Int32)) hf
def f_X2_whoMay (P : PH) (x0 : Nat) (x1 : Int32) : Option Int32 :=
  f_X2_whoMay_L4 (fun v5 => some v5) P x0 x1 1000 (0 : Int32) (0 : Int32)
theorem w_X2_whoMay {x : Fx} {E : Ev} (S : ZS x E r_X2_whoMay cX2_whoMay 4 RX2 (some .int)) (M : ZM x E) (P : PH) (x0 : Nat) (x1 : Int32) (h_x0 : ok x0 1 0) (r : Int32) (hf : f_X2_whoMay P x0 x1 = some r) : Wz x E 4 (QI E x r P) P 0 [(0, .ref (ad E x0)), (1, .int x1)] [] := by
  unfold f_X2_whoMay at hf
  refine z_iconst (v := 0) S dX2_whoMay_0 (by decide) ?_
  refine z_istore_n (lv' := [(2, .int (0 : Int32)), (0, .ref (ad E x0)), (1, .int x1)]) S dX2_whoMay_1 rfl (by decide) rfl ?_
  refine z_iconst (v := 0) S dX2_whoMay_2 (by decide) ?_
  refine z_istore_n (lv' := [(3, .int (0 : Int32)), (2, .int (0 : Int32)), (0, .ref (ad E x0)), (1, .int x1)]) S dX2_whoMay_3 rfl (by decide) rfl ?_
  refine z_sub [2, 3, 1, 0] rfl ?_
  refine w_X2_whoMay_L4 S M _ x0 x1 h_x0 r (fun v5 hf => ?_) 1000 (0 : Int32) (0 : Int32) hf
  refine z_iload_n S 0 dX2_whoMay_47 rfl rfl ?_
  exact z_iretP (v := v5) S M rfl dX2_whoMay_48 hf
theorem m_X2_whoMay (l : Launch) (E : Ev) (P : PH) (x0 : Nat) (x1 : Int32) (h_x0 : ok x0 1 0) (r : Int32) (hf : f_X2_whoMay P x0 x1 = some r) : CtI l E yX2_whoMay cX2_whoMay 4 (some .int) r_X2_whoMay [.ref (ad E x0), .int x1] P r P :=
  z_body (own := RX2) (by decide +kernel) rfl (Nat.le_of_ble_eq_true rfl) rfl (fun x _ S M => w_X2_whoMay S M P x0 x1 h_x0 r hf)
-- yX2_cutOff
theorem dX2_cutOff_0 : decode cX2_cutOff 0 = .ok (.iconst 0, 1) := by decide +kernel
theorem dX2_cutOff_1 : decode cX2_cutOff 1 = .ok (.istore_n 2, 1) := by decide +kernel
theorem dX2_cutOff_2 : decode cX2_cutOff 2 = .ok (.iconst 0, 1) := by decide +kernel
theorem dX2_cutOff_3 : decode cX2_cutOff 3 = .ok (.istore_n 3, 1) := by decide +kernel
theorem dX2_cutOff_4 : decode cX2_cutOff 4 = .ok (.iload_n 3, 1) := by decide +kernel
theorem dX2_cutOff_5 : decode cX2_cutOff 5 = .ok (.aload_n 0, 1) := by decide +kernel
theorem dX2_cutOff_6 : decode cX2_cutOff 6 = .ok (.getfield 28, 3) := by decide +kernel
theorem dX2_cutOff_9 : decode cX2_cutOff 9 = .ok (.if_icmp .ge 38, 3) := by decide +kernel
theorem dX2_cutOff_12 : decode cX2_cutOff 12 = .ok (.aload_n 0, 1) := by decide +kernel
theorem dX2_cutOff_13 : decode cX2_cutOff 13 = .ok (.iload_n 3, 1) := by decide +kernel
theorem dX2_cutOff_14 : decode cX2_cutOff 14 = .ok (.aload_n 0, 1) := by decide +kernel
theorem dX2_cutOff_15 : decode cX2_cutOff 15 = .ok (.getfield 24, 3) := by decide +kernel
theorem dX2_cutOff_18 : decode cX2_cutOff 18 = .ok (.getfield 38, 3) := by decide +kernel
theorem dX2_cutOff_21 : decode cX2_cutOff 21 = .ok (.aload_n 0, 1) := by decide +kernel
theorem dX2_cutOff_22 : decode cX2_cutOff 22 = .ok (.getfield 24, 3) := by decide +kernel
theorem dX2_cutOff_25 : decode cX2_cutOff 25 = .ok (.getfield 35, 3) := by decide +kernel
theorem dX2_cutOff_28 : decode cX2_cutOff 28 = .ok (.iload_n 1, 1) := by decide +kernel
theorem dX2_cutOff_29 : decode cX2_cutOff 29 = .ok (.invokevirtual 79, 3) := by decide +kernel
theorem dX2_cutOff_32 : decode cX2_cutOff 32 = .ok (.ifCond .eq 9, 3) := by decide +kernel
theorem dX2_cutOff_35 : decode cX2_cutOff 35 = .ok (.iload_n 2, 1) := by decide +kernel
theorem dX2_cutOff_36 : decode cX2_cutOff 36 = .ok (.iconst 1, 1) := by decide +kernel
theorem dX2_cutOff_37 : decode cX2_cutOff 37 = .ok (.iload_n 3, 1) := by decide +kernel
theorem dX2_cutOff_38 : decode cX2_cutOff 38 = .ok (.ishl, 1) := by decide +kernel
theorem dX2_cutOff_39 : decode cX2_cutOff 39 = .ok (.ior, 1) := by decide +kernel
theorem dX2_cutOff_40 : decode cX2_cutOff 40 = .ok (.istore_n 2, 1) := by decide +kernel
theorem dX2_cutOff_41 : decode cX2_cutOff 41 = .ok (.iinc 3 1, 3) := by decide +kernel
theorem dX2_cutOff_44 : decode cX2_cutOff 44 = .ok (.goto (-40), 3) := by decide +kernel
theorem dX2_cutOff_47 : decode cX2_cutOff 47 = .ok (.iload_n 2, 1) := by decide +kernel
theorem dX2_cutOff_48 : decode cX2_cutOff 48 = .ok (.ireturn, 1) := by decide +kernel
def r_X2_cutOff : Room := { frames := 4, cells := 0, slots := 0, locals := 97 }
def f_X2_cutOff_L4 (K : Int32 → Option Int32) (P : PH) (x0 : Nat) (x1 : Int32) : Nat → Int32 → Int32 → Option Int32
  | 0, _, _ => none
  | n + 1, x2, x3 =>
    (if (P.1 x0 0) ≤ x3 then K x2 else ((f_X2_isCutOff P x0 x3 (P.1 (P.2.2 x0 5) 1) (P.1 (P.2.2 x0 5) 0) x1).bind fun q3 => (if (b2i q3) = 0 then f_X2_cutOff_L4 K P x0 x1 n x2 (x3 + (1 : Int32)) else f_X2_cutOff_L4 K P x0 x1 n (x2 ||| ((1 : Int32) <<< (x3 &&& 31))) (x3 + (1 : Int32)))))
theorem w_X2_cutOff_L4 {x : Fx} {E : Ev} (S : ZS x E r_X2_cutOff cX2_cutOff 4 RX2 (some .int)) (M : ZM x E) {K : Int32 → Option Int32} (P : PH) (x0 : Nat) (x1 : Int32) (h_x0 : ok x0 1 0) (r : Int32) (hK : ∀ (y2 : Int32), K y2 = some r → Wz x E 4 (QI E x r P) P 47 [(2, .int y2)] []) : ∀ (n : Nat) (x2 : Int32) (x3 : Int32), f_X2_cutOff_L4 K P x0 x1 n x2 x3 = some r → Wz x E 4 (QI E x r P) P 4 [(0, .ref (ad E x0)), (1, .int x1), (2, .int x2), (3, .int x3)] [] := by
  intro n
  induction n with
  | zero => intro x2 x3 hf; cases hf
  | succ n ih =>
    intro x2 x3 hf
    unfold f_X2_cutOff_L4 at hf
    refine z_iload_n S 3 dX2_cutOff_4 rfl rfl ?_
    refine z_aload_n S 0 dX2_cutOff_5 rfl rfl ?_
    refine z_getI S cf_1 h_x0 0 (by decide) rfl wd213 dX2_cutOff_6 ?_
    refine z_icmp_ge (tgt := 47) S dX2_cutOff_9 (by decide) hf (fun hf => ?_) (fun hf => ?_)
    · refine z_sub [2] rfl ?_
      exact hK x2 hf
    · refine z_aload_n S 0 dX2_cutOff_12 rfl rfl ?_
      refine z_iload_n S 3 dX2_cutOff_13 rfl rfl ?_
      refine z_aload_n S 0 dX2_cutOff_14 rfl rfl ?_
      refine z_getR (K' := 2) (n' := 0) S cf_1 h_x0 5 (by decide) rfl rfl rfl wd230 dX2_cutOff_15 (fun h1 => ?_)
      refine z_getI S cf_2 h1 1 (by decide) rfl wd173 dX2_cutOff_18 ?_
      refine z_aload_n S 0 dX2_cutOff_21 rfl rfl ?_
      refine z_getR (K' := 2) (n' := 0) S cf_1 h_x0 5 (by decide) rfl rfl rfl wd230 dX2_cutOff_22 (fun h2 => ?_)
      refine z_getI S cf_2 h2 0 (by decide) rfl wd166 dX2_cutOff_25 ?_
      refine z_iload_n S 1 dX2_cutOff_28 rfl rfl ?_
      refine z_callVI (rc := r_X2_isCutOff) [.int x3, .int (P.1 (P.2.2 x0 5) 1), .int (P.1 (P.2.2 x0 5) 0), .int x1] S mo_X2_isCutOff wd400 wd401 wd434 h_x0 (by decide) cl_1 rfl rfl (by decide) (z_room0 S M (by rfl) (by rfl)) rfl (Nat.le_of_ble_eq_true rfl) rfl dX2_cutOff_29 (fun q => b2i q) (fun _ => P) (fun q hq => m_X2_isCutOff (xl x) E _ _ _ _ _ _ h_x0 q hq) hf (fun q3 hf => ?_)
      refine z_if_eq (tgt := 41) S dX2_cutOff_32 (by decide) hf (fun hf => ?_) (fun hf => ?_)
      · refine z_iinc (v := (x3 + (1 : Int32))) (lv' := [(3, .int (x3 + (1 : Int32))), (0, .ref (ad E x0)), (1, .int x1), (2, .int x2)]) S 3 dX2_cutOff_41 rfl (by rfl) (by decide) rfl ?_
        refine z_goto (tgt := 4) S dX2_cutOff_44 (by decide) ?_
        refine z_sub [1, 2, 3, 0] rfl ?_
        exact ih x2 (x3 + (1 : Int32)) hf
      · refine z_iload_n S 2 dX2_cutOff_35 rfl rfl ?_
        refine z_iconst (v := 1) S dX2_cutOff_36 (by decide) ?_
        refine z_iload_n S 3 dX2_cutOff_37 rfl rfl ?_
        refine z_ishl S dX2_cutOff_38 ?_
        refine z_ior S dX2_cutOff_39 ?_
        refine z_istore_n (lv' := [(2, .int (x2 ||| ((1 : Int32) <<< (x3 &&& 31)))), (0, .ref (ad E x0)), (1, .int x1), (3, .int x3)]) S dX2_cutOff_40 rfl (by decide) rfl ?_
        refine z_iinc (v := (x3 + (1 : Int32))) (lv' := [(3, .int (x3 + (1 : Int32))), (2, .int (x2 ||| ((1 : Int32) <<< (x3 &&& 31)))), (0, .ref (ad E x0)), (1, .int x1)]) S 3 dX2_cutOff_41 rfl (by rfl) (by decide) rfl ?_
        refine z_goto (tgt := 4) S dX2_cutOff_44 (by decide) ?_
        refine z_sub [2, 3, 1, 0] rfl ?_
        exact ih (x2 ||| ((1 : Int32) <<< (x3 &&& 31))) (x3 + (1 : Int32)) hf
def f_X2_cutOff (P : PH) (x0 : Nat) (x1 : Int32) : Option Int32 :=
  f_X2_cutOff_L4 (fun v4 => some v4) P x0 x1 1000 (0 : Int32) (0 : Int32)
theorem w_X2_cutOff {x : Fx} {E : Ev} (S : ZS x E r_X2_cutOff cX2_cutOff 4 RX2 (some .int)) (M : ZM x E) (P : PH) (x0 : Nat) (x1 : Int32) (h_x0 : ok x0 1 0) (r : Int32) (hf : f_X2_cutOff P x0 x1 = some r) : Wz x E 4 (QI E x r P) P 0 [(0, .ref (ad E x0)), (1, .int x1)] [] := by
  unfold f_X2_cutOff at hf
  refine z_iconst (v := 0) S dX2_cutOff_0 (by decide) ?_
  refine z_istore_n (lv' := [(2, .int (0 : Int32)), (0, .ref (ad E x0)), (1, .int x1)]) S dX2_cutOff_1 rfl (by decide) rfl ?_
  refine z_iconst (v := 0) S dX2_cutOff_2 (by decide) ?_
  refine z_istore_n (lv' := [(3, .int (0 : Int32)), (2, .int (0 : Int32)), (0, .ref (ad E x0)), (1, .int x1)]) S dX2_cutOff_3 rfl (by decide) rfl ?_
  refine z_sub [2, 3, 1, 0] rfl ?_
  refine w_X2_cutOff_L4 S M _ x0 x1 h_x0 r (fun v4 hf => ?_) 1000 (0 : Int32) (0 : Int32) hf
  refine z_iload_n S 0 dX2_cutOff_47 rfl rfl ?_
  exact z_iretP (v := v4) S M rfl dX2_cutOff_48 hf
theorem m_X2_cutOff (l : Launch) (E : Ev) (P : PH) (x0 : Nat) (x1 : Int32) (h_x0 : ok x0 1 0) (r : Int32) (hf : f_X2_cutOff P x0 x1 = some r) : CtI l E yX2_cutOff cX2_cutOff 4 (some .int) r_X2_cutOff [.ref (ad E x0), .int x1] P r P :=
  z_body (own := RX2) (by decide +kernel) rfl (Nat.le_of_ble_eq_true rfl) rfl (fun x _ S M => w_X2_cutOff S M P x0 x1 h_x0 r hf)
