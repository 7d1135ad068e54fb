
/-! from the law's entry to its loop -/
def zrho : List (List Nat) := [[1, 5, 9, 13, 14, 0, 27, 37], [2, 4], [3, 0, 0, 0, 0, 0], [], [], [0, 6, 7, 8], [], [], [], [0, 10, 11, 12], [], [], [], [0], [15, 21], [0, 0, 0, 16, 17, 18, 19, 20], [], [], [], [], [], [0, 0, 0, 22, 23, 24, 25, 26], [], [], [], [], [], [0, 0, 28, 29, 30, 31], [], [], [], [0, 0, 0, 32, 33, 34, 35, 36], [], [], [], [], [], [0, 0, 38, 39, 40, 41], [], [], [], [0, 0, 0, 42, 43, 44, 45, 46], [], [], [], [], [], [0, 0, 48, 49, 50, 51, 52, 0, 53, 54, 0, 55, 0, 56, 0, 0, 0, 0, 0, 0, 0, 0, 57, 58, 59, 60, 61, 0], [], [], [], [], [], [], [], [], [], [], [], [], [], []]
def rho0 (c j : Nat) : Nat := (zrho.getD c []).getD j 0
def P0 : PH := (fun _ _ => 0, fun _ => 0, rho0)
theorem WT_P0 : WT P0 := by
  have h : ∀ c, c < 62 → ∀ j, j < 28 → ft (kd c) j = 2 → (rho0 c j < 62 ∧ kd (rho0 c j) = fk (kd c) j ∧ ln (rho0 c j) = fl (kd c) j) := by decide +kernel
  intro c j hc hf
  by_cases hj : j < 28
  · exact h c hc j hj hf
  · exfalso
    have h2 : ∀ K, K < 12 → (zft.getD K []).length ≤ 28 := by decide +kernel
    have h3 : ∀ c, c < 62 → kd c < 12 := by decide +kernel
    have h4 := h2 (kd c) (h3 c hc)
    unfold ft at hf
    generalize zft.getD (kd c) [] = l at h4 hf
    rw [List.getD_eq_getElem?_getD, List.getElem?_eq_none (by omega)] at hf
    simp at hf
theorem arrV_congr (cA n : Nat) {f g : Nat → Value} (h : ∀ j, j < n → f j = g j) : arrV cA n f = arrV cA n g := by
  unfold arrV
  congr 1
  congr 1
  funext j
  exact h j.val j.isLt
theorem y_reQ {x : Fx} {E : Ev} {nL : Nat} {Q : State → Prop} {ws ws' : va_W} {kc ks pc : Nat} {lv : List (Nat × Value)} {st : List Value} (q0 : Nat) {a cA n : Nat} {f : Nat → Option Nat} (g : Nat → Option Nat) (he : ws[q0]? = some (a, .inl (cA, n, .inr (.inr (.inr (.inr f)))))) (hfg : ∀ j, j < n → f j = g j) (hws : ws.set q0 (a, .inl (cA, n, .inr (.inr (.inr (.inr g))))) = ws') (k : Wc x E nL Q ws' kc ks pc lv st) : Wc x E nL Q ws kc ks pc lv st := by
  subst hws
  intro H locs ls h1 h2 h4 h3
  refine k H locs ls (h1.set h2 he ?_ (fun _ _ => rfl)) (h2.set he) h4 h3
  have h5 : H[a]? = some (vp_cell cA (n, .inr (.inr (.inr (.inr f))))) := h1 q0 _ he
  show H[a]? = some (vp_cell cA (n, .inr (.inr (.inr (.inr g)))))
  rw [h5, vp_cell_q, vp_cell_q, arrV_congr cA n (f := fun j => va_rf (f j)) (g := fun j => va_rf (g j)) (fun j hj => by rw [hfg j hj])]
theorem nstw_in : ∀ w ∈ nstw, w ∈ lw_tbl := List.forall_mem_cons.mpr ⟨List.mem_of_getElem? (i := 57) (by decide +kernel), List.forall_mem_cons.mpr ⟨List.mem_of_getElem? (i := 63) (by decide +kernel), List.forall_mem_cons.mpr ⟨List.mem_of_getElem? (i := 101) (by decide +kernel), List.forall_mem_cons.mpr ⟨List.mem_of_getElem? (i := 121) (by decide +kernel), List.forall_mem_cons.mpr ⟨List.mem_of_getElem? (i := 141) (by decide +kernel), List.forall_mem_cons.mpr ⟨List.mem_of_getElem? (i := 154) (by decide +kernel), List.forall_mem_cons.mpr ⟨List.mem_of_getElem? (i := 250) (by decide +kernel), List.forall_mem_cons.mpr ⟨List.mem_of_getElem? (i := 160) (by decide +kernel), fun _ h => absurd h List.not_mem_nil⟩⟩⟩⟩⟩⟩⟩⟩
set_option maxRecDepth 100000 in
theorem start_walk {p : Program} {e : Env} {s : State} {m : MethodId} {below : List Frame} {meth : Method} {c : Code} (l : Launch) {b L : Nat} {xs : Nat → Int32} (C0 : lw_At p s m meth c b L xs) (n : Nat) (hpure : f_law_L18 L xs n P0 0 = some true) : W p l e room_1 s m #[Value.ref b] below meth c s.heap [] 0 0 (lw_Z below #[Value.ref b] s) (entryFrame m ([Value.ref b] : List Value).toArray 4) := by
  obtain ⟨hx, hb, hr, hml, hown, hts, hX, hbl, hlocks, hgv⟩ := id C0
  have htz : ∀ w ∈ zt, w.before #[Value.ref b] s = true := fun w hw => hts w (List.mem_filter.mp hw).1
  obtain ⟨c0, i0, hKn0⟩ := u_known (C := RX1) (T := TX1) (N := 4) (n := 4) htz uw_0 (htz _ wd100)
  obtain ⟨c1, i1, hKn1⟩ := u_known (C := RX2) (T := TX2) (N := 6) (n := 6) htz uw_1 (htz _ wd153)
  obtain ⟨c2, i2, hKn2⟩ := u_known (C := RX4) (T := TX4) (N := 8) (n := 8) htz uw_2 (htz _ wd159)
  obtain ⟨c3, i3, hKn3⟩ := u_known (C := RX5) (T := TX5) (N := 1) (n := 1) htz uw_3 (htz _ wd140)
  obtain ⟨c4, i4, hKn4⟩ := u_known (C := RX6) (T := TX6) (N := 2) (n := 2) htz uw_4 (htz _ wd56)
  obtain ⟨c5, i5, hKn5⟩ := u_known (C := RX7) (T := TX7) (N := 4) (n := 4) htz uw_5 (htz _ wd120)
  obtain ⟨c6, i6, hKn6⟩ := u_known (C := RX8) (T := TX8) (N := 6) (n := 6) htz uw_6 (htz _ wd62)
  obtain ⟨c7, i7, hKn7⟩ := u_known (C := RX9) (T := TX9) (N := 8) (n := 8) htz uw_7 (htz _ wd48)
  obtain ⟨c8, i8, hKn8⟩ := u_known (C := RX10) (T := TX10) (N := 28) (n := 28) htz uw_8 (htz _ wd662)
  obtain ⟨dC, dI, hKc⟩ : ∃ (dC : Nat → ClassId) (dI : Nat → Nat → Nat), ∀ (k : Nat) (q : vw_C), classes[k]? = some q → u_Kn s q.1 q.2.1 q.2.2 (dC k) (dI k) := by
    refine ⟨fun k => if k = 0 then c0 else if k = 1 then c1 else if k = 2 then c2 else if k = 3 then c3 else if k = 4 then c4 else if k = 5 then c5 else if k = 6 then c6 else if k = 7 then c7 else c8, fun k => if k = 0 then i0 else if k = 1 then i1 else if k = 2 then i2 else if k = 3 then i3 else if k = 4 then i4 else if k = 5 then i5 else if k = 6 then i6 else if k = 7 then i7 else i8, ?_⟩
    intro k q hq
    match k, hq with
    | 0, hq => cases hq; exact hKn0
    | 1, hq => cases hq; exact hKn1
    | 2, hq => cases hq; exact hKn2
    | 3, hq => cases hq; exact hKn3
    | 4, hq => cases hq; exact hKn4
    | 5, hq => cases hq; exact hKn5
    | 6, hq => cases hq; exact hKn6
    | 7, hq => cases hq; exact hKn7
    | 8, hq => cases hq; exact hKn8
    | k + 9, hq => simp [classes] at hq
  obtain ⟨cI, kI, oI, fI1, fI2, fI3⟩ := Cond.arrayClass_spec (hts (.arrayClass .int) (List.mem_of_getElem? (i := 90) (by decide +kernel)))
  obtain ⟨cZ, kZ, oZ, fZ1, fZ2, fZ3⟩ := Cond.arrayClass_spec (hts (.arrayClass .boolean) (List.mem_of_getElem? (i := 752) (by decide +kernel)))
  have hover := hts (.arrayOver (.object RX4)) (List.mem_of_getElem? (i := 151) (by decide +kernel))
  obtain ⟨oN, cN, kN, fN1, fN2, fN3, fN4, fN5⟩ := Cond.arrayOver_spec hover
  have hEK : ∀ adr : Nat → Nat, EK (dC, dI, adr, cI, cZ, cN) s := by
    intro adr
    refine ⟨hKc, fun k q hq => ?_⟩
    match k, hq with
    | 0, hq => cases hq; exact ⟨fun n z => ⟨fun k h => (by cases h), kI, fI2, oI, fI3⟩, fI1⟩
    | 1, hq => cases hq; exact ⟨fun n z => ⟨fun k h => (by cases h), kZ, fZ2, oZ, fZ3⟩, fZ1⟩
    | 2, hq => cases hq; exact ⟨fun n z => ⟨fun k h => (by cases h), kN, fN3, oN, fN4⟩, kN, oN, fN3, fN4, fN1, fN5⟩
    | k + 3, hq => simp [tys3] at hq
  have hNW : NWs s := ⟨fun w hw => by
    obtain ⟨a, i, y, g, rfl⟩ := nstw_form w hw
    exact va_Nw.of rfl (hts _ (nstw_in _ hw)), va_AO.of hover⟩
  have hlv := lv_entry ([.ref b]) (n := 4) (Nat.le_of_ble_eq_true rfl)
  rw [lg_entry_eq]
  obtain ⟨x, hxd⟩ : ∃ x : Fx, x = (p, l, e, room_1, s, m, #[Value.ref b], below, meth, c, (fun q => s.heap.size ≤ q), 0, 0) := ⟨_, rfl⟩
  have S : ZC x (dC, dI, (fun _ => 0), cI, cZ, cN) room_1 code 4 RL ret := by
    subst hxd
    exact ⟨hx, hb, hml, hown, htz, hr, hlocks, hEK _, fun q h => h, rfl, hNW⟩
  have key : Wc x (dC, dI, (fun _ => 0), cI, cZ, cN) 4 (lw_Z below #[Value.ref b] s) [] 0 0 0 [(0, .ref b)] [] := by
    refine y_new (fs := [.null, .null, .null, .null, .null, .int 0, .null, .null]) S cf_7 wd47 wd48 wd34 (fun j hj => by rcases (show j = 0 ∨ j = 1 ∨ j = 2 ∨ j = 3 ∨ j = 4 ∨ j = 5 ∨ j = 6 ∨ j = 7 by omega) with rfl | rfl | rfl | rfl | rfl | rfl | rfl | rfl <;> rfl) rfl rfl (by decide +kernel) (by decide +kernel) dL_law_0 (fun q1 => ?_)
    refine y_dup S dL_law_3 rfl ?_
    refine y_ctorP (wr := []) S [0] [] (c_X9_init (xl x) (dC, dI, (fun _ => 0), cI, cZ, cN)) mo_X9_init rfl wd50 wd49 rfl rfl (by decide +kernel) rfl rfl (by decide +kernel) (by decide +kernel) rfl rfl (by decide) (by decide) (Nat.le_of_ble_eq_true rfl) dL_law_4 (fun u1 => ?_)
    refine y_astore_n (lv' := [(1, .ref q1), (0, .ref b)]) S dL_law_7 rfl (by decide) rfl ?_
    refine y_new (fs := [.int 0, .int 0, .null, .null, .null, .null, .null, .int 0, .null, .null, .int 0, .null, .long 0, .null, .int 0, .int 0, .int 0, .int 0, .int 0, .int 0, .int 0, .int 0, .null, .null, .null, .null, .null, .int 0]) S cf_8 wd661 wd662 wd42 (fun j hj => by rcases (show j = 0 ∨ j = 1 ∨ j = 2 ∨ j = 3 ∨ j = 4 ∨ j = 5 ∨ j = 6 ∨ j = 7 ∨ j = 8 ∨ j = 9 ∨ j = 10 ∨ j = 11 ∨ j = 12 ∨ j = 13 ∨ j = 14 ∨ j = 15 ∨ j = 16 ∨ j = 17 ∨ j = 18 ∨ j = 19 ∨ j = 20 ∨ j = 21 ∨ j = 22 ∨ j = 23 ∨ j = 24 ∨ j = 25 ∨ j = 26 ∨ j = 27 by omega) with rfl | rfl | rfl | rfl | rfl | rfl | rfl | rfl | rfl | rfl | rfl | rfl | rfl | rfl | rfl | rfl | rfl | rfl | rfl | rfl | rfl | rfl | rfl | rfl | rfl | rfl | rfl | rfl <;> rfl) rfl rfl (by decide +kernel) (by decide +kernel) dL_law_8 (fun q2 => ?_)
    refine y_dup S dL_law_11 rfl ?_
    refine y_ctorP (wr := [(q1, .inr (7, [.ref (u1.getD 0 0), .ref (u1.getD 4 0), .ref (u1.getD 8 0), .ref (u1.getD 12 0), .ref (u1.getD 13 0), .int 0, .ref (u1.getD 14 0), .ref (u1.getD 24 0)])), ((u1.getD 0 0), .inr (4, [.ref (u1.getD 1 0), .ref (u1.getD 3 0)])), ((u1.getD 1 0), .inr (6, [.ref (u1.getD 2 0), .int 0, .int 0, .int 0, .int 0, .int 0])), ((u1.getD 2 0), .inl (cI, 200, .inl (fun _ => 0))), ((u1.getD 3 0), .inl (cI, 3, .inl (fun _ => 0))), ((u1.getD 4 0), .inr (0, [.int 0, .ref (u1.getD 5 0), .ref (u1.getD 6 0), .ref (u1.getD 7 0)])), ((u1.getD 5 0), .inl (cI, 10, .inl (fun _ => 0))), ((u1.getD 6 0), .inl (cI, 10, .inl (fun _ => 0))), ((u1.getD 7 0), .inl (cI, 10, .inl (fun _ => 0))), ((u1.getD 8 0), .inr (5, [.int 0, .ref (u1.getD 9 0), .ref (u1.getD 10 0), .ref (u1.getD 11 0)])), ((u1.getD 9 0), .inl (cI, 5, .inl (fun _ => 0))), ((u1.getD 10 0), .inl (cI, 5, .inl (fun _ => 0))), ((u1.getD 11 0), .inl (cI, 5, .inl (fun _ => 0))), ((u1.getD 12 0), .inr (3, [.long 0])), ((u1.getD 13 0), .inl (cN, 2, .inr (.inr (.inr (.inr (va_up (va_up (fun _ => none) (0 : Int32).toNatClampNeg (some (u1.getD 34 0))) (1 : Int32).toNatClampNeg (some (u1.getD 40 0)))))))), ((u1.getD 14 0), .inr (1, [.int 0, .int 0, .ref (u1.getD 15 0), .ref (u1.getD 16 0), .ref (u1.getD 17 0), .ref (u1.getD 18 0)])), ((u1.getD 15 0), .inl (cI, 7, .inl (fun _ => 0))), ((u1.getD 16 0), .inl (cI, 6, .inl (fun _ => 0))), ((u1.getD 17 0), .inl (cI, 6, .inl (fun _ => 0))), ((u1.getD 18 0), .inr (2, [.int 0, .int 0, .int 0, .ref (u1.getD 19 0), .ref (u1.getD 20 0), .ref (u1.getD 21 0), .ref (u1.getD 22 0), .ref (u1.getD 23 0)])), ((u1.getD 19 0), .inl (cI, 6, .inl (fun _ => 0))), ((u1.getD 20 0), .inl (cI, 7, .inl (fun _ => 0))), ((u1.getD 21 0), .inl (cI, 10, .inl (fun _ => 0))), ((u1.getD 22 0), .inl (cI, 10, .inl (fun _ => 0))), ((u1.getD 23 0), .inl (cI, 10, .inl (fun _ => 0))), ((u1.getD 24 0), .inr (1, [.int 0, .int 0, .ref (u1.getD 25 0), .ref (u1.getD 26 0), .ref (u1.getD 27 0), .ref (u1.getD 28 0)])), ((u1.getD 25 0), .inl (cI, 7, .inl (fun _ => 0))), ((u1.getD 26 0), .inl (cI, 6, .inl (fun _ => 0))), ((u1.getD 27 0), .inl (cI, 6, .inl (fun _ => 0))), ((u1.getD 28 0), .inr (2, [.int 0, .int 0, .int 0, .ref (u1.getD 29 0), .ref (u1.getD 30 0), .ref (u1.getD 31 0), .ref (u1.getD 32 0), .ref (u1.getD 33 0)])), ((u1.getD 29 0), .inl (cI, 6, .inl (fun _ => 0))), ((u1.getD 30 0), .inl (cI, 7, .inl (fun _ => 0))), ((u1.getD 31 0), .inl (cI, 10, .inl (fun _ => 0))), ((u1.getD 32 0), .inl (cI, 10, .inl (fun _ => 0))), ((u1.getD 33 0), .inl (cI, 10, .inl (fun _ => 0))), ((u1.getD 34 0), .inr (2, [.int 0, .int 0, .int 0, .ref (u1.getD 35 0), .ref (u1.getD 36 0), .ref (u1.getD 37 0), .ref (u1.getD 38 0), .ref (u1.getD 39 0)])), ((u1.getD 35 0), .inl (cI, 6, .inl (fun _ => 0))), ((u1.getD 36 0), .inl (cI, 7, .inl (fun _ => 0))), ((u1.getD 37 0), .inl (cI, 10, .inl (fun _ => 0))), ((u1.getD 38 0), .inl (cI, 10, .inl (fun _ => 0))), ((u1.getD 39 0), .inl (cI, 10, .inl (fun _ => 0))), ((u1.getD 40 0), .inr (2, [.int 0, .int 0, .int 0, .ref (u1.getD 41 0), .ref (u1.getD 42 0), .ref (u1.getD 43 0), .ref (u1.getD 44 0), .ref (u1.getD 45 0)])), ((u1.getD 41 0), .inl (cI, 6, .inl (fun _ => 0))), ((u1.getD 42 0), .inl (cI, 7, .inl (fun _ => 0))), ((u1.getD 43 0), .inl (cI, 10, .inl (fun _ => 0))), ((u1.getD 44 0), .inl (cI, 10, .inl (fun _ => 0))), ((u1.getD 45 0), .inl (cI, 10, .inl (fun _ => 0)))]) S [47] [0, 1, 2, 3, 4, 5, 6, 7, 8, 9, 10, 11, 12, 13, 14, 15, 16, 17, 18, 19, 20, 21, 22, 23, 24, 25, 26, 27, 28, 29, 30, 31, 32, 33, 34, 35, 36, 37, 38, 39, 40, 41, 42, 43, 44, 45, 46] (c_X10_init (xl x) (dC, dI, (fun _ => 0), cI, cZ, cN)) mo_X10_init rfl wd664 wd663 rfl rfl (by decide +kernel) rfl rfl (by decide +kernel) (by decide +kernel) rfl rfl (by decide) (by decide) (Nat.le_of_ble_eq_true rfl) dL_law_12 (fun u2 => ?_)
    refine y_astore_n (lv' := [(2, .ref q2), (1, .ref q1), (0, .ref b)]) S dL_law_15 rfl (by decide) rfl ?_
    refine y_iconst (v := 0) S dL_law_16 (by decide) ?_
    refine y_istore_n (lv' := [(3, .int 0), (2, .ref q2), (1, .ref q1), (0, .ref b)]) S dL_law_17 rfl (by decide) rfl ?_
    obtain ⟨adr, hadr⟩ : ∃ adr : Nat → Nat, adr = fun c => ([q1, (u1.getD 0 0), (u1.getD 1 0), (u1.getD 2 0), (u1.getD 3 0), (u1.getD 4 0), (u1.getD 5 0), (u1.getD 6 0), (u1.getD 7 0), (u1.getD 8 0), (u1.getD 9 0), (u1.getD 10 0), (u1.getD 11 0), (u1.getD 12 0), (u1.getD 13 0), (u1.getD 34 0), (u1.getD 35 0), (u1.getD 36 0), (u1.getD 37 0), (u1.getD 38 0), (u1.getD 39 0), (u1.getD 40 0), (u1.getD 41 0), (u1.getD 42 0), (u1.getD 43 0), (u1.getD 44 0), (u1.getD 45 0), (u1.getD 14 0), (u1.getD 15 0), (u1.getD 16 0), (u1.getD 17 0), (u1.getD 18 0), (u1.getD 19 0), (u1.getD 20 0), (u1.getD 21 0), (u1.getD 22 0), (u1.getD 23 0), (u1.getD 24 0), (u1.getD 25 0), (u1.getD 26 0), (u1.getD 27 0), (u1.getD 28 0), (u1.getD 29 0), (u1.getD 30 0), (u1.getD 31 0), (u1.getD 32 0), (u1.getD 33 0), q2, (u2.getD 0 0), (u2.getD 1 0), (u2.getD 2 0), (u2.getD 3 0), (u2.getD 4 0), (u2.getD 5 0), (u2.getD 6 0), (u2.getD 7 0), (u2.getD 8 0), (u2.getD 9 0), (u2.getD 10 0), (u2.getD 11 0), (u2.getD 12 0), (u2.getD 13 0)] : List Nat).getD c 0 := ⟨_, rfl⟩
    refine y_reQ 14 (fun j => some (adr (rho0 14 j))) (f := va_up (va_up (fun _ => none) (0 : Int32).toNatClampNeg (some (u1.getD 34 0))) (1 : Int32).toNatClampNeg (some (u1.getD 40 0))) (a := (u1.getD 13 0)) (cA := cN) (n := 2) rfl (fun j hj => ?_) rfl ?_
    · rcases (show j = 0 ∨ j = 1 by omega) with rfl | rfl <;> (subst hadr; rfl)
    refine y_sub (ws' := wl (dC, dI, adr, cI, cZ, cN) P0) [0, 1, 2, 3, 4, 5, 6, 7, 8, 9, 10, 11, 12, 13, 14, 35, 36, 37, 38, 39, 40, 41, 42, 43, 44, 45, 46, 15, 16, 17, 18, 19, 20, 21, 22, 23, 24, 25, 26, 27, 28, 29, 30, 31, 32, 33, 34, 47, 48, 49, 50, 51, 52, 53, 54, 55, 56, 57, 58, 59, 60, 61] (by decide +kernel) (by subst hadr; rfl) ?_
    intro H locs ls h1 h2 h4 h3
    have hinj : EvOK (dC, dI, adr, cI, cZ, cN) := fun i j hi hj hij => h2.1 i j _ _ (wl_get hi) (wl_get hj) hij
    have hA : ∀ c, c < NC → xA x (ad (dC, dI, adr, cI, cZ, cN) c) := fun c hc => h2.2 c _ (wl_get hc)
    have e1 : ad (dC, dI, adr, cI, cZ, cN) 0 = q1 := by subst hadr; rfl
    have e2 : ad (dC, dI, adr, cI, cZ, cN) 47 = q2 := by subst hadr; rfl
    subst hxd
    have S2 : ZS (p, l, e, room_1, s, m, #[Value.ref b], below, meth, c, (fun q => s.heap.size ≤ q), 62, 1502) (dC, dI, adr, cI, cZ, cN) room_1 code 4 RL ret := ⟨hx, hb, hml, hown, htz, hr, hlocks, hEK _, hinj, hA, rfl, (show 62 ≤ 100 by decide), (show 1502 ≤ 2000 by decide)⟩
    have X : LWs (p, l, e, room_1, s, m, #[Value.ref b], below, meth, c, (fun q => s.heap.size ≤ q), 62, 1502) b L xs := ⟨hX, hbl, rfl, rfl⟩
    have hz := w_law_L18 S2 X n P0 0 hpure
    rw [e1, e2] at hz
    exact hz H locs ls ⟨h1, WT_P0⟩ h4 (lv_sub h3 [3, 2, 1, 0] rfl)
  subst hxd
  exact key s.heap [] _ (fun k q h => by simp at h) ⟨fun i j p q h => by simp at h, fun k q h => by simp at h⟩ va_S.rf hlv
