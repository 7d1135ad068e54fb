/-! all items -/
section LOP
variable {T : Nat → Nat} {tl : Nat} {P C R : PH} {sw : Bool} {g : SG} {d : SD}
theorem mso_le {so v : Nat} (h : so ≤ 3) : mso so v ≤ 4 := by
  unfold mso
  split
  · split
    · omega
    · split <;> omega
  · split <;> omega
theorem mso_3 {so v : Nat} (h : so ≤ 3) : nI (mso so v) = 3 ↔ so = 1 ∧ v = 59 := by
  have h3 := mso_le (v := v) h
  have h2 : mso so v = 3 ↔ so = 1 ∧ v = 59 := by
    unfold mso
    by_cases h1 : so = 1
    · rw [if_pos h1]
      by_cases h4 : v = 112 ∨ v = 114 ∨ v = 100 ∨ v = 98 ∨ v = 119 ∨ v = 120
      · rw [if_pos h4]
        omega
      · rw [if_neg h4]
        split <;> omega
    · rw [if_neg h1]
      split <;> omega
  rw [← h2]
  exact nI_eq (b := 3) (by omega) (by omega)
def isSg (v : Nat) : Prop := v = 112 ∨ v = 114 ∨ v = 100 ∨ v = 98 ∨ v = 119 ∨ v = 120
theorem mso_1 {so v : Nat} (h : so ≤ 3) : nI (mso so v) = 1 ↔ so = 1 ∧ isSg v := by
  have h3 := mso_le (v := v) h
  have h2 : mso so v = 1 ↔ so = 1 ∧ isSg v := by
    unfold mso isSg
    by_cases h1 : so = 1
    · rw [if_pos h1]
      by_cases h4 : v = 112 ∨ v = 114 ∨ v = 100 ∨ v = 98 ∨ v = 119 ∨ v = 120
      · rw [if_pos h4]
        exact ⟨fun _ => ⟨h1, h4⟩, fun _ => rfl⟩
      · rw [if_neg h4]
        constructor
        · intro q
          exfalso
          revert q
          split <;> omega
        · rintro ⟨-, q⟩
          exact absurd q h4
    · rw [if_neg h1]
      constructor
      · intro q
        exfalso
        revert q
        split <;> omega
      · rintro ⟨q, -⟩
        exact absurd q h1
  rw [← h2]
  exact nI_eq (b := 1) (by omega) (by omega)
theorem mso_0 {so v : Nat} (h : so ≤ 3) : nI (mso so v) = 0 ↔ so = 0 := by
  have h3 := mso_le (v := v) h
  have h2 : mso so v = 0 ↔ so = 0 := by
    unfold mso
    by_cases h1 : so = 1
    · rw [if_pos h1]
      split
      · omega
      · split <;> omega
    · rw [if_neg h1]
      split <;> omega
  rw [← h2]
  exact nI_eq (b := 0) (by omega) (by omega)
def semi (T : Nat → Nat) (tl e : Nat) : Prop := (tk1 T tl (tst T tl e)).1 = 1 ∧ vlT T tl e = 59
theorem m_semi (X : HXM P sw T tl) {e : Nat} (he : e ≤ tl) (M : MOT T tl sw P R g d e) :
    (semi T tl e → ∃ R', f_X10_readItem_J158 R 47 = some R' ∧ MOT T tl sw P R' g d (nxT T tl e)) ∧ (¬ semi T tl e → ∃ R', f_X10_readItem_J158 R 47 = some R' ∧ MF sw P R' (tst T tl e)) := by
  obtain ⟨B, h0, k1, k2, k3, k4⟩ := M
  have hin := tk1_in T X.2.2.1 (tst_le T he).2
  unfold f_X10_readItem_J158
  rw [if_pos h0, show R.1 47 17 = nI (mso (tk1 T tl (tst T tl e)).1 (vlT T tl e)) from k1]
  constructor
  · intro hs
    have A0 := B.1.tr (ag_47 sw R (j := 19) 0 (by decide))
    obtain ⟨R', a1, a2, a3⟩ := m_next (T := T) (tl := tl) (P := sI R 47 19 0) (X.mr A0) (A0.txm X.2) (e := nxT T tl e) (by rw [s47_ne _ _ (by decide)]; exact k4) hin.2.1
    rw [if_pos ((mso_3 hin.2.2.2.1).mpr hs), s47_eq, if_pos rfl, a1, Option.bind_some]
    refine ⟨R', rfl, (B.f5 (F5.st R 0)).f5 a2.f5, ?_, a3⟩
    rw [a2.2.2 19 (by decide), s47_eq]
  · intro hs
    rw [if_neg (fun q => hs ((mso_3 hin.2.2.2.1).mp q)), s47_eq, if_neg (by decide)]
    exact ⟨_, rfl, MF.st B.1 k2⟩
theorem m_semiF {f : Nat} (M : MF sw P R f) : ∃ R', f_X10_readItem_J158 R 47 = some R' ∧ MF sw P R' f := by
  unfold f_X10_readItem_J158
  rw [M.2.1, if_neg (by decide), s47_eq, if_neg (by decide)]
  exact ⟨_, rfl, MF.st M.1 M.2.2⟩
def full (g : SG) (d : SD) (v : Nat) : Bool := (v == 112 && g_np g == 6) || ((v == 114 && g_nr g == 7) || (v == 120 && d_k d == 10))
theorem m_ri (X : HXM P sw T tl) (V : VBB g d) (B : RB sw P R g d) {v : Nat} (hv : v < 1000) (h18 : R.1 47 18 = nI v) : f_X10_readItem R 47 = f_X10_readItem_J74 R 47 (nI v) (full g d v) := by
  have v1 := V.1.1
  have v2 := V.1.2.1
  have v3 := V.2.2.2.1
  have r60 : R.2.2 47 25 = 60 := by rw [X.mr B.1]; rfl
  have nq : ∀ c : Nat, c < 1000 → (nI v = nI c ↔ v = c) := fun c hc => nI_eq (by omega) (by omega)
  unfold f_X10_readItem f_X10_readItem_J73
  rw [h18, B.2.1, B.2.2.1, g_15, t_15, r60, B.2.2.2.2.2.2.2.2.2.2.1]
  unfold full
  by_cases h1 : v = 112
  · rw [if_pos (show nI v = 112 from (nq 112 (by decide)).mpr h1)]
    by_cases h2 : g_np g = 6
    · rw [if_pos (by rw [h2]; rfl), h1, h2]
      rfl
    · rw [if_neg (fun q : nI (g_np g) = 6 => h2 ((nI_eq (b := 6) (by omega) (by omega)).mp q)), h1, beq_false_of_ne h2]
      rfl
  · rw [if_neg (fun q : nI v = 112 => h1 ((nq 112 (by decide)).mp q)), beq_false_of_ne h1]
    by_cases h3 : v = 114
    · rw [if_pos (show nI v = 114 from (nq 114 (by decide)).mpr h3)]
      by_cases h2 : g_nr g = 7
      · rw [if_pos (by rw [h2]; rfl), h3, h2]
        rfl
      · rw [if_neg (fun q : nI (g_nr g) = 7 => h2 ((nI_eq (b := 7) (by omega) (by omega)).mp q)), h3, beq_false_of_ne h2]
        rfl
    · rw [if_neg (fun q : nI v = 114 => h3 ((nq 114 (by decide)).mp q)), beq_false_of_ne h3]
      by_cases h4 : v = 120
      · rw [if_pos (show nI v = 120 from (nq 120 (by decide)).mpr h4)]
        by_cases h2 : d_k d = 10
        · rw [if_pos (by rw [h2]; rfl), h4, h2]
          rfl
        · rw [if_neg (fun q : nI (d_k d) = 10 => h2 ((nI_eq (b := 10) (by omega) (by omega)).mp q)), h4, beq_false_of_ne h2]
          rfl
      · rw [if_neg (fun q : nI v = 120 => h4 ((nq 120 (by decide)).mp q)), beq_false_of_ne h4]
        rfl
theorem c_place (V : VBB g d) (X : HX P sw T tl) (B : CB sw P C g d) {v : Nat} (hv : v < 1000) : (isSg v → f_X6_hasPlaceFor C (nI v) (hs (!sw)) = some (!full g d v)) ∧ (¬ isSg v → f_X6_hasPlaceFor C (nI v) (hs (!sw)) = some false) := by
  have v1 := V.1.1
  have v2 := V.1.2.1
  have v3 := V.2.2.2.1
  have hw := hs_w (!sw)
  have r5 : C.2.2 (hs (!sw)) 5 = hs (!sw) + 4 := by rw [B.rf X (by omega)]; exact (rho_h (!sw)).2.2.2.1
  have nq : ∀ c : Nat, c < 1000 → (nI v = nI c ↔ v = c) := fun c hc => nI_eq (by omega) (by omega)
  unfold f_X6_hasPlaceFor
  rw [B.2.1, B.2.2.1, r5, B.2.2.2.2.2.2.2.2.1]
  constructor
  · intro hs
    rcases hs with h | h | h | h | h | h
    · rw [if_neg (by rw [h]; decide), if_neg (by rw [h]; decide), if_pos (by rw [h]; rfl)]
      unfold full
      rw [h]
      by_cases h2 : g_np g = 6
      · rw [h2]; rfl
      · rw [if_neg (show ¬ (6 : Int32) ≤ nI (g_np g) from nI_ge (b := 6) (by omega) (by omega)), beq_false_of_ne h2]
        rfl
    · rw [if_neg (by rw [h]; decide), if_neg (by rw [h]; decide), if_neg (by rw [h]; decide), if_pos (by rw [h]; rfl)]
      unfold full
      rw [h]
      by_cases h2 : g_nr g = 7
      · rw [h2]; rfl
      · rw [if_neg (show ¬ (7 : Int32) ≤ nI (g_nr g) from nI_ge (b := 7) (by omega) (by omega)), beq_false_of_ne h2]
        rfl
    · rw [if_neg (by rw [h]; decide), if_pos (by rw [h]; rfl), h]
      rfl
    · rw [if_pos (by rw [h]; rfl), h]
      rfl
    · rw [if_neg (by rw [h]; decide), if_neg (by rw [h]; decide), if_neg (by rw [h]; decide), if_neg (by rw [h]; decide), if_pos (by rw [h]; rfl), h]
      rfl
    · rw [if_neg (by rw [h]; decide), if_neg (by rw [h]; decide), if_neg (by rw [h]; decide), if_neg (by rw [h]; decide), if_neg (by rw [h]; decide), if_pos (by rw [h]; rfl)]
      unfold full
      rw [h]
      by_cases h2 : d_k d = 10
      · rw [h2]; rfl
      · rw [if_neg (show ¬ (10 : Int32) ≤ nI (d_k d) from nI_ge (b := 10) (by omega) (by omega)), beq_false_of_ne h2]
        rfl
  · intro hs
    unfold isSg at hs
    rw [if_neg (fun q : nI v = 98 => hs (by have := (nq 98 (by decide)).mp q; omega)), if_neg (fun q : nI v = 100 => hs (by have := (nq 100 (by decide)).mp q; omega)), if_neg (fun q : nI v = 112 => hs (by have := (nq 112 (by decide)).mp q; omega)), if_neg (fun q : nI v = 114 => hs (by have := (nq 114 (by decide)).mp q; omega)), if_neg (fun q : nI v = 119 => hs (by have := (nq 119 (by decide)).mp q; omega)), if_neg (fun q : nI v = 120 => hs (by have := (nq 120 (by decide)).mp q; omega))]
/-- an item from its letter on -/
def ITEM (T : Nat → Nat) (tl : Nat) (sw : Bool) (P : PH) (g : SG) (d : SD) (e : Nat) : Prop :=
  ∃ (ok : Bool) (x : Nat) (g' : SG) (d' : SD), x ≤ tl ∧ (ok = true → VBB g' d' ∧ e < x) ∧
    (∀ C, CB sw P C g d → CK C.1 (tst T tl e) (tk1 T tl (tst T tl e)) → ∃ C', f_X6_readItem C 1 (hs (!sw)) = some (ok, C') ∧ Ag sw P C' ∧ (ok = true → CB sw P C' g' d' ∧ C'.1 2 5 = nI x) ∧ (ok = false → C'.1 2 3 = nI x)) ∧
    (∀ P' sw' R, HXM P' sw' T tl → MOT T tl sw' P' R g d e → ∃ R', f_X10_readItem R 47 = some R' ∧ (ok = true → MOT T tl sw' P' R' g' d' x) ∧ (ok = false → MF sw' P' R' x))
theorem item_num (X : HX P sw T tl) (V : VBB g d) {e : Nat} (he : e ≤ tl) (h1 : (tk1 T tl (tst T tl e)).1 = 1) (hsg : isSg (vlT T tl e)) (hf : full g d (vlT T tl e) = false) {cnt : Nat} {rd : PH → Option PH} (hM : ∀ C, f_X6_howManyNumbers C (nI (vlT T tl e)) = some (nI cnt))
    (hrd : ∀ R1, (if nI (vlT T tl e) = (100 : Int32) then ((f_X10_readDoor R1 47).bind fun q6 => f_X10_readItem_J158 q6 47) else (if nI (vlT T tl e) = (112 : Int32) then ((f_X10_readPerson R1 47).bind fun q8 => f_X10_readItem_J158 q8 47) else (if nI (vlT T tl e) = (114 : Int32) then ((f_X10_readRoom R1 47).bind fun q10 => f_X10_readItem_J158 q10 47) else ((f_X10_readPlace R1 47 (nI (vlT T tl e))).bind fun q11 => f_X10_readItem_J158 q11 47)))) = ((rd R1).bind fun q => f_X10_readItem_J158 q 47))
    (N : NUM T tl sw P g d (nxT T tl e) (nI (vlT T tl e)) cnt rd) : ITEM T tl sw P g d e := by
  have hst := tst_le T he
  have hin := tk1_in T X.2.2.1 hst.2
  have he1 := nxT_le X.2.2.1 he
  have hv := vl_lt X he
  obtain ⟨b, y, g', d', n1, n2, n3, n4⟩ := N
  have hmod : ∀ P' sw' R, HXM P' sw' T tl → MOT T tl sw' P' R g d e → ∃ R1, f_X10_readItem R 47 = ((rd R1).bind fun q => f_X10_readItem_J158 q 47) ∧ RB sw' P' R1 g d ∧ R1.1 47 19 = 0 ∧ TK T tl R1 (nxT T tl e) := by
    intro P' sw' R X' M
    obtain ⟨B, h0, k⟩ := M
    obtain ⟨R1, a1, a2, a3⟩ := m_next (T := T) (tl := tl) (P := R) (X'.mr B.1) (B.1.txm X'.2) (e := nxT T tl e) k.2.2.2 he1.2
    refine ⟨R1, ?_, B.f5 a2.f5, by rw [a2.2.2 19 (by decide)]; exact h0, a3⟩
    rw [m_ri X' V B hv k.2.2.1]
    unfold f_X10_readItem_J74
    rw [hf, show R.1 47 17 = nI (mso (tk1 T tl (tst T tl e)).1 (vlT T tl e)) from k.1, if_pos ((mso_1 hin.2.2.2.1).mpr ⟨h1, hsg⟩), if_b2i, if_neg (show ¬ false = true by decide), a1, Option.bind_some]
    exact hrd R1
  have hcls : ∀ C, CB sw P C g d → CK C.1 (tst T tl e) (tk1 T tl (tst T tl e)) → f_X6_readItem C 1 (hs (!sw)) = f_X6_readItem_L43 (fun P14 => some (false, P14)) (fun P15 => ((f_X8_next P15 (P15.2.2 1 0)).bind fun q17 => (if (q17.1 (q17.2.2 1 0) 2) = (1 : Int32) then (if (q17.1 (q17.2.2 1 0) 4) = (59 : Int32) then ((f_X6_tell q17 1 (nI (vlT T tl e)) (hs (!sw))).bind fun q20 => some (true, q20)) else some (false, q17)) else some (false, q17)))) 1 (hs (!sw)) (nI (vlT T tl e)) (nI cnt) 1000 C (nI 0) := by
    intro C B k
    have r1 : C.2.2 1 0 = 2 := by rw [B.rf X (by decide)]; rfl
    have k4 : C.1 2 4 = nI (vlT T tl e) := k.2.2.1 (by omega)
    have hp := (c_place V X B hv).1 hsg
    rw [hf] at hp
    unfold f_X6_readItem
    rw [r1, k.1, h1, if_pos (show nI 1 = 1 from rfl), k4, hp, Option.bind_some, if_b2i, if_pos (show (!false) = true from rfl), hM, Option.bind_some]
    rfl
  cases b
  · refine ⟨false, y, g, d, n1, (fun q => by cases q), fun C B k => ?_, fun P' sw' R X' M => ?_⟩
    · obtain ⟨C1, a1, a2, a3⟩ := (n3 C 1000 _ _ B k.2.2.2 (by decide)).2 rfl
      exact ⟨C1, (hcls C B k).trans a1, a2, (fun q => by cases q), fun _ => a3⟩
    · obtain ⟨R1, a1, a2, a3, a4⟩ := hmod P' sw' R X' M
      obtain ⟨R2, b1, -, b3⟩ := n4 P' sw' R1 X' a2 a4 a3
      obtain ⟨R3, c1, c2⟩ := m_semiF (b3 rfl)
      refine ⟨R3, ?_, (fun q => by cases q), fun _ => c2⟩
      rw [a1, b1, Option.bind_some, c1]
  · have hy := n2 rfl
    have hsty := tst_le T n1
    have hiny := tk1_in T X.2.2.1 hsty.2
    by_cases hsm : semi T tl y
    · have hlt : tst T tl y < tl := by
        rcases Nat.lt_or_ge (tst T tl y) tl with h | h
        · exact h
        · exfalso
          have h2 := hiny.2.2.2.2.1.mpr (by omega)
          have := hsm.1
          omega
      have hnx : tst T tl y < nxT T tl y := hiny.2.2.2.2.2 hlt
      have hnl : nxT T tl y ≤ tl := hiny.2.1
      refine ⟨true, nxT T tl y, g', d', hnl, fun _ => ⟨hy.1, by omega⟩, fun C B k => ?_, fun P' sw' R X' M => ?_⟩
      · obtain ⟨C2, a1, a2, a3, a4⟩ := (n3 C 1000 (fun P14 => some (false, P14)) (fun P15 => ((f_X8_next P15 (P15.2.2 1 0)).bind fun q17 => (if (q17.1 (q17.2.2 1 0) 2) = (1 : Int32) then (if (q17.1 (q17.2.2 1 0) 4) = (59 : Int32) then ((f_X6_tell q17 1 (nI (vlT T tl e)) (hs (!sw))).bind fun q20 => some (true, q20)) else some (false, q17)) else some (false, q17)))) B k.2.2.2 (by decide)).1 rfl
        have r1 : C2.2.2 1 0 = 2 := by rw [a2.rf X (by decide)]; rfl
        have r2 : C2.2.2 2 0 = 3 := by rw [a2.rf X (by decide)]; rfl
        obtain ⟨C3, b1, b2, b3⟩ := c_next r2 (a2.1.txt X.2) a3 n1
        have B3 := a2.f2 b2
        have r3 : C3.2.2 1 0 = 2 := by rw [B3.rf X (by decide)]; rfl
        obtain ⟨C', c1, c2, c3⟩ := a4 C3 B3 (b2.2.1 4 (by decide))
        refine ⟨C', (hcls C B k).trans (a1.trans ?_), c2.1, fun _ => ⟨c2, ?_⟩, fun q => by cases q⟩
        · have e4 : C3.1 2 4 = nI (vlT T tl y) := b3.2.2.1 (by have := hsm.1; omega)
          rw [r1, b1, Option.bind_some, r3, b3.1, hsm.1, if_pos (show nI 1 = 1 from rfl), e4, hsm.2, if_pos (show nI 59 = 59 from rfl), c1, Option.bind_some]
        · rw [c3]
          exact b3.2.2.2
      · obtain ⟨R1, a1, a2, a3, a4⟩ := hmod P' sw' R X' M
        obtain ⟨R2, b1, b2, -⟩ := n4 P' sw' R1 X' a2 a4 a3
        obtain ⟨R3, c1, c2⟩ := (m_semi X' n1 (b2 rfl)).1 hsm
        refine ⟨R3, ?_, (fun _ => c2), fun q => by cases q⟩
        rw [a1, b1, Option.bind_some, c1]
    · refine ⟨false, tst T tl y, g, d, hsty.2, (fun q => by cases q), fun C B k => ?_, fun P' sw' R X' M => ?_⟩
      · obtain ⟨C2, a1, a2, a3, a4⟩ := (n3 C 1000 (fun P14 => some (false, P14)) (fun P15 => ((f_X8_next P15 (P15.2.2 1 0)).bind fun q17 => (if (q17.1 (q17.2.2 1 0) 2) = (1 : Int32) then (if (q17.1 (q17.2.2 1 0) 4) = (59 : Int32) then ((f_X6_tell q17 1 (nI (vlT T tl e)) (hs (!sw))).bind fun q20 => some (true, q20)) else some (false, q17)) else some (false, q17)))) B k.2.2.2 (by decide)).1 rfl
        have r1 : C2.2.2 1 0 = 2 := by rw [a2.rf X (by decide)]; rfl
        have r2 : C2.2.2 2 0 = 3 := by rw [a2.rf X (by decide)]; rfl
        obtain ⟨C3, b1, b2, b3⟩ := c_next r2 (a2.1.txt X.2) a3 n1
        have B3 := a2.f2 b2
        have r3 : C3.2.2 1 0 = 2 := by rw [B3.rf X (by decide)]; rfl
        refine ⟨C3, (hcls C B k).trans (a1.trans ?_), B3.1, (fun q => by cases q), fun _ => b3.2.1⟩
        rw [r1, b1, Option.bind_some, r3, b3.1]
        by_cases hs1 : (tk1 T tl (tst T tl y)).1 = 1
        · have e4 : C3.1 2 4 = nI (vlT T tl y) := b3.2.2.1 (by omega)
          have hvy : vlT T tl y < 1000 := hiny.2.2.1
          rw [hs1, if_pos (show nI 1 = 1 from rfl), e4, if_neg (fun q : nI (vlT T tl y) = 59 => hsm ⟨hs1, (nI_eq (b := 59) (by omega) (by omega)).mp q⟩)]
        · have := hiny.2.2.2.1
          rw [if_neg (fun q : nI (tk1 T tl (tst T tl y)).1 = 1 => hs1 ((nI_eq (b := 1) (by omega) (by omega)).mp q))]
      · obtain ⟨R1, a1, a2, a3, a4⟩ := hmod P' sw' R X' M
        obtain ⟨R2, b1, b2, -⟩ := n4 P' sw' R1 X' a2 a4 a3
        obtain ⟨R3, c1, c2⟩ := (m_semi X' n1 (b2 rfl)).2 hsm
        refine ⟨R3, ?_, (fun q => by cases q), fun _ => c2⟩
        rw [a1, b1, Option.bind_some, c1]
theorem item_bad (X : HX P sw T tl) (V : VBB g d) {e : Nat} (he : e ≤ tl) (h0 : (tk1 T tl (tst T tl e)).1 ≠ 0) (hb : (tk1 T tl (tst T tl e)).1 ≠ 1 ∨ ¬ isSg (vlT T tl e) ∨ full g d (vlT T tl e) = true) : ITEM T tl sw P g d e := by
  have hst := tst_le T he
  have hin := tk1_in T X.2.2.1 hst.2
  have hv := vl_lt X he
  refine ⟨false, tst T tl e, g, d, hst.2, (fun q => by cases q), fun C B k => ⟨C, ?_, B.1, (fun q => by cases q), fun _ => k.2.1⟩, fun P' sw' R X' M => ⟨sI R 47 19 1, ?_, (fun q => by cases q), fun _ => MF.st M.1.1 M.2.2.2.1⟩⟩
  · have r1 : C.2.2 1 0 = 2 := by rw [B.rf X (by decide)]; rfl
    have k4 : C.1 2 4 = nI (vlT T tl e) := k.2.2.1 h0
    unfold f_X6_readItem
    rw [r1, k.1]
    by_cases h1 : (tk1 T tl (tst T tl e)).1 = 1
    · rw [h1, if_pos (show nI 1 = 1 from rfl), k4]
      have hp : f_X6_hasPlaceFor C (nI (vlT T tl e)) (hs (!sw)) = some false := by
        by_cases hsg : isSg (vlT T tl e)
        · rw [(c_place V X B hv).1 hsg]
          rcases hb with h | h | h
          · exact absurd h1 h
          · exact absurd hsg h
          · rw [h]
            rfl
        · exact (c_place V X B hv).2 hsg
      rw [hp, Option.bind_some, if_b2i, if_neg (show ¬ false = true by decide)]
    · have := hin.2.2.2.1
      rw [if_neg (fun q : nI (tk1 T tl (tst T tl e)).1 = 1 => h1 ((nI_eq (b := 1) (by omega) (by omega)).mp q))]
  · obtain ⟨B, h19, k⟩ := M
    rw [m_ri X' V B hv k.2.2.1]
    unfold f_X10_readItem_J74
    rw [show R.1 47 17 = nI (mso (tk1 T tl (tst T tl e)).1 (vlT T tl e)) from k.1]
    by_cases h1 : (tk1 T tl (tst T tl e)).1 = 1 ∧ isSg (vlT T tl e)
    · have hf : full g d (vlT T tl e) = true := by
        rcases hb with h | h | h
        · exact absurd h1.1 h
        · exact absurd h1.2 h
        · exact h
      rw [if_pos ((mso_1 hin.2.2.2.1).mpr h1), hf, if_b2i, if_pos (show true = true from rfl)]
    · rw [if_neg (fun q => h1 ((mso_1 hin.2.2.2.1).mp q))]
theorem item (X : HX P sw T tl) (V : VBB g d) {e : Nat} (he : e ≤ tl) (h0 : (tk1 T tl (tst T tl e)).1 ≠ 0) : ITEM T tl sw P g d e := by
  have v1 := V.1.1
  have v2 := V.1.2.1
  have v3 := V.2.2.2.1
  have he1 := (nxT_le X.2.2.1 he).2
  by_cases h1 : (tk1 T tl (tst T tl e)).1 = 1
  · by_cases hsg : isSg (vlT T tl e)
    · by_cases hf : full g d (vlT T tl e) = true
      · exact item_bad X V he h0 (Or.inr (Or.inr hf))
      · have hf' : full g d (vlT T tl e) = false := by simpa using hf
        rcases hsg' : hsg with h | h | h | h | h | h
        · refine item_num X V he h1 hsg hf' (cnt := 2) (rd := fun R => f_X10_readPerson R 47) (fun C => by rw [h]; rfl) (fun R1 => by rw [h]; rfl) ?_
          rw [h]
          refine numP X he1 V ?_
          rw [h] at hf'
          have : g_np g ≠ 6 := fun q => by unfold full at hf'; rw [q] at hf'; cases hf'
          omega
        · refine item_num X V he h1 hsg hf' (cnt := 1) (rd := fun R => f_X10_readRoom R 47) (fun C => by rw [h]; rfl) (fun R1 => by rw [h]; rfl) ?_
          rw [h]
          refine numR X he1 V ?_
          rw [h] at hf'
          have : g_nr g ≠ 7 := fun q => by unfold full at hf'; rw [q] at hf'; cases hf'
          omega
        · refine item_num X V he h1 hsg hf' (cnt := 2) (rd := fun R => f_X10_readDoor R 47) (fun C => by rw [h]; rfl) (fun R1 => by rw [h]; rfl) ?_
          rw [h]
          exact numD X he1 V
        · refine item_num X V he h1 hsg hf' (cnt := 2) (rd := fun R => f_X10_readPlace R 47 98) (fun C => by rw [h]; rfl) (fun R1 => by rw [h]; rfl) ?_
          rw [h]
          exact numB X he1 V
        · refine item_num X V he h1 hsg hf' (cnt := 2) (rd := fun R => f_X10_readPlace R 47 119) (fun C => by rw [h]; rfl) (fun R1 => by rw [h]; rfl) ?_
          rw [h]
          exact numW X he1 V
        · refine item_num X V he h1 hsg hf' (cnt := 3) (rd := fun R => f_X10_readPlace R 47 120) (fun C => by rw [h]; rfl) (fun R1 => by rw [h]; rfl) ?_
          rw [h]
          refine numX X he1 V ?_
          rw [h] at hf'
          have : d_k d ≠ 10 := fun q => by unfold full at hf'; rw [q] at hf'; cases hf'
          omega
    · exact item_bad X V he h0 (Or.inr (Or.inl hsg))
  · exact item_bad X V he h0 (Or.inl h1)
end LOP
