/-! the house read, both ways -/
section HOU
variable {T : Nat → Nat} {tl : Nat} {P C R : PH} {sw : Bool} {g : SG} {d : SD}
def LOOP (T : Nat → Nat) (tl : Nat) (sw : Bool) (P : PH) (g : SG) (d : SD) (e : Nat) : Prop :=
  ∃ (ok : Bool) (cnt x : Nat) (g' : SG) (d' : SD), x ≤ tl ∧ cnt ≤ tl - e ∧ (ok = true → VBB g' d') ∧
    (∀ C n i K0 K1 K2, CB sw P C g d → C.1 2 5 = nI e → tl + 2 ≤ n + e → i + (tl - e) ≤ 200 →
      (ok = true → ∃ C', f_X6_readInto_L13 K0 K1 K2 1 (hs (!sw)) n C (nI i) = K0 C' (nI (i + cnt)) ∧ CB sw P C' g' d') ∧
      (ok = false → ∃ C', f_X6_readInto_L13 K0 K1 K2 1 (hs (!sw)) n C (nI i) = K1 C' ∧ Ag sw P C' ∧ C'.1 2 3 = nI x)) ∧
    (∀ P' sw' R n i K, HXM P' sw' T tl → MOT T tl sw' P' R g d e → tl + 2 ≤ n + e →
      (ok = true → ∃ R', f_X10_house_L97 K 47 n R (nI i) = K R' (nI (i + cnt)) ∧ RB sw' P' R' g' d' ∧ R'.1 47 19 = 0) ∧
      (ok = false → ∃ R' j, f_X10_house_L97 K 47 n R (nI i) = K R' j ∧ MF sw' P' R' x))
theorem loops (X : HX P sw T tl) : ∀ k e (g : SG) (d : SD), e ≤ tl → tl - e < k → VBB g d → LOOP T tl sw P g d e := by
  have ht := X.2.1
  intro k
  induction k with
  | zero => intro e g d _ h; omega
  | succ k ih =>
    intro e g d he hk V
    have hst := tst_le T he
    have hin := tk1_in T X.2.2.1 hst.2
    have hcls : ∀ C n i (K0 : PH → Int32 → Option (Int32 × PH)) (K1 K2 : PH → Option (Int32 × PH)), CB sw P C g d → C.1 2 5 = nI e → tl + 2 ≤ n + e → i + (tl - e) ≤ 200 → ∃ n' C1, n = n' + 1 ∧ CB sw P C1 g d ∧ CK C1.1 (tst T tl e) (tk1 T tl (tst T tl e)) ∧ f_X6_readInto_L13 K0 K1 K2 1 (hs (!sw)) n C (nI i) = (if (tk1 T tl (tst T tl e)).1 = 0 then K0 C1 (nI i) else ((f_X6_readItem C1 1 (hs (!sw))).bind fun q4 => (if (b2i q4.1) = 0 then K1 q4.2 else f_X6_readInto_L13 K0 K1 K2 1 (hs (!sw)) n' q4.2 (nI (i + 1))))) := by
      intro C n i K0 K1 K2 B h5 hn hi
      obtain ⟨n', rfl⟩ := pre_n (show 0 < n by omega)
      have r1 : C.2.2 1 0 = 2 := by rw [B.rf X (by decide)]; rfl
      have r2 : C.2.2 2 0 = 3 := by rw [B.rf X (by decide)]; rfl
      obtain ⟨C1, a1, a2, a3⟩ := c_next r2 (B.1.txt X.2) h5 he
      have B1 := B.f2 a2
      have r3 : C1.2.2 1 0 = 2 := by rw [B1.rf X (by decide)]; rfl
      refine ⟨n', C1, rfl, B1, a3, ?_⟩
      rw [f_X6_readInto_L13, if_neg (show ¬ (200 : Int32) < nI i from fun q => by have := (nI_ltI (a := 200) (by omega) (by omega)).mp q; omega), r1, a1, Option.bind_some, r3, a3.1, nI_1]
      have h3 := hin.2.2.2.1
      by_cases h0 : (tk1 T tl (tst T tl e)).1 = 0
      · rw [h0, if_pos (show nI 0 = 0 from rfl), if_pos rfl]
      · rw [if_neg (fun q : nI (tk1 T tl (tst T tl e)).1 = 0 => h0 ((nI_eq (b := 0) (by omega) (by decide)).mp q)), if_neg h0]
    have hmod : ∀ P' sw' R n i (K : PH → Int32 → Option (Int32 × PH)), HXM P' sw' T tl → MOT T tl sw' P' R g d e → tl + 2 ≤ n + e → ∃ n', n = n' + 1 ∧ f_X10_house_L97 K 47 n R (nI i) = (if (tk1 T tl (tst T tl e)).1 = 0 then K R (nI i) else ((f_X10_readItem R 47).bind fun q21 => f_X10_house_L97 K 47 n' q21 (nI (i + 1)))) := by
      intro P' sw' R n i K X' M hn
      obtain ⟨n', rfl⟩ := pre_n (show 0 < n by omega)
      refine ⟨n', rfl, ?_⟩
      rw [f_X10_house_L97, M.2.2.1, if_pos M.2.1, nI_1]
      by_cases h0 : (tk1 T tl (tst T tl e)).1 = 0
      · rw [if_pos ((mso_0 hin.2.2.2.1).mpr h0), if_pos h0]
      · rw [if_neg (fun q => h0 ((mso_0 hin.2.2.2.1).mp q)), if_neg h0]
    by_cases h0 : (tk1 T tl (tst T tl e)).1 = 0
    · refine ⟨true, 0, e, g, d, he, Nat.zero_le _, fun _ => V, fun C n i K0 K1 K2 B h5 hn hi => ⟨fun _ => ?_, fun q => by cases q⟩, fun P' sw' R n i K X' M hn => ⟨fun _ => ?_, fun q => by cases q⟩⟩
      · obtain ⟨n', C1, -, a2, -, a4⟩ := hcls C n i K0 K1 K2 B h5 hn hi
        exact ⟨C1, by rw [a4, if_pos h0]; rfl, a2⟩
      · obtain ⟨n', -, a2⟩ := hmod P' sw' R n i K X' M hn
        exact ⟨R, by rw [a2, if_pos h0]; rfl, M.1, M.2.1⟩
    · obtain ⟨ok, x, g', d', i1, i2, i3, i4⟩ := item X V he h0
      cases ok
      · refine ⟨false, 0, x, g, d, i1, Nat.zero_le _, (fun q => by cases q), fun C n i K0 K1 K2 B h5 hn hi => ⟨(fun q => by cases q), fun _ => ?_⟩, fun P' sw' R n i K X' M hn => ⟨(fun q => by cases q), fun _ => ?_⟩⟩
        · obtain ⟨n', C1, -, a2, a3, a4⟩ := hcls C n i K0 K1 K2 B h5 hn hi
          obtain ⟨C', b1, b2, -, b4⟩ := i3 C1 a2 a3
          refine ⟨C', ?_, b2, b4 rfl⟩
          rw [a4, if_neg h0, b1, Option.bind_some, if_b2i, if_neg (fun q : false = true => by cases q)]
        · obtain ⟨n', hn', a2⟩ := hmod P' sw' R n i K X' M hn
          obtain ⟨R', b1, -, b3⟩ := i4 P' sw' R X' M
          have MFx := b3 rfl
          obtain ⟨n'', rfl⟩ := pre_n (show 0 < n' by omega)
          refine ⟨R', nI (i + 1), ?_, MFx⟩
          rw [a2, if_neg h0, b1, Option.bind_some, f_X10_house_L97, MFx.2.1, if_neg (show ¬ (1 : Int32) = 0 by decide)]
          split <;> rfl
      · obtain ⟨hV', hx⟩ := i2 rfl
        obtain ⟨ok2, cnt, y, g2, d2, j1, j2, j3, j4, j5⟩ := ih x g' d' i1 (by omega) hV'
        refine ⟨ok2, cnt + 1, y, g2, d2, j1, by omega, j3, fun C n i K0 K1 K2 B h5 hn hi => ?_, fun P' sw' R n i K X' M hn => ?_⟩
        · obtain ⟨n', C1, hn', a2, a3, a4⟩ := hcls C n i K0 K1 K2 B h5 hn hi
          obtain ⟨C', b1, b2, b3, -⟩ := i3 C1 a2 a3
          obtain ⟨c1, c2⟩ := b3 rfl
          have hrec := j4 C' n' (i + 1) K0 K1 K2 c1 c2 (by omega) (by omega)
          have e1 : f_X6_readInto_L13 K0 K1 K2 1 (hs (!sw)) n C (nI i) = f_X6_readInto_L13 K0 K1 K2 1 (hs (!sw)) n' C' (nI (i + 1)) := by
            rw [a4, if_neg h0, b1, Option.bind_some, if_b2i, if_pos (show (true, C').1 = true from rfl)]
          rw [e1, show i + (cnt + 1) = i + 1 + cnt by omega]
          exact hrec
        · obtain ⟨n', hn', a2⟩ := hmod P' sw' R n i K X' M hn
          obtain ⟨R', b1, b2, -⟩ := i4 P' sw' R X' M
          have hrec := j5 P' sw' R' n' (i + 1) K X' (b2 rfl) (by omega)
          have e1 : f_X10_house_L97 K 47 n R (nI i) = f_X10_house_L97 K 47 n' R' (nI (i + 1)) := by
            rw [a2, if_neg h0, b1, Option.bind_some]
          rw [e1, show i + (cnt + 1) = i + 1 + cnt by omega]
          exact hrec
def gZ : SG := (0, 0, fun _ => none, fun _ => 0, fun _ => 0)
def dZ : SD := (0, 0, 0, fun _ => 0, fun _ => 0, fun _ => 0, fun _ => 0, fun _ => 0)
theorem vZ : VBB gZ dZ := ⟨⟨Nat.zero_le _, Nat.zero_le _, fun p hp => absurd hp (Nat.not_lt_zero p), fun p hp => absurd hp (Nat.not_lt_zero p), fun p hp => absurd hp (Nat.not_lt_zero p)⟩, Nat.zero_le _, Nat.zero_lt_one, Nat.zero_le _, fun p hp => absurd hp (Nat.not_lt_zero p), fun p hp => absurd hp (Nat.not_lt_zero p), fun p hp => absurd hp (Nat.not_lt_zero p)⟩
/-- the class begins -/
theorem c_start (X : HX P sw T tl) : ∃ C, CB sw P C gZ dZ ∧ C.1 2 5 = nI 0 ∧ f_X6_readInto P 1 (hs (!sw)) = f_X6_readInto_L13 (fun P9 v8 => some (v8, P9)) (fun P10 => some (((-10 : Int32) - (P10.1 (P10.2.2 1 0) 3)), P10)) (fun P12 => some (((-10 : Int32) - (P12.1 (P12.2.2 1 0) 3)), P12)) 1 (hs (!sw)) 1000 C (nI 0) := by
  have hw := hs_w (!sw)
  have hz : hs (!sw) ≠ 0 := hs_0 (!sw)
  have r5 : P.2.2 (hs (!sw)) 5 = hs (!sw) + 4 := by
    rw [X.1]
    unfold rhoS
    rw [if_neg hz]
    exact (rho_h (!sw)).2.2.2.1
  have r1 : P.2.2 1 0 = 2 := by rw [X.1]; rfl
  obtain ⟨C1, e1⟩ : ∃ Q, Q = sI P (hs (!sw)) 0 0 := ⟨_, rfl⟩
  obtain ⟨C2, e2⟩ : ∃ Q, Q = sI C1 (hs (!sw)) 1 0 := ⟨_, rfl⟩
  obtain ⟨C3, e3⟩ : ∃ Q, Q = sI C2 (hs (!sw) + 4) 0 0 := ⟨_, rfl⟩
  obtain ⟨C4, e4⟩ : ∃ Q, Q = sI C3 (hs (!sw) + 4) 1 0 := ⟨_, rfl⟩
  obtain ⟨C5, e5⟩ : ∃ Q, Q = sI C4 (hs (!sw) + 4) 2 0 := ⟨_, rfl⟩
  have q2 : C2.2 = P.2 := by rw [e2, e1]; rfl
  have q3 : C3.2 = P.2 := by rw [e3]; exact q2
  have q4 : C4.2 = P.2 := by rw [e4]; exact q3
  have q5 : C5.2 = P.2 := by rw [e5]; exact q4
  have a1 : Ag sw P C1 := by rw [e1]; exact ag_w sw P _ _ (by omega) (by omega)
  have a2 : Ag sw C1 C2 := by rw [e2]; exact ag_w sw C1 _ _ (by omega) (by omega)
  have a3 : Ag sw C2 C3 := by rw [e3]; exact ag_w sw C2 _ _ (by omega) (by omega)
  have a4 : Ag sw C3 C4 := by rw [e4]; exact ag_w sw C3 _ _ (by omega) (by omega)
  have a5 : Ag sw C4 C5 := by rw [e5]; exact ag_w sw C4 _ _ (by omega) (by omega)
  have A := (((a1.tr a2).tr a3).tr a4).tr a5
  have B5 : CB sw P C5 gZ dZ := by
    refine ⟨A, ?_, ?_, fun p hp => absurd hp (Nat.not_lt_zero p), fun p hp => absurd hp (Nat.not_lt_zero p), fun p hp => absurd hp (Nat.not_lt_zero p), ?_, ?_, ?_, fun p hp => absurd hp (Nat.not_lt_zero p), fun p hp => absurd hp (Nat.not_lt_zero p), fun p hp => absurd hp (Nat.not_lt_zero p)⟩
    · rw [e5, sI_ne (by omega), e4, sI_ne (by omega), e3, sI_ne (by omega), e2, sI_eq, upd_ne (by decide), e1, sI_eq, upd_eq]
      rfl
    · rw [e5, sI_ne (by omega), e4, sI_ne (by omega), e3, sI_ne (by omega), e2, sI_eq, upd_eq]
      rfl
    · rw [e5, sI_eq, upd_ne (by decide), e4, sI_eq, upd_ne (by decide), e3, sI_eq, upd_eq]
      rfl
    · rw [e5, sI_eq, upd_ne (by decide), e4, sI_eq, upd_eq]
      rfl
    · rw [e5, sI_eq, upd_eq]
      rfl
  refine ⟨sI C5 2 5 0, B5.f2 (F2.st C5 0 (by decide)), by rw [sI_eq, upd_eq]; rfl, ?_⟩
  unfold f_X6_readInto f_X2_empty f_X8_rewind
  rw [← e1, ← e2, Option.bind_some, q2, r5, ← e3, q3, r5, ← e4, Option.bind_some, q4, r5, ← e5, Option.bind_some, q5, r1, Option.bind_some]
  rfl
/-- the model begins -/
theorem L22_run (K : PH → Option (Int32 × PH)) : ∀ k i n (R : PH), MR R → (∀ j, j < i → R.1 60 j = 0) → i + k = 46 → k < n → ∃ R', f_X10_house_L22 K 47 n R (nI i) = K R' ∧ R'.2 = R.2 ∧ (∀ c, c ≠ 60 → R'.1 c = R.1 c) ∧ ∀ j, j < 46 → R'.1 60 j = 0 := by
  intro k
  induction k with
  | zero =>
    intro i n R hm hz hi hn
    obtain ⟨n, rfl⟩ := pre_n hn
    unfold f_X10_house_L22
    rw [if_pos (show (46 : Int32) ≤ nI i from nI_le (a := 46) (by omega) (by omega))]
    exact ⟨R, rfl, rfl, fun _ _ => rfl, fun j hj => hz j (by omega)⟩
  | succ k ih =>
    intro i n R hm hz hi hn
    obtain ⟨n, rfl⟩ := pre_n hn
    unfold f_X10_house_L22
    rw [if_neg (show ¬ (46 : Int32) ≤ nI i from nI_ge (b := 46) (by omega) (by omega)), gd (by omega) (by decide), nI_clamp (by omega), show R.2.2 47 25 = 60 by rw [hm]; rfl, Option.bind_some, nI_1]
    obtain ⟨R', a1, a2, a3, a4⟩ := ih (i + 1) n (sI R 60 i 0) hm (fun j hj => by
      rw [sI_eq]
      by_cases h : j = i
      · rw [h, upd_eq]
      · rw [upd_ne h]; exact hz j (by omega)) (by omega) (by omega)
    exact ⟨R', a1, a2, fun c hc => (a3 c hc).trans (sI_ne hc), a4⟩
theorem L43_run (K : PH → Option (Int32 × PH)) : ∀ k i n (R : PH), MR R → (∀ j, j < i → R.1 59 j = 0) → i + k = 7 → k < n → ∃ R', f_X10_house_L43 K 47 n R (nI i) = K R' ∧ R'.2 = R.2 ∧ (∀ c, c ≠ 59 → R'.1 c = R.1 c) ∧ ∀ j, j < 7 → R'.1 59 j = 0 := by
  intro k
  induction k with
  | zero =>
    intro i n R hm hz hi hn
    obtain ⟨n, rfl⟩ := pre_n hn
    unfold f_X10_house_L43
    rw [if_pos (show (7 : Int32) ≤ nI i from nI_le (a := 7) (by omega) (by omega))]
    exact ⟨R, rfl, rfl, fun _ _ => rfl, fun j hj => hz j (by omega)⟩
  | succ k ih =>
    intro i n R hm hz hi hn
    obtain ⟨n, rfl⟩ := pre_n hn
    unfold f_X10_house_L43
    rw [if_neg (show ¬ (7 : Int32) ≤ nI i from nI_ge (b := 7) (by omega) (by omega)), gd (by omega) (by decide), nI_clamp (by omega), show R.2.2 47 24 = 59 by rw [hm]; rfl, Option.bind_some, nI_1]
    obtain ⟨R', a1, a2, a3, a4⟩ := ih (i + 1) n (sI R 59 i 0) hm (fun j hj => by
      rw [sI_eq]
      by_cases h : j = i
      · rw [h, upd_eq]
      · rw [upd_ne h]; exact hz j (by omega)) (by omega) (by omega)
    exact ⟨R', a1, a2, fun c hc => (a3 c hc).trans (sI_ne hc), a4⟩
theorem L64_run (K : PH → Option (Int32 × PH)) : ∀ k i n (R : PH), MR R → (∀ j, j < i → R.1 57 j = -9 ∧ R.1 58 j = 0) → i + k = 6 → k < n → ∃ R', f_X10_house_L64 K 47 n R (nI i) = K R' ∧ R'.2 = R.2 ∧ (∀ c, c ≠ 57 → c ≠ 58 → R'.1 c = R.1 c) ∧ ∀ j, j < 6 → R'.1 57 j = -9 ∧ R'.1 58 j = 0 := by
  intro k
  induction k with
  | zero =>
    intro i n R hm hz hi hn
    obtain ⟨n, rfl⟩ := pre_n hn
    unfold f_X10_house_L64
    rw [if_pos (show (6 : Int32) ≤ nI i from nI_le (a := 6) (by omega) (by omega))]
    exact ⟨R, rfl, rfl, fun _ _ _ => rfl, fun j hj => hz j (by omega)⟩
  | succ k ih =>
    intro i n R hm hz hi hn
    obtain ⟨n, rfl⟩ := pre_n hn
    have r2 : (sI R 57 i (-9)).2.2 47 23 = 58 := by show R.2.2 47 23 = 58; rw [hm]; rfl
    unfold f_X10_house_L64
    rw [if_neg (show ¬ (6 : Int32) ≤ nI i from nI_ge (b := 6) (by omega) (by omega)), gd (by omega) (by decide), nI_clamp (by omega), show R.2.2 47 22 = 57 by rw [hm]; rfl, Option.bind_some, gd2 (by omega) (by decide), r2, Option.bind_some, nI_1]
    obtain ⟨R', a1, a2, a3, a4⟩ := ih (i + 1) n (sI (sI R 57 i (-9)) 58 i 0) hm (fun j hj => by
      rw [sI_ne (show (57 : Nat) ≠ 58 by decide), sI_eq, sI_eq, sI_ne (show (58 : Nat) ≠ 57 by decide)]
      by_cases h : j = i
      · rw [h, upd_eq, upd_eq]
        exact ⟨rfl, rfl⟩
      · rw [upd_ne h, upd_ne h]; exact hz j (by omega)) (by omega) (by omega)
    exact ⟨R', a1, a2, fun c h1 h2 => (a3 c h1 h2).trans (by rw [sI_ne h2, sI_ne h1]), a4⟩
theorem m_start {Q : PH} (X : HXM Q sw T tl) : ∃ R, f_X10_house Q 47 = f_X10_house_L97 (fun P37 v36 => f_X10_house_J121 P37 47 v36) 47 1000 R (nI 0) ∧ MOT T tl sw Q R gZ dZ 0 := by
  have hm : MR Q := X.mr (Ag.rf sw Q)
  obtain ⟨R0, e0⟩ : ∃ R, R = sI (sI (sI (sI Q 47 15 0) 47 19 0) 47 20 0) 47 21 0 := ⟨_, rfl⟩
  have m0 : MR R0 := by rw [e0]; exact hm
  have a0 : Ag sw Q R0 := by rw [e0]; exact (((ag_47 sw Q _ (by decide)).tr (ag_47 sw _ _ (by decide))).tr (ag_47 sw _ _ (by decide))).tr (ag_47 sw _ _ (by decide))
  obtain ⟨R1, b1, b2, b3, b4⟩ := L22_run (fun P32 => f_X10_house_L43 (fun P33 => f_X10_house_L64 (fun P34 => ((f_X10_next P34 47).bind fun q35 => f_X10_house_L97 (fun P37 v36 => f_X10_house_J121 P37 47 v36) 47 1000 q35 (0 : Int32))) 47 1000 P33 (0 : Int32)) 47 1000 P32 (0 : Int32)) 46 0 1000 R0 m0 (fun j hj => by omega) (by decide) (by decide)
  have m1 : MR R1 := by unfold MR; rw [b2]; exact m0
  obtain ⟨R2, c1, c2, c3, c4⟩ := L43_run (fun P33 => f_X10_house_L64 (fun P34 => ((f_X10_next P34 47).bind fun q35 => f_X10_house_L97 (fun P37 v36 => f_X10_house_J121 P37 47 v36) 47 1000 q35 (0 : Int32))) 47 1000 P33 (0 : Int32)) 7 0 1000 R1 m1 (fun j hj => by omega) (by decide) (by decide)
  have m2 : MR R2 := by unfold MR; rw [c2]; exact m1
  obtain ⟨R3, d1, d2, d3, d4⟩ := L64_run (fun P34 => ((f_X10_next P34 47).bind fun q35 => f_X10_house_L97 (fun P37 v36 => f_X10_house_J121 P37 47 v36) 47 1000 q35 (0 : Int32))) 6 0 1000 R2 m2 (fun j hj => by omega) (by decide) (by decide)
  have z47 : R3.1 47 = R0.1 47 := by rw [d3 47 (by decide) (by decide), c3 47 (by decide), b3 47 (by decide)]
  have r3 : R3.2 = Q.2 := by rw [d2, c2, b2, e0]; rfl
  have A3 : Ag sw Q R3 := by
    refine a0.tr ⟨by rw [d2, c2, b2], fun c j hr => ?_⟩
    have hne : ∀ k, 57 ≤ k → k ≤ 60 → c ≠ k := fun k h1 h2 q => by
      subst q
      have h3 : c = 57 ∨ c = 58 ∨ c = 59 ∨ c = 60 := by omega
      rcases h3 with rfl | rfl | rfl | rfl <;> cases sw <;> cases hr
    rw [d3 c (hne 57 (by decide) (by decide)) (hne 58 (by decide) (by decide)), c3 c (hne 59 (by decide) (by decide)), b3 c (hne 60 (by decide) (by decide))]
  have g15 : R0.1 47 15 = nI 0 := by rw [e0, s47_ne _ _ (by decide), s47_ne _ _ (by decide), s47_ne _ _ (by decide), s47_eq]; rfl
  have g19 : R0.1 47 19 = 0 := by rw [e0, s47_ne _ _ (by decide), s47_ne _ _ (by decide), s47_eq]
  have g20 : R0.1 47 20 = 0 := by rw [e0, s47_ne _ _ (by decide), s47_eq]
  have g21 : R0.1 47 21 = 0 := by rw [e0, s47_eq]
  obtain ⟨R4, f1, f2, f3⟩ := m_next (T := T) (tl := tl) (P := R3) (X.mr A3) (A3.txm X.2) (e := 0) (by rw [z47]; exact g15) (Nat.zero_le _)
  refine ⟨R4, ?_, ?_, ?_, f3⟩
  · unfold f_X10_house
    rw [Option.bind_some, Option.bind_some, ← e0, show (0 : Int32) = nI 0 from rfl]
    refine b1.trans (c1.trans (d1.trans ?_))
    rw [f1]
    rfl
  · refine RB.f5 ?_ f2.f5
    refine ⟨A3, by rw [z47]; exact g20, by rw [z47]; exact g21, fun p hp => ?_, fun p hp => ?_, fun r hr => ?_, ?_⟩
    · rw [if_neg (show ¬ p < g_np gZ from Nat.not_lt_zero p)]
      exact (d4 p hp).1
    · rw [if_neg (show ¬ p < g_np gZ from Nat.not_lt_zero p)]
      exact (d4 p hp).2
    · rw [if_neg (show ¬ r < g_nr gZ from Nat.not_lt_zero r), d3 59 (by decide) (by decide)]
      exact c4 r hr
    · have z60 : ∀ j, j < 46 → R3.1 60 j = 0 := fun j hj => by rw [d3 60 (by decide) (by decide), c3 60 (by decide)]; exact b4 j hj
      exact ⟨z60 0 (by decide), z60 1 (by decide), fun p hp => absurd hp (Nat.not_lt_zero p), fun p hp => absurd hp (Nat.not_lt_zero p), z60 15 (by decide), fun p hp => absurd hp (Nat.not_lt_zero p)⟩
  · rw [f2.2.2 19 (by decide), z47]
    exact g19
theorem L154_run (K : PH → Option (Int32 × PH)) (x1 : Int32) : ∀ k i n (R : PH), MR R → (∀ j, j < i → R.1 50 j = R.1 59 j) → i + k = 7 → k < n → ∃ R', f_X10_house_L154 K 47 x1 n R (nI i) = K R' ∧ R'.2 = R.2 ∧ (∀ c, c ≠ 50 → R'.1 c = R.1 c) ∧ ∀ j, j < 7 → R'.1 50 j = R.1 59 j := by
  intro k
  induction k with
  | zero =>
    intro i n R hm hz hi hn
    obtain ⟨n, rfl⟩ := pre_n hn
    unfold f_X10_house_L154
    rw [if_pos (show (7 : Int32) ≤ nI i from nI_le (a := 7) (by omega) (by omega))]
    exact ⟨R, rfl, rfl, fun _ _ => rfl, fun j hj => hz j (by omega)⟩
  | succ k ih =>
    intro i n R hm hz hi hn
    obtain ⟨n, rfl⟩ := pre_n hn
    unfold f_X10_house_L154
    rw [if_neg (show ¬ (7 : Int32) ≤ nI i from nI_ge (b := 7) (by omega) (by omega)), gd (by omega) (by decide), gd (by omega) (by decide), nI_clamp (by omega), show R.2.2 47 4 = 50 by rw [hm]; rfl, show R.2.2 47 24 = 59 by rw [hm]; rfl, Option.bind_some, nI_1]
    obtain ⟨R', a1, a2, a3, a4⟩ := ih (i + 1) n (sI R 50 i (R.1 59 i)) hm (fun j hj => by
      rw [sI_eq, sI_ne (show (59 : Nat) ≠ 50 by decide)]
      by_cases h : j = i
      · rw [h, upd_eq]
      · rw [upd_ne h]; exact hz j (by omega)) (by omega) (by omega)
    exact ⟨R', a1, a2, fun c hc => (a3 c hc).trans (sI_ne hc), fun j hj => (a4 j hj).trans (by rw [sI_ne (by decide)])⟩
theorem L180_run (K : PH → Option (Int32 × PH)) (x1 : Int32) : ∀ k i n (R : PH), MR R → (∀ j, j < i → R.1 48 j = R.1 57 j ∧ R.1 49 j = R.1 58 j) → i + k = 6 → k < n → ∃ R', f_X10_house_L180 K 47 x1 n R (nI i) = K R' ∧ R'.2 = R.2 ∧ (∀ c, c ≠ 48 → c ≠ 49 → R'.1 c = R.1 c) ∧ ∀ j, j < 6 → R'.1 48 j = R.1 57 j ∧ R'.1 49 j = R.1 58 j := by
  intro k
  induction k with
  | zero =>
    intro i n R hm hz hi hn
    obtain ⟨n, rfl⟩ := pre_n hn
    unfold f_X10_house_L180
    rw [if_pos (show (6 : Int32) ≤ nI i from nI_le (a := 6) (by omega) (by omega))]
    exact ⟨R, rfl, rfl, fun _ _ _ => rfl, fun j hj => hz j (by omega)⟩
  | succ k ih =>
    intro i n R hm hz hi hn
    obtain ⟨n, rfl⟩ := pre_n hn
    have r2 : (sI R 48 i (R.1 57 i)).2.2 47 3 = 49 := by show R.2.2 47 3 = 49; rw [hm]; rfl
    have r3 : (sI R 48 i (R.1 57 i)).2.2 47 23 = 58 := by show R.2.2 47 23 = 58; rw [hm]; rfl
    have r4 : (sI R 48 i (R.1 57 i)).1 58 = R.1 58 := sI_ne (by decide)
    unfold f_X10_house_L180
    rw [if_neg (show ¬ (6 : Int32) ≤ nI i from nI_ge (b := 6) (by omega) (by omega)), gd (by omega) (by decide), gd (by omega) (by decide), nI_clamp (by omega), show R.2.2 47 2 = 48 by rw [hm]; rfl, show R.2.2 47 22 = 57 by rw [hm]; rfl, Option.bind_some, gd2 (by omega) (by decide), gd2 (by omega) (by decide), r2, r3, r4, Option.bind_some, nI_1]
    obtain ⟨R', a1, a2, a3, a4⟩ := ih (i + 1) n (sI (sI R 48 i (R.1 57 i)) 49 i (R.1 58 i)) hm (fun j hj => by
      rw [sI_ne (show (48 : Nat) ≠ 49 by decide), sI_eq, sI_eq, sI_ne (show (49 : Nat) ≠ 48 by decide), sI_ne (show (57 : Nat) ≠ 49 by decide), sI_ne (show (57 : Nat) ≠ 48 by decide), sI_ne (show (58 : Nat) ≠ 49 by decide), sI_ne (show (58 : Nat) ≠ 48 by decide)]
      by_cases h : j = i
      · rw [h, upd_eq, upd_eq]
        exact ⟨rfl, rfl⟩
      · rw [upd_ne h, upd_ne h]; exact hz j (by omega)) (by omega) (by omega)
    refine ⟨R', a1, a2, fun c h1 h2 => (a3 c h1 h2).trans (by rw [sI_ne h2, sI_ne h1]), fun j hj => ?_⟩
    obtain ⟨x1, x2⟩ := a4 j hj
    refine ⟨x1.trans ?_, x2.trans ?_⟩
    · rw [sI_ne (by decide), sI_ne (by decide)]
    · rw [sI_ne (by decide), sI_ne (by decide)]
theorem neg_ans {x : Nat} (hx : x ≤ 200) : ¬ (0 : Int32) ≤ (-10 : Int32) - nI x := by
  have h : ∀ x, x ≤ 200 → ¬ (0 : Int32) ≤ (-10 : Int32) - nI x := by decide +kernel
  exact h x hx
/-- the model ends well -/
theorem m_end {Q : PH} (X : HXM Q sw T tl) (V : VBB g d) (B : RB sw Q R g d) (h19 : R.1 47 19 = 0) (v : Int32) : ∃ R', f_X10_house_J121 R 47 v = some (v, R') ∧ R'.2 = Q.2 ∧ (∀ c j, rel sw c j = true → c ≠ 47 → c ≠ 48 → c ≠ 49 → c ≠ 50 → c ≠ 51 → c ≠ 54 → R'.1 c j = Q.1 c j) ∧ MG R'.1 g ∧ MD (R'.1 51) (g_np g) (g_nr g) d ∧ R'.1 47 7 = 0 ∧ R'.1 47 10 = 0 ∧ R'.1 47 14 = 0 ∧ R'.1 54 0 = 0 ∧ R'.1 54 1 = 0 := by
  obtain ⟨b1, b2, b3, b4, b5, b6, b7⟩ := B
  have v1 := V.1.1
  have v2 := V.1.2.1
  obtain ⟨R0, e0⟩ : ∃ S, S = sI (sI R 47 0 (nI (g_np g))) 47 1 (nI (g_nr g)) := ⟨_, rfl⟩
  have q0 : R0.2 = R.2 := by rw [e0]; rfl
  have m0 : MR R0 := by unfold MR; rw [q0]; exact X.mr b1
  have f0 : ∀ c, c ≠ 47 → R0.1 c = R.1 c := fun c hc => by rw [e0, sI_ne hc, sI_ne hc]
  obtain ⟨R1, c1, c2, c3, c4⟩ := L154_run (fun P11 => f_X10_house_L180 (fun P12 => ((f_X10_copy 46 46 P12 (P12.2.2 47 5) (0 : Int32) (P12.2.2 47 25) (0 : Int32)).bind fun q15 => ((some (sI (sI q15 47 7 (0 : Int32)) 47 10 (0 : Int32))).bind fun P16 => (if ((0 : Int32) < 0 ∨ 2 ≤ (0 : Int32).toNatClampNeg) then none else ((some (sI P16 (P16.2.2 47 9) (0 : Int32).toNatClampNeg (0 : Int32))).bind fun P18 => (if ((1 : Int32) < 0 ∨ 2 ≤ (1 : Int32).toNatClampNeg) then none else ((some (sI P18 (P18.2.2 47 9) (1 : Int32).toNatClampNeg (0 : Int32))).bind fun P20 => some (v, (sI P20 47 14 (0 : Int32)))))))))) 47 v 1000 P11 (0 : Int32)) v 7 0 1000 R0 m0 (fun j hj => by omega) (by decide) (by decide)
  have m1 : MR R1 := by unfold MR; rw [c2]; exact m0
  obtain ⟨R2, d1, d2, d3, d4⟩ := L180_run (fun P12 => ((f_X10_copy 46 46 P12 (P12.2.2 47 5) (0 : Int32) (P12.2.2 47 25) (0 : Int32)).bind fun q15 => ((some (sI (sI q15 47 7 (0 : Int32)) 47 10 (0 : Int32))).bind fun P16 => (if ((0 : Int32) < 0 ∨ 2 ≤ (0 : Int32).toNatClampNeg) then none else ((some (sI P16 (P16.2.2 47 9) (0 : Int32).toNatClampNeg (0 : Int32))).bind fun P18 => (if ((1 : Int32) < 0 ∨ 2 ≤ (1 : Int32).toNatClampNeg) then none else ((some (sI P18 (P18.2.2 47 9) (1 : Int32).toNatClampNeg (0 : Int32))).bind fun P20 => some (v, (sI P20 47 14 (0 : Int32)))))))))) v 6 0 1000 R1 m1 (fun j hj => by omega) (by decide) (by decide)
  have m2 : MR R2 := by unfold MR; rw [d2]; exact m1
  obtain ⟨R3, e3⟩ : ∃ S, S = cpP R2 51 0 60 0 46 := ⟨_, rfl⟩
  have g3 : ∀ c, c ≠ 51 → R3.1 c = R2.1 c := fun c hc => by rw [e3]; unfold cpP; exact sA_ne hc
  have q3 : R3.2 = R2.2 := by rw [e3]; rfl
  have m3 : MR R3 := by unfold MR; rw [q3]; exact m2
  obtain ⟨R4, e4⟩ : ∃ S, S = sI (sI R3 47 7 0) 47 10 0 := ⟨_, rfl⟩
  have m4 : MR R4 := by rw [e4]; exact m3
  have r54 : R4.2.2 47 9 = 54 := by rw [m4]; rfl
  have r54' : (sI R4 54 0 0).2.2 47 9 = 54 := r54
  have f4 : ∀ c, c ≠ 47 → c ≠ 51 → c ≠ 48 → c ≠ 49 → c ≠ 50 → R4.1 c = R.1 c := fun c h47 h51 h48 h49 h50 => by rw [e4, sI_ne h47, sI_ne h47, g3 c h51, d3 c h48 h49, c3 c h50, f0 c h47]
  obtain ⟨R6, e6⟩ : ∃ S, S = sI (sI (sI R4 54 0 0) 54 1 0) 47 14 0 := ⟨_, rfl⟩
  have f6 : ∀ c, c ≠ 47 → c ≠ 54 → R6.1 c = R4.1 c := fun c h1 h2 => by rw [e6, sI_ne h1, sI_ne h2, sI_ne h2]
  have w47 : ∀ j, j ≠ 14 → j ≠ 10 → j ≠ 7 → R6.1 47 j = R0.1 47 j := fun j h1 h2 h3 => by rw [e6, s47_ne _ _ h1, sI_ne (by decide), sI_ne (by decide), e4, s47_ne _ _ h2, s47_ne _ _ h3, g3 47 (by decide), d3 47 (by decide) (by decide), c3 47 (by decide)]
  have w48 : ∀ j, j < 6 → R6.1 48 j = R.1 57 j ∧ R6.1 49 j = R.1 58 j := fun j hj => by
    rw [f6 48 (by decide) (by decide), f6 49 (by decide) (by decide), e4, sI_ne (by decide), sI_ne (by decide), sI_ne (by decide), sI_ne (by decide), g3 48 (by decide), g3 49 (by decide), (d4 j hj).1, (d4 j hj).2, c3 57 (by decide), c3 58 (by decide), f0 57 (by decide), f0 58 (by decide)]
    exact ⟨rfl, rfl⟩
  have w50 : ∀ j, j < 7 → R6.1 50 j = R.1 59 j := fun j hj => by
    rw [f6 50 (by decide) (by decide), e4, sI_ne (by decide), sI_ne (by decide), g3 50 (by decide), d3 50 (by decide) (by decide), c4 j hj, f0 59 (by decide)]
  refine ⟨R6, ?_, ?_, ?_, ⟨?_, ?_, ?_, ?_, ?_⟩, ?_, ?_, ?_, ?_, ?_, ?_⟩
  · unfold f_X10_house_J121
    have e01 : (sI R 47 0 (nI (g_np g))).1 47 21 = nI (g_nr g) := by rw [s47_ne _ _ (by decide)]; exact b3
    rw [if_pos h19, b2, e01, ← e0, Option.bind_some, show (0 : Int32) = nI 0 from rfl]
    refine c1.trans (d1.trans ?_)
    rw [mr_st m2, show R2.2.2 47 25 = 60 by rw [m2]; rfl, show (0 : Int32) = nI 0 from rfl, cp_eq 46 46 R2 51 0 60 0 (by decide) (by decide) (by decide) (by decide) (by decide), ← e3, Option.bind_some, Option.bind_some]
    show (if ((0 : Int32) < 0 ∨ 2 ≤ (0 : Int32).toNatClampNeg) then none else ((some (sI (sI (sI R3 47 7 0) 47 10 0) ((sI (sI R3 47 7 0) 47 10 0).2.2 47 9) (0 : Int32).toNatClampNeg (0 : Int32))).bind _)) = _
    rw [if_neg (by decide), ← e4, r54, t_0, Option.bind_some]
    show (if ((1 : Int32) < 0 ∨ 2 ≤ (1 : Int32).toNatClampNeg) then none else ((some (sI (sI R4 54 0 0) ((sI R4 54 0 0).2.2 47 9) (1 : Int32).toNatClampNeg (0 : Int32))).bind _)) = _
    rw [if_neg (by decide), r54', t_1, Option.bind_some]
    show some (v, sI (sI (sI R4 54 0 0) 54 1 0) 47 14 0) = _
    rw [← e6]
  · rw [e6]
    show R4.2 = Q.2
    rw [e4]
    show R3.2 = Q.2
    rw [q3, d2, c2, q0, b1.1]
  · intro c j hr h47 h48 h49 h50 h51 h54
    rw [f6 c h47 h54, f4 c h47 h51 h48 h49 h50]
    exact b1.2 c j hr
  · rw [w47 0 (by decide) (by decide) (by decide), e0, s47_ne _ _ (by decide), s47_eq]
  · rw [w47 1 (by decide) (by decide) (by decide), e0, s47_eq]
  · intro p hp
    rw [(w48 p (by omega)).1, b4 p (by omega), if_pos hp]
  · intro p hp
    rw [(w48 p (by omega)).2, b5 p (by omega), if_pos hp]
  · intro r hr
    rw [w50 r (by omega), b6 r (by omega), if_pos hr]
  · refine b7.ag v1 v2 V.2.2.2.1 (fun j hj => ?_)
    rw [f6 51 (by decide) (by decide), e4, sI_ne (by decide), sI_ne (by decide), e3]
    unfold cpP
    rw [sA_eq]
    show (if 0 ≤ j ∧ j < 0 + 46 then R2.1 60 (0 + (j - 0)) else _) = _
    rw [if_pos (by omega), show 0 + (j - 0) = j by omega, d3 60 (by decide) (by decide), c3 60 (by decide), f0 60 (by decide)]
  · rw [e6, s47_ne _ _ (by decide), sI_ne (by decide), sI_ne (by decide), e4, s47_ne _ _ (by decide), s47_eq]
  · rw [e6, s47_ne _ _ (by decide), sI_ne (by decide), sI_ne (by decide), e4, s47_eq]
  · rw [e6, s47_eq]
  · rw [e6, sI_ne (by decide), sI_eq, upd_ne (by decide), sI_eq, upd_eq]
  · rw [e6, sI_ne (by decide), sI_eq, upd_eq]
end HOU
