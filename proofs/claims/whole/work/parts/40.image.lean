/-! keep, back -/
def k1 (P : PH) (a b : Nat) : PH := sI (sI P a 0 (P.1 b 0)) a 1 ((sI P a 0 (P.1 b 0)).1 b 1)
def k2 (P : PH) (a b : Nat) : PH := sI P a 2 (P.1 b 2)
def k3 (n f : Nat) (P : PH) (a b : Nat) : PH := sA P (P.2.2 a f) (va_cpy (P.1 (P.2.2 b f)) (P.1 (P.2.2 a f)) 0 0 n)
def k4 (P : PH) (a b : Nat) : PH := k3 10 7 (k3 10 6 (k3 10 5 (k3 7 4 (k3 6 3 (k2 (k1 P a b) a b) a b) a b) a b) a b) a b
theorem gz6 {α : Type} {A : Option α} : (if ((0 : Int32) < 0 ∨ (0 : Int32) < 0 ∨ (6 : Int32) < 0 ∨ 6 < (0 : Int32).toNatClampNeg + (6 : Int32).toNatClampNeg ∨ 6 < (0 : Int32).toNatClampNeg + (6 : Int32).toNatClampNeg) then none else A) = A := if_neg (by decide)
theorem gz7 {α : Type} {A : Option α} : (if ((0 : Int32) < 0 ∨ (0 : Int32) < 0 ∨ (7 : Int32) < 0 ∨ 7 < (0 : Int32).toNatClampNeg + (7 : Int32).toNatClampNeg ∨ 7 < (0 : Int32).toNatClampNeg + (7 : Int32).toNatClampNeg) then none else A) = A := if_neg (by decide)
theorem gz10 {α : Type} {A : Option α} : (if ((0 : Int32) < 0 ∨ (0 : Int32) < 0 ∨ (10 : Int32) < 0 ∨ 10 < (0 : Int32).toNatClampNeg + (10 : Int32).toNatClampNeg ∨ 10 < (0 : Int32).toNatClampNeg + (10 : Int32).toNatClampNeg) then none else A) = A := if_neg (by decide)
theorem c_copy_eq (P : PH) (a b : Nat) : f_X4_copy P a b = some (k4 P a b) := by
  unfold f_X4_copy
  simp only [gz6, gz7, gz10, Option.bind_some]
  rfl
theorem k3_ne {n f : Nat} {P : PH} {a b c : Nat} (h : c ≠ P.2.2 a f) : (k3 n f P a b).1 c = P.1 c := sA_ne h
theorem k3_eq {n f : Nat} {P : PH} {a b j : Nat} (h : j < n) : (k3 n f P a b).1 (P.2.2 a f) j = P.1 (P.2.2 b f) j := by
  unfold k3
  rw [sA_eq]
  unfold va_cpy
  rw [if_pos (by omega), show 0 + (j - 0) = j by omega]
/-- such a cell, and its five rows behind it -/
def nwc (a : Nat) : Prop := a = 15 ∨ a = 21 ∨ a = 31 ∨ a = 41
theorem nwc_r {a f : Nat} (h : nwc a) (h1 : 3 ≤ f) (h2 : f < 8) : rho0 a f = a + f - 2 := by
  have hf2 : f = 3 ∨ f = 4 ∨ f = 5 ∨ f = 6 ∨ f = 7 := by omega
  rcases h with rfl | rfl | rfl | rfl <;> rcases hf2 with rfl | rfl | rfl | rfl | rfl <;> rfl
theorem c_copy {P : PH} {sw : Bool} {a b np nr : Nat} {d : SD} (hr : P.2.2 = rhoS sw) (ha : nwc a) (hb : nwc b) (hab : a ≠ b) (hnp : np ≤ 6) (hnr : nr ≤ 7) (hk : d_k d ≤ 10) (N : NDc P.1 b np nr d) : (k4 P a b).2 = P.2 ∧ (∀ c, (c < a ∨ a + 5 < c) → (k4 P a b).1 c = P.1 c) ∧ NDc (k4 P a b).1 a np nr d := by
  have a0 : a ≠ 0 := by rcases ha with rfl | rfl | rfl | rfl <;> decide
  have b0 : b ≠ 0 := by rcases hb with rfl | rfl | rfl | rfl <;> decide
  have hd : a + 5 < b ∨ b + 5 < a := by
    rcases ha with rfl | rfl | rfl | rfl <;> rcases hb with rfl | rfl | rfl | rfl <;> first | exact absurd rfl hab | decide
  have ra : ∀ f, 3 ≤ f → f < 8 → P.2.2 a f = a + f - 2 := fun f h1 h2 => by
    rw [hr]
    unfold rhoS
    rw [if_neg a0]
    exact nwc_r ha h1 h2
  have rb : ∀ f, 3 ≤ f → f < 8 → P.2.2 b f = b + f - 2 := fun f h1 h2 => by
    rw [hr]
    unfold rhoS
    rw [if_neg b0]
    exact nwc_r hb h1 h2
  obtain ⟨Q1, e1⟩ : ∃ Q, Q = k1 P a b := ⟨_, rfl⟩
  obtain ⟨Q2, e2⟩ : ∃ Q, Q = k2 Q1 a b := ⟨_, rfl⟩
  obtain ⟨Q3, e3⟩ : ∃ Q, Q = k3 6 3 Q2 a b := ⟨_, rfl⟩
  obtain ⟨Q4, e4⟩ : ∃ Q, Q = k3 7 4 Q3 a b := ⟨_, rfl⟩
  obtain ⟨Q5, e5⟩ : ∃ Q, Q = k3 10 5 Q4 a b := ⟨_, rfl⟩
  obtain ⟨Q6, e6⟩ : ∃ Q, Q = k3 10 6 Q5 a b := ⟨_, rfl⟩
  have e7 : k4 P a b = k3 10 7 Q6 a b := by rw [e6, e5, e4, e3, e2, e1]; rfl
  have q1 : Q1.2 = P.2 := by rw [e1]; rfl
  have q2 : Q2.2 = P.2 := by rw [e2]; exact q1
  have q3 : Q3.2 = P.2 := by rw [e3]; exact q2
  have q4 : Q4.2 = P.2 := by rw [e4]; exact q3
  have q5 : Q5.2 = P.2 := by rw [e5]; exact q4
  have q6 : Q6.2 = P.2 := by rw [e6]; exact q5
  have f1 : ∀ c, c ≠ a → Q1.1 c = P.1 c := fun c hc => by rw [e1]; unfold k1; rw [sI_ne hc, sI_ne hc]
  have f2 : ∀ c, c ≠ a → Q2.1 c = P.1 c := fun c hc => by rw [e2]; unfold k2; rw [sI_ne hc]; exact f1 c hc
  have f3 : ∀ c, c ≠ a + 1 → Q3.1 c = Q2.1 c := fun c hc => by rw [e3]; exact k3_ne (by rw [q2, ra 3 (by decide) (by decide)]; omega)
  have f4 : ∀ c, c ≠ a + 2 → Q4.1 c = Q3.1 c := fun c hc => by rw [e4]; exact k3_ne (by rw [q3, ra 4 (by decide) (by decide)]; omega)
  have f5 : ∀ c, c ≠ a + 3 → Q5.1 c = Q4.1 c := fun c hc => by rw [e5]; exact k3_ne (by rw [q4, ra 5 (by decide) (by decide)]; omega)
  have f6 : ∀ c, c ≠ a + 4 → Q6.1 c = Q5.1 c := fun c hc => by rw [e6]; exact k3_ne (by rw [q5, ra 6 (by decide) (by decide)]; omega)
  have f7 : ∀ c, c ≠ a + 5 → (k4 P a b).1 c = Q6.1 c := fun c hc => by rw [e7]; exact k3_ne (by rw [q6, ra 7 (by decide) (by decide)]; omega)
  have g3 : ∀ j, j < 6 → Q3.1 (a + 1) j = P.1 (b + 1) j := fun j hj => by
    have h := k3_eq (n := 6) (f := 3) (P := Q2) (a := a) (b := b) hj
    rw [q2, ra 3 (by decide) (by decide), rb 3 (by decide) (by decide), ← e3, show a + 3 - 2 = a + 1 by omega, show b + 3 - 2 = b + 1 by omega, f2 (b + 1) (by omega)] at h
    exact h
  have g4 : ∀ j, j < 7 → Q4.1 (a + 2) j = P.1 (b + 2) j := fun j hj => by
    have h := k3_eq (n := 7) (f := 4) (P := Q3) (a := a) (b := b) hj
    rw [q3, ra 4 (by decide) (by decide), rb 4 (by decide) (by decide), ← e4, show a + 4 - 2 = a + 2 by omega, show b + 4 - 2 = b + 2 by omega, f3 (b + 2) (by omega), f2 (b + 2) (by omega)] at h
    exact h
  have g5 : ∀ j, j < 10 → Q5.1 (a + 3) j = P.1 (b + 3) j := fun j hj => by
    have h := k3_eq (n := 10) (f := 5) (P := Q4) (a := a) (b := b) hj
    rw [q4, ra 5 (by decide) (by decide), rb 5 (by decide) (by decide), ← e5, show a + 5 - 2 = a + 3 by omega, show b + 5 - 2 = b + 3 by omega, f4 (b + 3) (by omega), f3 (b + 3) (by omega), f2 (b + 3) (by omega)] at h
    exact h
  have g6 : ∀ j, j < 10 → Q6.1 (a + 4) j = P.1 (b + 4) j := fun j hj => by
    have h := k3_eq (n := 10) (f := 6) (P := Q5) (a := a) (b := b) hj
    rw [q5, ra 6 (by decide) (by decide), rb 6 (by decide) (by decide), ← e6, show a + 6 - 2 = a + 4 by omega, show b + 6 - 2 = b + 4 by omega, f5 (b + 4) (by omega), f4 (b + 4) (by omega), f3 (b + 4) (by omega), f2 (b + 4) (by omega)] at h
    exact h
  have g7 : ∀ j, j < 10 → (k4 P a b).1 (a + 5) j = P.1 (b + 5) j := fun j hj => by
    have h := k3_eq (n := 10) (f := 7) (P := Q6) (a := a) (b := b) hj
    rw [q6, ra 7 (by decide) (by decide), rb 7 (by decide) (by decide), ← e7, show a + 7 - 2 = a + 5 by omega, show b + 7 - 2 = b + 5 by omega, f6 (b + 5) (by omega), f5 (b + 5) (by omega), f4 (b + 5) (by omega), f3 (b + 5) (by omega), f2 (b + 5) (by omega)] at h
    exact h
  have ga : (k4 P a b).1 a = Q2.1 a := by rw [f7 a (by omega), f6 a (by omega), f5 a (by omega), f4 a (by omega), f3 a (by omega)]
  have gb1 : (sI P a 0 (P.1 b 0)).1 b = P.1 b := sI_ne (by omega)
  have w0 : Q2.1 a 0 = P.1 b 0 := by rw [e2]; unfold k2; rw [sI_eq, upd_ne (by decide), e1]; unfold k1; rw [sI_eq, upd_ne (by decide), sI_eq, upd_eq]
  have w1 : Q2.1 a 1 = P.1 b 1 := by rw [e2]; unfold k2; rw [sI_eq, upd_ne (by decide), e1]; unfold k1; rw [sI_eq, upd_eq, gb1]
  have w2 : Q2.1 a 2 = P.1 b 2 := by rw [e2]; unfold k2; rw [sI_eq, upd_eq, f1 b (by omega)]
  have rA : ∀ f, 3 ≤ f → f < 8 → rho0 a f = a + f - 2 := fun f h1 h2 => nwc_r ha h1 h2
  have rB : ∀ f, 3 ≤ f → f < 8 → rho0 b f = b + f - 2 := fun f h1 h2 => nwc_r hb h1 h2
  obtain ⟨n1, n2, n3, n4, n5, n6⟩ := N
  rw [rB 3 (by decide) (by decide), show b + 3 - 2 = b + 1 by omega] at n4
  rw [rB 4 (by decide) (by decide), show b + 4 - 2 = b + 2 by omega] at n5
  rw [rB 5 (by decide) (by decide), rB 6 (by decide) (by decide), rB 7 (by decide) (by decide), show b + 5 - 2 = b + 3 by omega, show b + 6 - 2 = b + 4 by omega, show b + 7 - 2 = b + 5 by omega] at n6
  refine ⟨by rw [e7]; exact q6, fun c hc => ?_, by rw [ga, w0]; exact n1, by rw [ga, w1]; exact n2, by rw [ga, w2]; exact n3, fun p hp => ?_, fun r hr => ?_, fun i hi => ⟨?_, ?_, ?_⟩⟩
  · rw [f7 c (by omega), f6 c (by omega), f5 c (by omega), f4 c (by omega), f3 c (by omega), f2 c (by omega)]
  · rw [rA 3 (by decide) (by decide), show a + 3 - 2 = a + 1 by omega, f7 _ (by omega), f6 _ (by omega), f5 _ (by omega), f4 _ (by omega), g3 p (by omega)]
    exact n4 p hp
  · rw [rA 4 (by decide) (by decide), show a + 4 - 2 = a + 2 by omega, f7 _ (by omega), f6 _ (by omega), f5 _ (by omega), g4 r (by omega)]
    exact n5 r hr
  · rw [rA 5 (by decide) (by decide), show a + 5 - 2 = a + 3 by omega, f7 _ (by omega), f6 _ (by omega), g5 i (by omega)]
    exact (n6 i hi).1
  · rw [rA 6 (by decide) (by decide), show a + 6 - 2 = a + 4 by omega, f7 _ (by omega), g6 i (by omega)]
    exact (n6 i hi).2.1
  · rw [rA 7 (by decide) (by decide), show a + 7 - 2 = a + 5 by omega, g7 i (by omega)]
    exact (n6 i hi).2.2
section IMAGE
variable {P : PH} {sw : Bool} {g : SG} {d : SD} {hist : List (Nat × Nat × Nat)} {m sn tl : Nat}
theorem nwc_ns (sw : Bool) : nwc (ns sw) := by
  cases sw
  · exact Or.inr (Or.inr (Or.inl rfl))
  · exact Or.inr (Or.inr (Or.inr rfl))
theorem nwc_img {i : Nat} (h : i < 2) : nwc (img i) := by
  have : i = 0 ∨ i = 1 := by omega
  rcases this with rfl | rfl
  · exact Or.inl rfl
  · exact Or.inr (Or.inl rfl)
theorem img_ns {i : Nat} (h : i < 2) : img i ≠ ns sw := by
  have : i = 0 ∨ i = 1 := by omega
  cases sw <;> rcases this with rfl | rfl <;> decide
theorem img_r (h : P.2.2 = rhoS sw) {i : Nat} (hi : i < 2) : P.2.2 (P.2.2 0 4) i = img i := by
  rw [h]
  have : i = 0 ∨ i = 1 := by omega
  cases sw <;> rcases this with rfl | rfl <;> rfl
theorem two_c {x : Int32} (h1 : ¬ x < 0) (h2 : x < 2) : ∃ i : Nat, i < 2 ∧ x = nI i := by
  obtain ⟨i, hi, rfl⟩ := nI_of h1
  rw [show (2 : Int32) = nI 2 from rfl, nI_ltI hi (by omega)] at h2
  exact ⟨i, h2, rfl⟩
theorem in_01 {i : Nat} (hi : i < 2) : decide (¬ nI i < 0 ∧ ¬ (1 : Int32) < nI i) = true := by
  refine decide_eq_true ⟨nI_pos (by omega), ?_⟩
  rw [show (1 : Int32) = nI 1 from rfl, nI_ltI (by omega) (by omega)]
  omega
theorem out_01 {x : Int32} (h : ¬ (¬ x < 0 ∧ x < 2)) : ¬ decide (¬ x < 0 ∧ ¬ (1 : Int32) < x) = true := fun q => by
  rw [decide_eq_true_eq] at q
  refine h ⟨q.1, ?_⟩
  obtain ⟨i, hi, rfl⟩ := nI_of q.1
  have q2 := q.2
  rw [show (1 : Int32) = nI 1 from rfl, nI_ltI (by omega) hi] at q2
  exact (nI_ltI (b := 2) hi (by omega)).mpr (by omega)
theorem k_keep (h : SRx P sw g d hist m sn tl) (x : Int32) : MOK P (f_X9_keep P 0 x) (fun Q => f_X10_keep Q 47 x) := by
  have hnp := h.np
  have hnr := h.nr
  have h51 := h.2.2.2.2.2.2.1
  by_cases hx : ¬ x < 0 ∧ x < 2
  case neg =>
    refine h.mok (v := -1) (P2 := P) ?_ ?_ (Ag.rf sw P)
    · unfold f_X9_keep
      by_cases h0 : x < 0
      · rw [if_pos h0]
      · rw [if_neg h0, if_neg (fun q => hx ⟨h0, q⟩)]
    · show f_X10_keep P 47 x = _
      unfold f_X10_keep
      rw [m_in, Option.bind_some, if_b2i, if_neg (out_01 hx)]
  obtain ⟨i, hi, rfl⟩ := two_c hx.1 hx.2
  obtain ⟨hm4, hm5, hIm⟩ := h.2.2.2.2.2.2.2.2.1
  obtain ⟨b1, b2, b3⟩ := c_copy h.1 (nwc_img hi) (nwc_ns sw) (img_ns hi) hnp hnr h.2.2.1.2.2.1 h.2.2.2.2.2.1
  have himg : 15 ≤ img i ∧ img i ≤ 21 := by unfold img; split <;> omega
  obtain ⟨Q1, e1⟩ : ∃ Q, Q = k4 P (img i) (ns sw) := ⟨_, rfl⟩
  rw [← e1] at b1 b2 b3
  obtain ⟨P2, e2⟩ : ∃ Q, Q = sI Q1 0 5 (nI (m ||| 2 ^ i)) := ⟨_, rfl⟩
  have p2 : P2.2 = P.2 := by rw [e2]; exact b1
  have pf : ∀ c, c ≠ 0 → (c < img i ∨ img i + 5 < c) → P2.1 c = P.1 c := fun c h0 hc => by rw [e2, sI_ne h0]; exact b2 c hc
  have m2 : MR P2 := by unfold MR; rw [p2]; exact h.mr
  have r53 : P2.2.2 47 8 = 53 := by rw [m2]; rfl
  have r54 : P2.2.2 47 9 = 54 := by rw [m2]; rfl
  obtain ⟨P3, e3⟩ : ∃ Q, Q = cpP P2 53 (46 * i) 51 0 46 := ⟨_, rfl⟩
  have c3 : ∀ c, c ≠ 53 → P3.1 c = P2.1 c := fun c hc => by rw [e3]; unfold cpP; exact sA_ne hc
  have p3 : P3.2 = P.2 := by rw [e3]; exact p2
  have m3 : MR P3 := by unfold MR; rw [p3]; exact h.mr
  have c53 : ∀ j, P3.1 53 j = if 46 * i ≤ j ∧ j < 46 * i + 46 then P.1 51 (j - 46 * i) else P.1 53 j := fun j => by
    rw [e3]
    unfold cpP
    rw [sA_eq]
    show (if 46 * i ≤ j ∧ j < 46 * i + 46 then P2.1 51 (0 + (j - 46 * i)) else P2.1 53 j) = _
    rw [pf 51 (by decide) (by omega), pf 53 (by decide) (by omega), Nat.zero_add]
  have hday : P2.1 (ns sw) 0 = nI (d_day d) := by
    rw [e2, sI_ne (ns_0 sw), b2 (ns sw) (by
      have hn := img_ns (sw := sw) hi
      cases sw
      · show 31 < _ ∨ _ < 31; omega
      · show 41 < _ ∨ _ < 41; omega)]
    exact h.2.2.2.2.2.1.1
  have n0 : ∀ c, c < img i ∨ img i + 5 < c → c ≠ 0 → c ≠ 53 → c ≠ 54 → (sI P3 54 i 1).1 c = P.1 c := fun c hc h0 h53 h54 => by rw [sI_ne h54, c3 c h53, pf c h0 hc]
  refine ⟨nI (d_day d), P2, sI P3 54 i 1, ?_, ?_, sw, g, d, hist, m ||| 2 ^ i, sn, tl, ?_⟩
  · unfold f_X9_keep
    have z5 : Q1.1 0 5 = nI m := by rw [b2 0 (by omega)]; exact hm5
    have z0 : P2.2.2 (P2.2.2 0 6) 5 = ns sw := by rw [p2, h.house, h.now]
    rw [if_neg hx.1, if_pos hx.2, gd (by omega) (by decide), nI_clamp (by omega), img_r h.1 hi, h.house, h.now, c_copy_eq, ← e1, Option.bind_some, z5, mb_sh (by omega), fa_or, ← e2, Option.bind_some, z0, hday]
  · show f_X10_keep P2 47 (nI i) = _
    unfold f_X10_keep
    rw [m_in, Option.bind_some, if_b2i, if_pos (in_01 hi), r53, mr_st m2, show (46 : Int32) = nI 46 from rfl, pk_mul, show (0 : Int32) = nI 0 from rfl, cp_eq 92 46 P2 53 (46 * i) 51 0 (by decide) (by omega) (by decide) (by decide) (by decide), ← e3, Option.bind_some]
    show (if ((nI i) < 0 ∨ 2 ≤ (nI i).toNatClampNeg) then none else ((some (sI P3 (P3.2.2 47 9) (nI i).toNatClampNeg (1 : Int32))).bind fun P6 => (if ((0 : Int32) < 0 ∨ 46 ≤ (0 : Int32).toNatClampNeg) then none else some ((P6.1 (P6.2.2 47 5) (0 : Int32).toNatClampNeg), P6)))) = _
    rw [gd (by omega) (by decide), nI_clamp (by omega), show P3.2.2 47 9 = 54 by rw [m3]; rfl, Option.bind_some, g_0, t_0]
    show some ((sI P3 54 i 1).1 (P3.2.2 47 5) 0, _) = _
    rw [mr_st m3, n0 51 (by omega) (by decide) (by decide) (by decide), h51.1]
  · refine h.gen p3 (fun c hc => ?_) (fun j _ _ => by rw [n0 47 (by omega) (by decide) (by decide) (by decide)]) ⟨?_, ?_, fun k hk => ?_⟩ (h.2.2.2.2.2.2.2.2.2.1.ag (by rw [n0 9 (by omega) (by decide) (by decide) (by decide)]) (n0 10 (by omega) (by decide) (by decide) (by decide)) (n0 11 (by omega) (by decide) (by decide) (by decide)) (n0 12 (by omega) (by decide) (by decide) (by decide)) (by rw [n0 47 (by omega) (by decide) (by decide) (by decide)]) (n0 55 (by omega) (by decide) (by decide) (by decide))) (h.2.2.2.2.2.2.2.2.2.2.1.fr (by rw [n0 2 (by omega) (by decide) (by decide) (by decide)]) (n0 3 (by omega) (by decide) (by decide) (by decide)) (by rw [n0 47 (by omega) (by decide) (by decide) (by decide)]) (n0 56 (by omega) (by decide) (by decide) (by decide)))
    · have hc' : (5 ≤ c ∧ c ≤ 8) ∨ (27 ≤ c ∧ c ≤ 46) ∨ (48 ≤ c ∧ c ≤ 52) := by
        unfold kpc at hc
        simp only [Bool.or_eq_true, decide_eq_true_eq] at hc
        exact hc
      exact n0 c (by omega) (by omega) (by omega) (by omega)
    · exact Nat.or_lt_two_pow (n := 2) hm4 (Nat.pow_lt_pow_right (by decide) hi)
    · rw [sI_ne (by decide), c3 0 (by decide), e2, sI_eq, upd_eq]
    · have hb : (m ||| 2 ^ i).testBit k = (m.testBit k || decide (i = k)) := by rw [Nat.testBit_or, Nat.testBit_two_pow]
      rw [hb]
      by_cases hik : i = k
      · subst hik
        rw [decide_eq_true (rfl : i = i), Bool.or_true]
        refine ⟨fun _ => ⟨?_, d, h.2.2.1, ?_, ?_⟩, fun q => by cases q⟩
        · rw [sI_eq, upd_eq]
        · have hN : NDc Q1.1 (img i) (g_np g) (g_nr g) d := b3
          refine hN.ag (fun j _ => ?_) (fun f hf hf8 j => ?_)
          · rw [sI_ne (by omega), c3 _ (by omega), e2, sI_ne (by omega)]
          · have := nwc_r (nwc_img hi) hf hf8
            rw [sI_ne (by omega), c3 _ (by omega), e2, sI_ne (by omega)]
        · refine h51.ag hnp hnr h.2.2.1.2.2.1 (fun j hj => ?_)
          show (sI P3 54 i 1).1 53 (46 * i + j) = _
          rw [sI_ne (by decide), c53, if_pos (by omega), show 46 * i + j - 46 * i = j by omega]
      · rw [decide_eq_false hik, Bool.or_false]
        have hki : img k + 5 < img i ∨ img i + 5 < img k := by
          have h1 : i = 0 ∧ k = 1 ∨ i = 1 ∧ k = 0 := by omega
          rcases h1 with ⟨rfl, rfl⟩ | ⟨rfl, rfl⟩ <;> decide
        have himk : 15 ≤ img k ∧ img k ≤ 21 := by unfold img; split <;> omega
        refine ⟨fun hmk => ?_, fun hmk => ?_⟩
        · obtain ⟨x1, di, x2, x3, x4⟩ := (hIm k hk).1 hmk
          refine ⟨?_, di, x2, ?_, ?_⟩
          · rw [sI_eq, upd_ne (Ne.symm hik), c3 54 (by decide), pf 54 (by decide) (by omega)]
            exact x1
          · refine x3.ag (fun j _ => ?_) (fun f hf hf8 j => ?_)
            · rw [n0 _ (by omega) (by omega) (by omega) (by omega)]
            · have := nwc_r (nwc_img hk) hf hf8
              rw [n0 _ (by omega) (by omega) (by omega) (by omega)]
          · refine x4.ag hnp hnr x2.2.2.1 (fun j hj => ?_)
            show (sI P3 54 i 1).1 53 (46 * k + j) = P.1 53 (46 * k + j)
            rw [sI_ne (by decide), c53, if_neg (by omega)]
        · rw [sI_eq, upd_ne (Ne.symm hik), c3 54 (by decide), pf 54 (by decide) (by omega)]
          exact (hIm k hk).2 hmk
theorem k_back (h : SRx P sw g d hist m sn tl) (x : Int32) : MOK P (f_X9_back P 0 x) (fun Q => f_X10_back Q 47 x) := by
  have hnp := h.np
  have hnr := h.nr
  by_cases hx : ¬ x < 0 ∧ x < 2
  case neg =>
    refine h.mok (v := -1) (P2 := P) ?_ ?_ (Ag.rf sw P)
    · unfold f_X9_back
      by_cases h0 : x < 0
      · rw [if_pos h0]
      · rw [if_neg h0, if_neg (fun q => hx ⟨h0, q⟩)]
    · show f_X10_back P 47 x = _
      unfold f_X10_back
      rw [m_in, Option.bind_some, if_b2i, if_neg (out_01 hx)]
  obtain ⟨i, hi, rfl⟩ := two_c hx.1 hx.2
  obtain ⟨hm4, hm5, hIm⟩ := h.2.2.2.2.2.2.2.2.1
  have r54 : ∀ {Q : PH}, Q.2 = P.2 → Q.2.2 47 9 = 54 := fun hq => by rw [hq, h.mr]; rfl
  by_cases hb : m.testBit i = true
  case neg =>
    have hb' : m.testBit i = false := by simpa using hb
    refine h.mok (v := -2) (P2 := P) ?_ ?_ (Ag.rf sw P)
    · unfold f_X9_back
      rw [if_neg hx.1, if_pos hx.2, hm5, if_pos ((mb_f (by omega) (by omega)).mpr hb')]
    · show f_X10_back P 47 (nI i) = _
      unfold f_X10_back
      rw [m_in, Option.bind_some, if_b2i, if_pos (in_01 hi), gd (by omega) (by decide), nI_clamp (by omega), r54 rfl, (hIm i hi).2 hb', if_pos rfl]
  obtain ⟨x1, di, x2, x3, x4⟩ := (hIm i hi).1 hb
  obtain ⟨b1, b2, b3⟩ := c_copy h.1 (nwc_ns sw) (nwc_img hi) (Ne.symm (img_ns hi)) hnp hnr x2.2.2.1 x3
  obtain ⟨Q1, e1⟩ : ∃ Q, Q = k4 P (ns sw) (img i) := ⟨_, rfl⟩
  rw [← e1] at b1 b2 b3
  have n5 : 5 < ns sw := by cases sw <;> decide
  have n46 : ns sw + 5 < 47 := by cases sw <;> decide
  obtain ⟨P2, e2⟩ : ∃ Q, Q = sI Q1 5 0 0 := ⟨_, rfl⟩
  have p2 : P2.2 = P.2 := by rw [e2]; exact b1
  have pf : ∀ c, c ≠ 5 → (c < ns sw ∨ ns sw + 5 < c) → P2.1 c = P.1 c := fun c h0 hc => by rw [e2, sI_ne h0]; exact b2 c hc
  have m2 : MR P2 := by unfold MR; rw [p2]; exact h.mr
  have r53 : P2.2.2 47 8 = 53 := by rw [m2]; rfl
  obtain ⟨P3, e3⟩ : ∃ Q, Q = cpP P2 51 0 53 (46 * i) 46 := ⟨_, rfl⟩
  have c3 : ∀ c, c ≠ 51 → P3.1 c = P2.1 c := fun c hc => by rw [e3]; unfold cpP; exact sA_ne hc
  have p3 : P3.2 = P.2 := by rw [e3]; exact p2
  have m3 : MR P3 := by unfold MR; rw [p3]; exact h.mr
  have c51 : ∀ j, j < 46 → P3.1 51 j = P.1 53 (46 * i + j) := fun j hj => by
    rw [e3]
    unfold cpP
    rw [sA_eq]
    show (if 0 ≤ j ∧ j < 0 + 46 then P2.1 53 (46 * i + (j - 0)) else _) = _
    rw [if_pos (by omega), pf 53 (by decide) (by omega), Nat.sub_zero]
  have hN2 : NDc P2.1 (ns sw) (g_np g) (g_nr g) di := by
    refine b3.ag (fun j _ => ?_) (fun f hf hf8 j => ?_)
    · rw [e2, sI_ne (by omega)]
    · have := nwc_r (nwc_ns sw) hf hf8
      rw [e2, sI_ne (by omega)]
  have hM3 : MD (P3.1 51) (g_np g) (g_nr g) di := x4.ag hnp hnr x2.2.2.1 c51
  refine ⟨nI (d_day di), P2, sI P3 47 7 0, ?_, ?_, sw, g, di, [], m, sn, tl, ?_⟩
  · unfold f_X9_back
    have e5 : P.2.2 0 1 = 5 := by rw [h.1]; rfl
    have z0 : P2.2.2 (P2.2.2 0 6) 5 = ns sw := by rw [p2, h.house, h.now]
    have q5 : Q1.2.2 0 1 = 5 := by rw [b1]; exact e5
    rw [if_neg hx.1, if_pos hx.2, hm5, if_neg (fun q => by rw [(mb_f (by omega) (by omega)).mp q] at hb; cases hb), gd (by omega) (by decide), nI_clamp (by omega), img_r h.1 hi, h.house, h.now, c_copy_eq, ← e1, Option.bind_some, q5, ← e2, z0, hN2.1]
  · show f_X10_back P2 47 (nI i) = _
    have z54 : P2.1 54 i = 1 := by rw [pf 54 (by decide) (by omega)]; exact x1
    unfold f_X10_back
    rw [m_in, Option.bind_some, if_b2i, if_pos (in_01 hi), gd (by omega) (by decide), nI_clamp (by omega), r54 p2, z54, if_neg (by decide), r53, mr_st m2, show (46 : Int32) = nI 46 from rfl, pk_mul, show (0 : Int32) = nI 0 from rfl, cp_eq 46 92 P2 51 0 53 (46 * i) (by decide) (by decide) (by omega) (by decide) (by decide), ← e3, Option.bind_some]
    show (if ((0 : Int32) < 0 ∨ 46 ≤ (0 : Int32).toNatClampNeg) then none else some (((sI P3 47 7 (0 : Int32)).1 (P3.2.2 47 5) (0 : Int32).toNatClampNeg), (sI P3 47 7 (0 : Int32)))) = _
    rw [g_0, t_0, mr_st m3, sI_ne (by decide), hM3.1]
    rfl
  · refine h.new p3 (fun c x0 x5 x6 x7 x8 x47 x51 x52 => ?_) (fun j hj => ?_) x2 ?_ ?_ ⟨trivial, by decide, ?_, ?_⟩
    · have hc : c < ns sw ∨ ns sw + 5 < c := by
        unfold nsc at x0
        cases sw
        · simp at x0
          show c < 31 ∨ 36 < c
          omega
        · simp at x0
          show c < 41 ∨ 46 < c
          omega
      rw [sI_ne x47, c3 c x51, pf c x5 hc]
    · rw [sI_eq, upd_ne hj, c3 47 (by decide), pf 47 (by decide) (by omega)]
    · refine hN2.ag (fun j _ => ?_) (fun f hf hf8 j => ?_)
      · rw [sI_ne (by omega), c3 _ (by omega)]
      · have := nwc_r (nwc_ns sw) hf hf8
        rw [sI_ne (by omega), c3 _ (by omega)]
    · rw [sI_ne (by decide)]
      exact hM3
    · rw [sI_ne (by decide), c3 5 (by decide), e2, sI_eq, upd_eq]
      rfl
    · rw [sI_eq, upd_eq]
      rfl
end IMAGE
