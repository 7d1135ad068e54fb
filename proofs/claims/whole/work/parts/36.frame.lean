/-! what is done: the frame -/
def nsc (sw : Bool) (c : Nat) : Bool := if sw then decide (41 ≤ c) && decide (c ≤ 46) else decide (31 ≤ c) && decide (c ≤ 36)
theorem IM.fr {s s' : PI} {np nr m : Nat} (h : IM s np nr m) (a : ∀ c, (c = 0 ∨ (15 ≤ c ∧ c ≤ 26) ∨ c = 53 ∨ c = 54) → s' c = s c) : IM s' np nr m := by
  refine ⟨h.1, by rw [a 0 (Or.inl rfl)]; exact h.2.1, fun i hi => ⟨fun hb => ?_, fun hb => by rw [a 54 (Or.inr (Or.inr (Or.inr rfl)))]; exact (h.2.2 i hi).2 hb⟩⟩
  obtain ⟨x1, di, x2, x3, x4⟩ := (h.2.2 i hi).1 hb
  refine ⟨by rw [a 54 (Or.inr (Or.inr (Or.inr rfl)))]; exact x1, di, x2, ?_, by rw [a 53 (Or.inr (Or.inr (Or.inl rfl)))]; exact x4⟩
  have hi2 : i = 0 ∨ i = 1 := by omega
  refine x3.ag (fun j _ => by rw [a _ (Or.inr (Or.inl (by rcases hi2 with rfl | rfl <;> decide)))]) (fun f hf hf8 j => ?_)
  have hf2 : f = 3 ∨ f = 4 ∨ f = 5 ∨ f = 6 ∨ f = 7 := by omega
  rw [a _ (Or.inr (Or.inl (by rcases hi2 with rfl | rfl <;> rcases hf2 with rfl | rfl | rfl | rfl | rfl <;> decide)))]
theorem TX.fr {s s' : PI} {tl : Nat} (h : TX s tl) (h2 : s' 2 1 = s 2 1) (h3 : s' 3 = s 3) (h47 : s' 47 14 = s 47 14) (h56 : s' 56 = s 56) : TX s' tl := by
  unfold TX
  rw [h2, h3, h47, h56]
  exact h
theorem MG.fr {s s' : PI} {g : SG} (h : MG s g) (h0 : s' 47 0 = s 47 0) (h1 : s' 47 1 = s 47 1) (h48 : s' 48 = s 48) (h49 : s' 49 = s 49) (h50 : s' 50 = s 50) : MG s' g := by
  unfold MG
  rw [h0, h1, h48, h49, h50]
  exact h
section FRAME
variable {P : PH} {sw : Bool} {g : SG} {d : SD} {hist : List (Nat × Nat × Nat)} {m sn tl : Nat}
theorem nsc_lo (sw : Bool) {c : Nat} (h : c ≤ 26 ∨ 47 ≤ c) : nsc sw c = false := by
  unfold nsc
  cases sw <;> simp <;> omega
theorem SRx.new {P' : PH} (h : SRx P sw g d hist m sn tl) {d' : SD} {hist' : List (Nat × Nat × Nat)} (h2 : P'.2 = P.2) (fr : ∀ c, nsc sw c = false → c ≠ 5 → c ≠ 6 → c ≠ 7 → c ≠ 8 → c ≠ 47 → c ≠ 51 → c ≠ 52 → P'.1 c = P.1 c) (f47 : ∀ j, j ≠ 7 → P'.1 47 j = P.1 47 j) (hd : VD (g_np g) (g_nr g) d') (hN : NDc P'.1 (ns sw) (g_np g) (g_nr g) d') (hM : MD (P'.1 51) (g_np g) (g_nr g) d') (hH : HL P'.1 (g_np g) (g_nr g) hist' d' ∧ hist'.length ≤ 10 ∧ P'.1 5 0 = nI hist'.length ∧ P'.1 47 7 = nI hist'.length) : SRx P' sw g d' hist' m sn tl := by
  obtain ⟨a1, a2, a3, a4, a5, a6, a7, a8, a9, a10, a11, a12⟩ := h
  have lo : ∀ c, (c ≤ 26 ∨ 47 < c) → c ≠ 5 → c ≠ 6 → c ≠ 7 → c ≠ 8 → c ≠ 51 → c ≠ 52 → P'.1 c = P.1 c := fun c hc x5 x6 x7 x8 x51 x52 => fr c (nsc_lo sw (by omega)) x5 x6 x7 x8 (by omega) x51 x52
  refine ⟨by rw [h2]; exact a1, a2, hd, a4.fr (fun c hc => fr c ?_ ?_ ?_ ?_ ?_ ?_ ?_ ?_), a5.fr (f47 0 (by decide)) (f47 1 (by decide)) (lo 48 (by decide) (by decide) (by decide) (by decide) (by decide) (by decide) (by decide)) (lo 49 (by decide) (by decide) (by decide) (by decide) (by decide) (by decide) (by decide)) (lo 50 (by decide) (by decide) (by decide) (by decide) (by decide) (by decide) (by decide)), hN, hM, hH, a9.fr (fun c hc => lo c (by omega) (by omega) (by omega) (by omega) (by omega) (by omega) (by omega)), a10.ag (by rw [lo 9 (by decide) (by decide) (by decide) (by decide) (by decide) (by decide) (by decide)]) (lo 10 (by decide) (by decide) (by decide) (by decide) (by decide) (by decide) (by decide)) (lo 11 (by decide) (by decide) (by decide) (by decide) (by decide) (by decide) (by decide)) (lo 12 (by decide) (by decide) (by decide) (by decide) (by decide) (by decide) (by decide)) (f47 10 (by decide)) (lo 55 (by decide) (by decide) (by decide) (by decide) (by decide) (by decide) (by decide)), a11.fr (by rw [lo 2 (by decide) (by decide) (by decide) (by decide) (by decide) (by decide) (by decide)]) (lo 3 (by decide) (by decide) (by decide) (by decide) (by decide) (by decide) (by decide)) (f47 14 (by decide)) (lo 56 (by decide) (by decide) (by decide) (by decide) (by decide) (by decide) (by decide)), by rw [h2]; exact a12⟩
  all_goals (cases sw <;> rcases hc with rfl | rfl | rfl | rfl <;> decide)
/-! the class's deeds -/
def l0 (len : Nat) : Nat := if len = 10 then 9 else len
def sh (len : Nat) : Nat := if len = 10 then 1 else 0
theorem c_add13 {Q : PH} {l : Nat} (e1 : Q.2.2 5 1 = 6) (e2 : Q.2.2 5 2 = 7) (e3 : Q.2.2 5 3 = 8) (h5 : Q.1 5 0 = nI l) (hl : l < 10) (x1 x2 x3 : Int32) : f_X1_add_J13 Q 5 x1 x2 x3 = some (sI (sI (sI (sI Q 6 l x1) 7 l x2) 8 l x3) 5 0 (nI (l + 1))) := by
  have a1 : (sI Q 6 l x1).1 5 0 = nI l := by rw [sI_ne (by decide)]; exact h5
  have a2 : (sI (sI Q 6 l x1) 7 l x2).1 5 0 = nI l := by rw [sI_ne (by decide)]; exact a1
  have a3 : (sI (sI (sI Q 6 l x1) 7 l x2) 8 l x3).1 5 0 = nI l := by rw [sI_ne (by decide)]; exact a2
  have b2 : (sI Q 6 l x1).2.2 5 2 = 7 := e2
  have b3 : (sI (sI Q 6 l x1) 7 l x2).2.2 5 3 = 8 := e3
  unfold f_X1_add_J13
  rw [h5, gd (by omega) (by decide), nI_clamp (by omega), e1, Option.bind_some, a1, gd (by omega) (by decide), nI_clamp (by omega), b2, Option.bind_some, a2, gd (by omega) (by decide), nI_clamp (by omega), b3, Option.bind_some, a3, nI_1]
def cyo (f : Nat → Int32) : Nat → Int32 := va_cpy f f 1 0 9
theorem c_lose {Q : PH} (e1 : Q.2.2 5 1 = 6) (e2 : Q.2.2 5 2 = 7) (e3 : Q.2.2 5 3 = 8) : f_X1_loseOldest Q 5 = some (sA (sA (sA (sI Q 5 0 9) 6 (cyo (Q.1 6))) 7 (cyo (Q.1 7))) 8 (cyo (Q.1 8))) := by
  have a0 : (sI Q 5 0 9).1 5 0 = 9 := by rw [sI_eq]; exact upd_eq
  have c1 : (sI Q 5 0 9).2.2 5 1 = 6 := e1
  have d6 : (sI Q 5 0 9).1 6 = Q.1 6 := sI_ne (by decide)
  have a1 : (sA (sI Q 5 0 9) 6 (cyo (Q.1 6))).1 5 0 = 9 := by rw [sA_ne (by decide)]; exact a0
  have c2 : (sA (sI Q 5 0 9) 6 (cyo (Q.1 6))).2.2 5 2 = 7 := e2
  have d7 : (sA (sI Q 5 0 9) 6 (cyo (Q.1 6))).1 7 = Q.1 7 := by rw [sA_ne (by decide), sI_ne (by decide)]
  have a2 : (sA (sA (sI Q 5 0 9) 6 (cyo (Q.1 6))) 7 (cyo (Q.1 7))).1 5 0 = 9 := by rw [sA_ne (by decide)]; exact a1
  have c3 : (sA (sA (sI Q 5 0 9) 6 (cyo (Q.1 6))) 7 (cyo (Q.1 7))).2.2 5 3 = 8 := e3
  have d8 : (sA (sA (sI Q 5 0 9) 6 (cyo (Q.1 6))) 7 (cyo (Q.1 7))).1 8 = Q.1 8 := by rw [sA_ne (by decide), sA_ne (by decide), sI_ne (by decide)]
  have gz : ∀ {α : Type} {A : Option α}, (if ((1 : Int32) < 0 ∨ (0 : Int32) < 0 ∨ (9 : Int32) < 0 ∨ 10 < (1 : Int32).toNatClampNeg + (9 : Int32).toNatClampNeg ∨ 10 < (0 : Int32).toNatClampNeg + (9 : Int32).toNatClampNeg) then none else A) = A := if_neg (by decide)
  unfold f_X1_loseOldest
  rw [a0, gz, c1, d6]
  show ((some (sA (sI Q 5 0 9) 6 (cyo (Q.1 6)))).bind _) = _
  rw [Option.bind_some, a1, gz, c2, d7]
  show ((some (sA (sA (sI Q 5 0 9) 6 (cyo (Q.1 6))) 7 (cyo (Q.1 7)))).bind _) = _
  rw [Option.bind_some, a2, gz, c3, d8]
  rfl
theorem c_add {Q : PH} {len : Nat} (hr : Q.2.2 = rhoS sw) (h5 : Q.1 5 0 = nI len) (hl : len ≤ 10) (x1 x2 x3 : Int32) : ∃ Q', f_X1_add Q 5 x1 x2 x3 = some Q' ∧ Q'.2 = Q.2 ∧ (∀ c, c ≠ 5 → c ≠ 6 → c ≠ 7 → c ≠ 8 → Q'.1 c = Q.1 c) ∧ Q'.1 5 0 = nI (l0 len + 1) ∧ (Q'.1 6 (l0 len) = x1 ∧ Q'.1 7 (l0 len) = x2 ∧ Q'.1 8 (l0 len) = x3) ∧ ∀ i, i < l0 len → Q'.1 6 i = Q.1 6 (i + sh len) ∧ Q'.1 7 i = Q.1 7 (i + sh len) ∧ Q'.1 8 i = Q.1 8 (i + sh len) := by
  have e1 : Q.2.2 5 1 = 6 := by rw [hr]; rfl
  have e2 : Q.2.2 5 2 = 7 := by rw [hr]; rfl
  have e3 : Q.2.2 5 3 = 8 := by rw [hr]; rfl
  have gen : ∀ (R : PH) (l : Nat) (hl : l < 10) (s : Nat), R.2 = Q.2 → R.1 5 0 = nI l → (∀ c, c ≠ 5 → c ≠ 6 → c ≠ 7 → c ≠ 8 → R.1 c = Q.1 c) → (∀ i, i < l → R.1 6 i = Q.1 6 (i + s) ∧ R.1 7 i = Q.1 7 (i + s) ∧ R.1 8 i = Q.1 8 (i + s)) → ∃ Q', f_X1_add_J13 R 5 x1 x2 x3 = some Q' ∧ Q'.2 = Q.2 ∧ (∀ c, c ≠ 5 → c ≠ 6 → c ≠ 7 → c ≠ 8 → Q'.1 c = Q.1 c) ∧ Q'.1 5 0 = nI (l + 1) ∧ (Q'.1 6 l = x1 ∧ Q'.1 7 l = x2 ∧ Q'.1 8 l = x3) ∧ ∀ i, i < l → Q'.1 6 i = Q.1 6 (i + s) ∧ Q'.1 7 i = Q.1 7 (i + s) ∧ Q'.1 8 i = Q.1 8 (i + s) := by
    intro R l hl s r2 r5 rf ri
    refine ⟨_, c_add13 (by rw [r2]; exact e1) (by rw [r2]; exact e2) (by rw [r2]; exact e3) r5 hl x1 x2 x3, r2, ?_, ?_, ⟨?_, ?_, ?_⟩, ?_⟩
    · intro c y5 y6 y7 y8
      rw [sI_ne y5, sI_ne y8, sI_ne y7, sI_ne y6]
      exact rf c y5 y6 y7 y8
    · rw [sI_eq]; exact upd_eq
    · rw [sI_ne (by decide), sI_ne (by decide), sI_ne (by decide), sI_eq]; exact upd_eq
    · rw [sI_ne (by decide), sI_ne (by decide), sI_eq]; exact upd_eq
    · rw [sI_ne (by decide), sI_eq]; exact upd_eq
    · intro i hi
      obtain ⟨z1, z2, z3⟩ := ri i hi
      refine ⟨?_, ?_, ?_⟩
      · rw [sI_ne (by decide), sI_ne (by decide), sI_ne (by decide), sI_eq, upd_ne (by omega)]; exact z1
      · rw [sI_ne (by decide), sI_ne (by decide), sI_eq, upd_ne (by omega), sI_ne (by decide)]; exact z2
      · rw [sI_ne (by decide), sI_eq, upd_ne (by omega), sI_ne (by decide), sI_ne (by decide)]; exact z3
  unfold f_X1_add
  rw [h5]
  by_cases h10 : len = 10
  · subst h10
    rw [if_neg (by decide), c_lose e1 e2 e3, Option.bind_some]
    refine gen _ 9 (by decide) 1 rfl ?_ ?_ ?_
    · rw [sA_ne (by decide), sA_ne (by decide), sA_ne (by decide), sI_eq]; exact upd_eq
    · intro c y5 y6 y7 y8
      rw [sA_ne y8, sA_ne y7, sA_ne y6, sI_ne y5]
    · intro i hi
      have hc : ∀ f : Nat → Int32, cyo f i = f (i + 1) := fun f => by
        unfold cyo va_cpy
        rw [if_pos (by omega)]
        congr 1
        omega
      refine ⟨?_, ?_, ?_⟩
      · rw [sA_ne (by decide), sA_ne (by decide), sA_eq, hc]
      · rw [sA_ne (by decide), sA_eq, hc]
      · rw [sA_eq, hc]
  · have q0 : l0 len = len := if_neg h10
    have q1 : sh len = 0 := if_neg h10
    rw [if_pos (show nI len < 10 from (nI_ltI (b := 10) (by omega) (by omega)).mpr (by omega)), q0, q1]
    exact gen Q len (by omega) 0 rfl h5 (fun _ _ _ _ _ => rfl) (fun i _ => ⟨rfl, rfl, rfl⟩)
/-! the model's deeds -/
def shP (Q : PH) (i : Nat) : PH := sA Q 52 (fun j => if j < i then Q.1 52 (j + 46) else Q.1 52 j)
theorem m_sh_L (Q : PH) (hr : Q.2.2 47 6 = 52) (K : PH → Option PH) : ∀ k i n, i + k = 414 → k < n → f_X10_remembers_L11 K 47 n (shP Q i) (nI i) = K (shP Q 414) := by
  intro k
  induction k with
  | zero =>
    intro i n hi hn
    obtain ⟨n, rfl⟩ := pre_n hn
    unfold f_X10_remembers_L11
    rw [if_pos (show (414 : Int32) ≤ nI i from nI_le (a := 414) (by omega) (by omega)), show i = 414 by omega]
  | succ k ih =>
    intro i n hi hn
    obtain ⟨n, rfl⟩ := pre_n hn
    have e0 : (shP Q i).2.2 47 6 = 52 := hr
    have e : sI (shP Q i) 52 i ((shP Q i).1 52 (i + 46)) = shP Q (i + 1) := by
      refine PH_ext rfl (fun c j => ?_)
      by_cases hc : c = 52
      · subst hc
        rw [sI_eq]
        unfold shP
        rw [sA_eq, sA_eq]
        unfold upd
        by_cases hj : j = i
        · subst hj
          rw [if_pos rfl]
          show (if j + 46 < j then _ else _) = (if j < j + 1 then _ else _)
          rw [if_neg (by omega), if_pos (by omega)]
        · rw [if_neg hj]
          show (if j < i then _ else _) = (if j < i + 1 then _ else _)
          by_cases hl : j < i
          · rw [if_pos hl, if_pos (by omega)]
          · rw [if_neg hl, if_neg (by omega)]
      · rw [sI_ne hc]
        unfold shP
        rw [sA_ne hc, sA_ne hc]
    unfold f_X10_remembers_L11
    rw [if_neg (show ¬ (414 : Int32) ≤ nI i from nI_ge (b := 414) (by omega) (by omega)), show (46 : Int32) = nI 46 from rfl, nI_add, gd (by omega) (by decide), gd (by omega) (by decide), nI_clamp (by omega), nI_clamp (by omega), e0, e, Option.bind_some, nI_1]
    exact ih (i + 1) n (by omega) (by omega)
theorem m_rem49 {R : PH} {l : Nat} (e5 : R.2.2 47 5 = 51) (e6 : R.2.2 47 6 = 52) (h7 : R.1 47 7 = nI l) (hl : l < 10) : f_X10_remembers_J49 R 47 = some (sI (cpP R 52 (46 * l) 51 0 46) 47 7 (nI (l + 1))) := by
  have a1 : (cpP R 52 (46 * l) 51 0 46).1 47 7 = nI l := by unfold cpP; rw [sA_ne (by decide)]; exact h7
  unfold f_X10_remembers_J49
  rw [h7, e5, e6, show (46 : Int32) = nI 46 from rfl, pk_mul, show (0 : Int32) = nI 0 from rfl, cp_eq 460 46 R 52 (46 * l) 51 0 (by decide) (by omega) (by decide) (by decide) (by decide), Option.bind_some, a1, nI_1]
theorem m_rem {Q : PH} {len : Nat} (hr : MR Q) (h7 : Q.1 47 7 = nI len) (hl : len ≤ 10) : ∃ Q', f_X10_remembers Q 47 = some Q' ∧ Q'.2 = Q.2 ∧ (∀ c, c ≠ 47 → c ≠ 52 → Q'.1 c = Q.1 c) ∧ (∀ j, j ≠ 7 → Q'.1 47 j = Q.1 47 j) ∧ Q'.1 47 7 = nI (l0 len + 1) ∧ (∀ j, j < 46 → Q'.1 52 (46 * l0 len + j) = Q.1 51 j) ∧ ∀ i, i < 46 * l0 len → Q'.1 52 i = Q.1 52 (i + 46 * sh len) := by
  have e5 : Q.2.2 47 5 = 51 := mr_st hr
  have e6 : Q.2.2 47 6 = 52 := by rw [hr]; rfl
  have gen : ∀ (R : PH) (l s : Nat), l < 10 → R.2 = Q.2 → R.1 47 7 = nI l → (∀ c, c ≠ 47 → c ≠ 52 → R.1 c = Q.1 c) → (∀ j, j ≠ 7 → R.1 47 j = Q.1 47 j) → (∀ i, i < 46 * l → R.1 52 i = Q.1 52 (i + s)) → ∃ Q', f_X10_remembers_J49 R 47 = some Q' ∧ Q'.2 = Q.2 ∧ (∀ c, c ≠ 47 → c ≠ 52 → Q'.1 c = Q.1 c) ∧ (∀ j, j ≠ 7 → Q'.1 47 j = Q.1 47 j) ∧ Q'.1 47 7 = nI (l + 1) ∧ (∀ j, j < 46 → Q'.1 52 (46 * l + j) = Q.1 51 j) ∧ ∀ i, i < 46 * l → Q'.1 52 i = Q.1 52 (i + s) := by
    intro R l s hl r2 r7 rf rg ri
    refine ⟨_, m_rem49 (by rw [r2]; exact e5) (by rw [r2]; exact e6) r7 hl, r2, ?_, ?_, ?_, ?_, ?_⟩
    · intro c y1 y2
      rw [sI_ne y1]
      unfold cpP
      rw [sA_ne y2]
      exact rf c y1 y2
    · intro j hj
      rw [sI_eq, upd_ne hj]
      unfold cpP
      rw [sA_ne (by decide)]
      exact rg j hj
    · rw [sI_eq]; exact upd_eq
    · intro j hj
      rw [sI_ne (by decide)]
      unfold cpP
      rw [sA_eq, rf 51 (by decide) (by decide)]
      show (if 46 * l ≤ 46 * l + j ∧ 46 * l + j < 46 * l + 46 then Q.1 51 (0 + (46 * l + j - 46 * l)) else _) = _
      rw [if_pos (by omega), show 0 + (46 * l + j - 46 * l) = j by omega]
    · intro i hi
      rw [sI_ne (by decide)]
      unfold cpP
      rw [sA_eq]
      show (if 46 * l ≤ i ∧ i < 46 * l + 46 then _ else R.1 52 i) = _
      rw [if_neg (by omega)]
      exact ri i hi
  unfold f_X10_remembers
  rw [h7]
  by_cases h10 : len = 10
  · subst h10
    have es : shP Q 0 = Q := by
      refine PH_ext rfl (fun c j => ?_)
      by_cases hc : c = 52
      · subst hc
        unfold shP
        rw [sA_eq]
        show (if j < 0 then _ else _) = _
        rw [if_neg (by omega)]
      · unfold shP
        rw [sA_ne hc]
    have hL := m_sh_L Q e6 (fun P7 => f_X10_remembers_J49 (sI P7 47 7 ((P7.1 47 7) - (1 : Int32))) 47) 414 0 1000 (by omega) (by omega)
    rw [es] at hL
    have e47 : (shP Q 414).1 47 7 = nI 10 := by unfold shP; rw [sA_ne (by decide)]; exact h7
    rw [if_pos (show nI 10 = 10 from rfl), show (0 : Int32) = nI 0 from rfl, hL, e47, show nI 10 - (1 : Int32) = nI 9 from rfl]
    refine gen _ 9 46 (by decide) rfl ?_ ?_ ?_ ?_
    · rw [sI_eq]; exact upd_eq
    · intro c y1 y2
      rw [sI_ne y1]
      unfold shP
      rw [sA_ne y2]
    · intro j hj
      rw [sI_eq, upd_ne hj]
      unfold shP
      rw [sA_ne (by decide)]
    · intro i hi
      rw [sI_ne (by decide)]
      unfold shP
      rw [sA_eq]
      show (if i < 414 then _ else _) = _
      rw [if_pos (by omega)]
  · have q0 : l0 len = len := if_neg h10
    have q1 : sh len = 0 := if_neg h10
    rw [if_neg (fun q : nI len = 10 => h10 ((nI_eq (b := 10) (by omega) (by omega)).mp q)), q0, q1]
    exact gen Q len 0 (by omega) rfl h7 (fun _ _ _ => rfl) (fun _ _ => rfl) (fun _ _ => rfl)
/-! the list of deeds -/
theorem HL.keep {s s' : PI} {np nr L : Nat} (hnp : np ≤ 6) (hnr : nr ≤ 7) (h6 : ∀ i, i < L → s' 6 i = s 6 i ∧ s' 7 i = s 7 i ∧ s' 8 i = s 8 i) (h52 : ∀ i, i < 46 * L → s' 52 i = s 52 i) : ∀ (l : List (Nat × Nat × Nat)) (d : SD), l.length ≤ L → HL s np nr l d → HL s' np nr l d
  | [], _, _, _ => trivial
  | q :: l, d, hl, ⟨h1, h2, d0, h3, h4, h5, h⟩ => by
    have hl' : l.length + 1 ≤ L := hl
    obtain ⟨x1, x2, x3⟩ := h6 l.length (by omega)
    exact ⟨h1, ⟨x1.trans h2.1, x2.trans h2.2.1, x3.trans h2.2.2⟩, d0, h3, h4, h5.ag hnp hnr h4.2.2.1 (fun j hj => h52 _ (by omega)), HL.keep hnp hnr h6 h52 l d0 (by omega) h⟩
theorem HL.drop {s s' : PI} {np nr L : Nat} (hnp : np ≤ 6) (hnr : nr ≤ 7) (h6 : ∀ i, i < L → s' 6 i = s 6 (i + 1) ∧ s' 7 i = s 7 (i + 1) ∧ s' 8 i = s 8 (i + 1)) (h52 : ∀ i, i < 46 * L → s' 52 i = s 52 (i + 46)) : ∀ (l : List (Nat × Nat × Nat)) (d : SD), l.length ≤ L + 1 → HL s np nr l d → HL s' np nr l.dropLast d
  | [], _, _, _ => trivial
  | [q], _, _, _ => trivial
  | q :: q2 :: l, d, hl, ⟨h1, h2, d0, h3, h4, h5, h⟩ => by
    have hl' : l.length + 1 + 1 ≤ L + 1 := hl
    have hlen : (q2 :: l).dropLast.length = l.length := by rw [List.length_dropLast]; rfl
    obtain ⟨x1, x2, x3⟩ := h6 l.length (by omega)
    refine ⟨h1, ?_, d0, h3, h4, ?_, HL.drop hnp hnr h6 h52 (q2 :: l) d0 (by show l.length + 1 ≤ L + 1; omega) h⟩
    · rw [hlen]
      exact ⟨x1.trans h2.1, x2.trans h2.2.1, x3.trans h2.2.2⟩
    · rw [hlen]
      refine h5.ag hnp hnr h4.2.2.1 (fun j hj => ?_)
      show s' 52 (46 * l.length + j) = s 52 (46 * (l.length + 1) + j)
      rw [h52 _ (by omega)]
      congr 1
      omega
def hs1 (l : List (Nat × Nat × Nat)) : List (Nat × Nat × Nat) := if l.length = 10 then l.dropLast else l
theorem hs1_len {l : List (Nat × Nat × Nat)} (h : l.length ≤ 10) : (hs1 l).length = l0 l.length := by
  unfold hs1 l0
  split
  · rename_i h1
    rw [List.length_dropLast, h1]
  · rfl
/-- a deed: the class's now is already the new one -/
theorem mutate (h : SRx P sw g d hist m sn tl) {q : Nat × Nat × Nat} {d' : SD} {P1 : PH} (e1 : P1.2 = P.2) (f1 : ∀ c, nsc sw c = false → P1.1 c = P.1 c) (hN : NDc P1.1 (ns sw) (g_np g) (g_nr g) d') (hd : VD (g_np g) (g_nr g) d') (hok : okd (g_np g) (g_nr g) q d') (heq : eqD (g_np g) (g_nr g) (und q d') d) :
    ∃ P2 P3, f_X1_add P1 5 (nI q.1) (nI q.2.1) (nI q.2.2) = some P2 ∧ P2.2 = P.2 ∧ (∀ c, 47 ≤ c → P2.1 c = P.1 c) ∧ CSx P2 sw g d' ∧ f_X10_remembers P2 47 = some P3 ∧ MR P3 ∧ P3.1 51 = P.1 51 ∧ ∀ P4 : PH, P4.2 = P3.2 → (∀ c, c ≠ 51 → P4.1 c = P3.1 c) → MD (P4.1 51) (g_np g) (g_nr g) d' → SRx P4 sw g d' (q :: hs1 hist) m sn tl := by
  have hnp := h.np
  have hnr := h.nr
  have hmr := h.mr
  obtain ⟨hh1, hh2, hh3, hh4⟩ := h.2.2.2.2.2.2.2.1
  have z5 : P1.1 5 0 = nI hist.length := by rw [f1 5 (nsc_lo sw (by decide))]; exact hh3
  obtain ⟨P2, a1, a2, a3, a4, a5, a6⟩ := c_add (sw := sw) (Q := P1) (by rw [e1]; exact h.1) z5 hh2 (nI q.1) (nI q.2.1) (nI q.2.2)
  have lo2 : ∀ c, nsc sw c = false → c ≠ 5 → c ≠ 6 → c ≠ 7 → c ≠ 8 → P2.1 c = P.1 c := fun c hc y5 y6 y7 y8 => (a3 c y5 y6 y7 y8).trans (f1 c hc)
  have hr2 : P2.2 = P.2 := a2.trans e1
  have z7 : P2.1 47 7 = nI hist.length := by rw [lo2 47 (nsc_lo sw (by decide)) (by decide) (by decide) (by decide) (by decide)]; exact hh4
  obtain ⟨P3, b1, b2, b3, b4, b5, b6, b7⟩ := m_rem (Q := P2) (by unfold MR; rw [hr2]; exact hmr) z7 hh2
  have hn2 : NDc P2.1 (ns sw) (g_np g) (g_nr g) d' := by
    refine hN.ag (fun j _ => ?_) (fun f hf hf8 j => ?_)
    · rw [a3 _ (by cases sw <;> decide) (by cases sw <;> decide) (by cases sw <;> decide) (by cases sw <;> decide)]
    · have hf2 : f = 3 ∨ f = 4 ∨ f = 5 ∨ f = 6 ∨ f = 7 := by omega
      rw [a3 _ (by cases sw <;> rcases hf2 with rfl | rfl | rfl | rfl | rfl <;> decide) (by cases sw <;> rcases hf2 with rfl | rfl | rfl | rfl | rfl <;> decide) (by cases sw <;> rcases hf2 with rfl | rfl | rfl | rfl | rfl <;> decide) (by cases sw <;> rcases hf2 with rfl | rfl | rfl | rfl | rfl <;> decide)]
  have hg2 : HG P2.1 (hs sw) g := h.2.2.2.1.fr (fun c hc => lo2 c (by cases sw <;> rcases hc with rfl | rfl | rfl | rfl <;> decide) (by cases sw <;> rcases hc with rfl | rfl | rfl | rfl <;> decide) (by cases sw <;> rcases hc with rfl | rfl | rfl | rfl <;> decide) (by cases sw <;> rcases hc with rfl | rfl | rfl | rfl <;> decide) (by cases sw <;> rcases hc with rfl | rfl | rfl | rfl <;> decide))
  have hl := hs1_len hh2
  refine ⟨P2, P3, a1, hr2, fun c hc => lo2 c (nsc_lo sw (Or.inr hc)) (by omega) (by omega) (by omega) (by omega), ⟨by rw [hr2]; exact h.1, h.2.1, hd, hg2, hn2⟩, b1, by unfold MR; rw [b2, hr2]; exact hmr, ?_, ?_⟩
  · rw [b3 51 (by decide) (by decide), lo2 51 (nsc_lo sw (by decide)) (by decide) (by decide) (by decide) (by decide)]
  · intro P4 c1 c2 c3
    have q2 : ∀ c, c ≠ 47 → c ≠ 51 → c ≠ 52 → P4.1 c = P2.1 c := fun c y1 y2 y3 => (c2 c y2).trans (b3 c y1 y3)
    have q47 : ∀ j, P4.1 47 j = P3.1 47 j := fun j => by rw [c2 47 (by decide)]
    have q52 : ∀ j, P4.1 52 j = P3.1 52 j := fun j => by rw [c2 52 (by decide)]
    have lo52 : P2.1 52 = P.1 52 := lo2 52 (nsc_lo sw (by decide)) (by decide) (by decide) (by decide) (by decide)
    have lo51 : P2.1 51 = P.1 51 := lo2 51 (nsc_lo sw (by decide)) (by decide) (by decide) (by decide) (by decide)
    have g6 : P1.1 6 = P.1 6 := f1 6 (nsc_lo sw (by decide))
    have g7 : P1.1 7 = P.1 7 := f1 7 (nsc_lo sw (by decide))
    have g8 : P1.1 8 = P.1 8 := f1 8 (nsc_lo sw (by decide))
    refine h.new (by rw [c1, b2, hr2]) (fun c x0 x5 x6 x7 x8 x47 x51 x52 => (q2 c x47 x51 x52).trans (lo2 c x0 x5 x6 x7 x8)) (fun j hj => by rw [q47, b4 j hj, lo2 47 (nsc_lo sw (by decide)) (by decide) (by decide) (by decide) (by decide)]) hd ?_ c3 ⟨?_, ?_, ?_, ?_⟩
    · refine hn2.ag (fun j _ => ?_) (fun f hf hf8 j => ?_)
      · rw [q2 _ (by cases sw <;> decide) (by cases sw <;> decide) (by cases sw <;> decide)]
      · have hf2 : f = 3 ∨ f = 4 ∨ f = 5 ∨ f = 6 ∨ f = 7 := by omega
        rw [q2 _ (by cases sw <;> rcases hf2 with rfl | rfl | rfl | rfl | rfl <;> decide) (by cases sw <;> rcases hf2 with rfl | rfl | rfl | rfl | rfl <;> decide) (by cases sw <;> rcases hf2 with rfl | rfl | rfl | rfl | rfl <;> decide)]
    · refine ⟨hok, ?_, d, heq, h.2.2.1, ?_, ?_⟩
      · rw [hl, q2 6 (by decide) (by decide) (by decide), q2 7 (by decide) (by decide) (by decide), q2 8 (by decide) (by decide) (by decide)]
        exact a5
      · rw [hl]
        refine h.2.2.2.2.2.2.1.ag hnp hnr h.2.2.1.2.2.1 (fun j hj => ?_)
        show P4.1 52 (46 * l0 hist.length + j) = _
        rw [q52, b6 j hj, lo51]
      · unfold hs1
        by_cases h10 : hist.length = 10
        · have w0 : l0 hist.length = 9 := if_pos h10
          have w1 : sh hist.length = 1 := if_pos h10
          rw [if_pos h10]
          refine HL.drop (s := P.1) (L := 9) hnp hnr (fun i hi => ?_) (fun i hi => ?_) hist d (by omega) hh1
          · have := a6 i (by omega)
            rw [w1, g6, g7, g8] at this
            rw [q2 6 (by decide) (by decide) (by decide), q2 7 (by decide) (by decide) (by decide), q2 8 (by decide) (by decide) (by decide)]
            exact this
          · rw [q52, b7 i (by omega), w1, lo52]
        · have w0 : l0 hist.length = hist.length := if_neg h10
          have w1 : sh hist.length = 0 := if_neg h10
          rw [if_neg h10]
          refine HL.keep (s := P.1) (L := hist.length) hnp hnr (fun i hi => ?_) (fun i hi => ?_) hist d (Nat.le_refl _) hh1
          · have := a6 i (by omega)
            rw [w1, g6, g7, g8] at this
            rw [q2 6 (by decide) (by decide) (by decide), q2 7 (by decide) (by decide) (by decide), q2 8 (by decide) (by decide) (by decide)]
            exact this
          · rw [q52, b7 i (by omega), w1, lo52]
            rfl
    · show (hs1 hist).length + 1 ≤ 10
      rw [hl]
      unfold l0
      split <;> omega
    · show _ = nI ((hs1 hist).length + 1)
      rw [hl, q2 5 (by decide) (by decide) (by decide)]
      exact a4
    · show _ = nI ((hs1 hist).length + 1)
      rw [hl, q47]
      exact b5
end FRAME
