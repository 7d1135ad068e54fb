/-! said, rate -/
def alR (f : Nat → Bool) : Nat → Nat → Bool
  | 0, _ => true
  | k + 1, j => f j && alR f k (j + 1)
def soB (s : PI) (e : En) (i : Nat) : Bool := may e (s 10 i).toNatClampNeg (s 11 i).toNatClampNeg == decide (s 12 i = 1)
section SAID
variable {P : PH} {sw : Bool} {g : SG} {d : SD} {hist : List (Nat × Nat × Nat)} {m sn tl : Nat}
theorem c_so_L (h : CSx P sw g d) (hS : SN P.1 (g_np g) (g_nr g) sn) (K0 K1 : Option Bool) : ∀ k j n, j + k = sn → k < n → f_X7_isSo_L2 K0 K1 P 9 (hs sw) n (nI j) = if alR (soB P.1 (ENV g d)) k j = true then K1 else K0 := by
  have hnp := h.np
  have hnr := h.nr
  have h5 := hS.1
  intro k
  induction k with
  | zero =>
    intro j n hj hn
    obtain ⟨n, rfl⟩ := pre_n hn
    unfold f_X7_isSo_L2 alR
    rw [hS.2.1, if_pos (nI_le (by omega) (by omega)), if_pos rfl]
  | succ k ih =>
    intro j n hj hn
    obtain ⟨n, rfl⟩ := pre_n hn
    obtain ⟨p, r, y, b1, b2, b3, ⟨c1, c2, c3⟩, -⟩ := hS.2.2.2 j (by omega)
    have e1 : P.2.2 9 1 = 10 := by rw [h.rf (by decide)]; rfl
    have e2 : P.2.2 9 2 = 11 := by rw [h.rf (by decide)]; rfl
    have e3 : P.2.2 9 3 = 12 := by rw [h.rf (by decide)]; rfl
    have es : soB P.1 (ENV g d) j = (may (ENV g d) p r == decide (y = 1)) := by
      unfold soB
      rw [c1, c2, c3, nI_clamp (by omega), nI_clamp (by omega)]
      congr 1
      have : y = 0 ∨ y = 1 := by omega
      rcases this with rfl | rfl <;> rfl
    have hb : (mayS (ENV g d) p).testBit r = may (ENV g d) p r := by
      unfold mayS
      rw [bs_bit, decide_eq_true (show r < e_nr (ENV g d) from b2)]
      rfl
    have hcm := c_mayNow h.ve h.ce h.cok h.al (p := p) b1
    unfold f_X7_isSo_L2 alR
    rw [hS.2.1, if_neg (nI_ge (by omega) (by omega)), gd (by omega) (by decide), nI_clamp (by omega), e1, c1, hcm, Option.bind_some, gd2 (by omega) (by decide), gd2 (by omega) (by decide), e2, c2, mb_bit (lt31 (mayS_lt (ENV g d) p) (show e_nr (ENV g d) ≤ 7 from hnr)) (show r < 31 by omega), hb, e3, c3, nI_1, ih (j + 1) n (by omega) (by omega), es]
    have : y = 0 ∨ y = 1 := by omega
    rcases this with rfl | rfl
    · cases may (ENV g d) p r
      · rw [if_pos (show nI false.toNat = nI 0 from rfl)]
        rfl
      · rw [if_neg (by decide)]
        rfl
    · cases may (ENV g d) p r
      · rw [if_neg (by decide)]
        rfl
      · rw [if_pos (show nI true.toNat = nI 1 from rfl)]
        rfl
theorem SN.ag {s s' : PI} {np nr : Nat} (h : SN s np nr sn) (h9 : s' 9 0 = s 9 0) (h10 : s' 10 = s 10) (h11 : s' 11 = s 11) (h12 : s' 12 = s 12) (h47 : s' 47 10 = s 47 10) (h55 : s' 55 = s 55) : SN s' np nr sn := by
  unfold SN
  rw [h9, h10, h11, h12, h47, h55]
  exact h
theorem hc_lo (sw : Bool) {c : Nat} (h : c ≤ 26 ∨ 47 ≤ c) : c ≠ hc sw := by
  cases sw
  · show c ≠ 32; omega
  · show c ≠ 42; omega
def saF (P : PH) (g : SG) (d : SD) (p sn v : Nat) : Bool := alR (soB P.1 (ENV g (sHeir d (upN (d_heir d) p v)))) sn 0
theorem c_so (h : SRx P sw g d hist m sn tl) {p v : Nat} (hp : p < g_np g) (hv : v < 6 ∨ v = 9) : f_X7_isSo (sI P (hc sw) p (nI v)) 9 (hs sw) = some (saF P g d p sn v) := by
  have hS : SN (sI P (hc sw) p (nI v)).1 (g_np g) (g_nr g) sn := h.2.2.2.2.2.2.2.2.2.1.ag (by rw [sI_ne (hc_lo sw (Or.inl (by decide)))]) (sI_ne (hc_lo sw (Or.inl (by decide)))) (sI_ne (hc_lo sw (Or.inl (by decide)))) (sI_ne (hc_lo sw (Or.inl (by decide)))) (by rw [sI_ne (hc_lo sw (Or.inr (by decide)))]) (sI_ne (hc_lo sw (Or.inr (by decide))))
  have h5 := hS.1
  unfold f_X7_isSo
  rw [show (0 : Int32) = nI 0 from rfl, c_so_L (h.cs.will (p := p) hv) hS _ _ sn 0 1000 (by omega) (by omega)]
  have e1 : soB (sI P (hc sw) p (nI v)).1 (ENV g (sHeir d (upN (d_heir d) p v))) = soB P.1 (ENV g (sHeir d (upN (d_heir d) p v))) := by
    funext i
    unfold soB
    rw [sI_ne (hc_lo sw (Or.inl (by decide))), sI_ne (hc_lo sw (Or.inl (by decide))), sI_ne (hc_lo sw (Or.inl (by decide)))]
  rw [e1]
  unfold saF
  cases alR (soB P.1 (ENV g (sHeir d (upN (d_heir d) p v)))) sn 0 <;> rfl
theorem c_said_L (h : SRx P sw g d hist m sn tl) (K : PH → Int32 → Option (Int32 × PH)) {p : Nat} (hp : p < g_np g) (x3 : Int32) : ∀ k j n acc w, j + k = 6 → k < n → ∃ w', f_X7_heirsThatFit_L16 K 9 (hs sw) (nI p) x3 n (sI P (hc sw) p w) (nI acc) (nI j) = K (sI P (hc sw) p w') (nI (acc ||| br (saF P g d p sn) k j)) := by
  have hnp := h.np
  intro k
  induction k with
  | zero =>
    intro j n acc w hj hn
    obtain ⟨n, rfl⟩ := pre_n hn
    unfold f_X7_heirsThatFit_L16 br
    rw [if_pos (show (6 : Int32) ≤ nI j from nI_le (a := 6) (by omega) (by omega)), Nat.or_zero]
    exact ⟨w, rfl⟩
  | succ k ih =>
    intro j n acc w hj hn
    obtain ⟨n, rfl⟩ := pre_n hn
    have e1 : (sI P (hc sw) p w).2.2 (hs sw) 5 = ns sw := h.now
    have e2 : (sI P (hc sw) p w).2.2 (ns sw) 3 = hc sw := h.cs.rf (ns_0 sw) 3
    unfold f_X7_heirsThatFit_L16
    rw [if_neg (show ¬ (6 : Int32) ≤ nI j from nI_ge (b := 6) (by omega) (by omega)), gd (by omega) (by decide), nI_clamp (by omega), e1, e2, sI_sI, Option.bind_some, c_so h hp (Or.inl (by omega)), Option.bind_some, if_b2i, ← br_or, mb_sh (by omega), fa_or, nI_1]
    cases saF P g d p sn j
    · exact ih (j + 1) n acc _ (by omega) (by omega)
    · exact ih (j + 1) n (acc ||| 2 ^ j) _ (by omega) (by omega)
theorem m_so_L {g : SG} {d : SD} {s : PI} (V : VE (ENV g d)) (K : PH → Bool → Option (Int32 × PH)) (x1 x2 x3 : Int32) (hS : SN s (g_np g) (g_nr g) sn) : ∀ k j n b (R : PH), MM R g d → d_day d < 1000 → (∀ i, i < d_k d → d_ti d i < 1000) → R.1 47 10 = s 47 10 → R.1 55 = s 55 → j + k = sn → k < n → ∃ R', f_X10_said_L50 K 47 x1 x2 x3 n R b (nI j) = K R' (b && alR (soB s (ENV g d)) k j) ∧ Eqc R R' := by
  have h5 := hS.1
  have hnp := V.1
  have hnr := V.2.1
  intro k
  induction k with
  | zero =>
    intro j n b R M hd ht h47 h55 hj hn
    obtain ⟨n, rfl⟩ := pre_n hn
    unfold f_X10_said_L50 alR
    rw [h47, hS.2.2.1, if_pos (nI_le (by omega) (by omega)), Bool.and_true]
    exact ⟨R, rfl, Eqc.rf R⟩
  | succ k ih =>
    intro j n b R M hd ht h47 h55 hj hn
    obtain ⟨n, rfl⟩ := pre_n hn
    obtain ⟨p, r, y, b1, b2, b3, ⟨c1, c2, c3⟩, ⟨f1, f2, f3⟩⟩ := hS.2.2.2 j (by omega)
    have hp6 : p < 6 := Nat.lt_of_lt_of_le b1 hnp
    have hr7 : r < 7 := Nat.lt_of_lt_of_le b2 hnr
    have es : soB s (ENV g d) j = (may (ENV g d) p r == decide (y = 1)) := by
      unfold soB
      rw [c1, c2, c3, nI_clamp (by omega), nI_clamp (by omega)]
      congr 1
      have : y = 0 ∨ y = 1 := by omega
      rcases this with rfl | rfl <;> rfl
    unfold f_X10_said_L50 alR
    rw [h47, hS.2.2.1, if_neg (nI_ge (by omega) (by omega)), if_b2i, nI_1]
    cases b
    · rw [if_neg (show ¬ false = true by decide)]
      obtain ⟨R', d1, d2⟩ := ih (j + 1) n false R M hd ht h47 h55 (by omega) (by omega)
      exact ⟨R', d1, d2⟩
    · have e55 : R.2.2 47 11 = 55 := by rw [M.1]; rfl
      obtain ⟨R2, g1, g2⟩ := m_mayBe (mm_me M hd ht) V (p := p) (r := r) b1 b2
      have M2 := g2.mm M
      have e552 : R2.2.2 47 11 = 55 := by rw [M2.1]; rfl
      rw [if_pos (show true = true from rfl), show (3 : Int32) = nI 3 from rfl, pk_mul, nI_1, show (2 : Int32) = nI 2 from rfl, nI_add, gd (by omega) (by decide), gd (by omega) (by decide), nI_clamp (by omega), nI_clamp (by omega), nI_clamp (by omega), e55, h55, f1, f2, g1, Option.bind_some, gd2 (by omega) (by decide)]
      have z55 : R2.1 55 = s 55 := (g2.2.1 55 (by decide)).trans h55
      have z47 : R2.1 47 10 = s 47 10 := (g2.2.2 10 (by decide)).trans h47
      show ∃ R', (if R2.1 (R2.2.2 47 11) (3 * j + 2) = 1 then (if b2i (may (ENV g d) p r) = 1 then f_X10_said_L50 K 47 x1 x2 x3 n R2 true (nI (j + 1)) else f_X10_said_L50 K 47 x1 x2 x3 n R2 false (nI (j + 1))) else (if b2i (may (ENV g d) p r) = 0 then f_X10_said_L50 K 47 x1 x2 x3 n R2 true (nI (j + 1)) else f_X10_said_L50 K 47 x1 x2 x3 n R2 false (nI (j + 1)))) = _ ∧ _
      rw [e552, z55, f3, es]
      obtain ⟨Rt, t1, t2⟩ := ih (j + 1) n true R2 M2 hd ht z47 z55 (by omega) (by omega)
      obtain ⟨Rf, u1, u2⟩ := ih (j + 1) n false R2 M2 hd ht z47 z55 (by omega) (by omega)
      have : y = 0 ∨ y = 1 := by omega
      rcases this with rfl | rfl
      · rw [if_neg (by decide)]
        cases may (ENV g d) p r
        · exact ⟨Rt, t1, g2.tr t2⟩
        · exact ⟨Rf, u1, g2.tr u2⟩
      · rw [if_pos (show nI 1 = 1 from rfl)]
        cases may (ENV g d) p r
        · exact ⟨Rf, u1, g2.tr u2⟩
        · exact ⟨Rt, t1, g2.tr t2⟩
theorem MD.will {f : Nat → Int32} {np nr : Nat} (hnp : np ≤ 6) (h : MD f np nr d) {p : Nat} (hp : p < np) (v : Nat) : MD (upd f (2 + p) (nI v)) np nr (sHeir d (upN (d_heir d) p v)) :=
  ⟨(upd_ne (by omega)).trans h.1, (upd_ne (by omega)).trans h.2.1, fun q hq => by
    show _ = nI (upN (d_heir d) p v q)
    unfold upN
    by_cases hqp : q = p
    · subst hqp
      rw [upd_eq, if_pos rfl]
    · rw [upd_ne (by omega), if_neg hqp]
      exact h.2.2.1 q hq, fun r hr => (upd_ne (by omega)).trans (h.2.2.2.1 r hr), (upd_ne (by omega)).trans h.2.2.2.2.1, fun i hi => ⟨(upd_ne (by omega)).trans (h.2.2.2.2.2 i hi).1, (upd_ne (by omega)).trans (h.2.2.2.2.2 i hi).2.1, (upd_ne (by omega)).trans (h.2.2.2.2.2 i hi).2.2⟩⟩
def s6 (j : Nat) : Nat := if j = 6 then 9 else j
theorem soB_ag {s s' : PI} (e : En) (h10 : s' 10 = s 10) (h11 : s' 11 = s 11) (h12 : s' 12 = s 12) : soB s' e = soB s e := by
  funext i
  unfold soB
  rw [h10, h11, h12]
theorem m_said_L (h : SRx P sw g d hist m sn tl) (K : PH → Int32 → Option (Int32 × PH)) {p : Nat} (hp : p < g_np g) : ∀ k j n acc (R : PH), MR R → Ag sw P R → j + k = 7 → k < n → ∃ R', f_X10_said_L14 K 47 (nI p) n R (nI acc) (nI j) = K R' (nI (acc ||| br (fun j => saF P g d p sn (s6 j)) k j)) ∧ Ag sw P R' := by
  have hnp := h.np
  intro k
  induction k with
  | zero =>
    intro j n acc R M A hj hn
    obtain ⟨n, rfl⟩ := pre_n hn
    unfold f_X10_said_L14 br
    rw [if_pos (show (6 : Int32) < nI j from (nI_ltI (a := 6) (by omega) (by omega)).mpr (by omega)), Nat.or_zero]
    exact ⟨R, rfl, A⟩
  | succ k ih =>
    intro j n acc R M A hj hn
    obtain ⟨n, rfl⟩ := pre_n hn
    have hv : s6 j < 6 ∨ s6 j = 9 := by
      unfold s6
      split <;> omega
    have hmm := (h.ag A).mm
    have M2 : MM (sI (asI R) 61 (2 + p) (nI (s6 j))) g (sHeir d (upN (d_heir d) p (s6 j))) := s61_mm _ _ hmm (hmm.2.2.will hnp hp (s6 j))
    have A2 := (A.tr (asI_ag sw R)).tr (s61_ag sw (asI R) (2 + p) (nI (s6 j)))
    have V2 := h.veg (h.2.2.1.will (p := p) hv)
    have hS := h.2.2.2.2.2.2.2.2.2.1
    have z47 : (sI (asI R) 61 (2 + p) (nI (s6 j))).1 47 10 = P.1 47 10 := A2.2 47 10 (by cases sw <;> rfl)
    have z55 : (sI (asI R) 61 (2 + p) (nI (s6 j))).1 55 = P.1 55 := funext fun i => A2.2 55 i (rel_m (by decide) (by decide))
    have hlt6 : ¬ (6 : Int32) < nI j := fun q => by
      have := (nI_ltI (a := 6) (by omega) (by omega)).mp q
      omega
    obtain ⟨R3, b1, b2⟩ := m_so_L V2 (fun P9 v8 => (if (b2i v8) = 0 then f_X10_said_L14 K 47 (nI p) n P9 ((nI acc) ||| (0 : Int32)) (nI j + (1 : Int32)) else f_X10_said_L14 K 47 (nI p) n P9 ((nI acc) ||| ((1 : Int32) <<< ((nI j) &&& 31))) (nI j + (1 : Int32)))) (nI p) (nI acc) (nI j) hS sn 0 1000 true _ M2 (by show d_day d < 1000; have := h.2.2.1.1; omega) h.til z47 z55 (by omega) (by have := hS.1; omega)
    have A3 := A2.tr (b2.ag sw)
    have key : ∃ R', f_X10_said_L50 (fun P9 v8 => (if (b2i v8) = 0 then f_X10_said_L14 K 47 (nI p) n P9 ((nI acc) ||| (0 : Int32)) (nI j + (1 : Int32)) else f_X10_said_L14 K 47 (nI p) n P9 ((nI acc) ||| ((1 : Int32) <<< ((nI j) &&& 31))) (nI j + (1 : Int32)))) 47 (nI p) (nI acc) (nI j) 1000 (sI (asI R) 61 (2 + p) (nI (s6 j))) true (nI 0) = K R' (nI (acc ||| br (fun j => saF P g d p sn (s6 j)) (k + 1) j)) ∧ Ag sw P R' := by
      rw [b1, if_b2i, Bool.true_and, ← br_or, mb_sh (by omega), fa_or, nI_1, or_0]
      show ∃ R', (if saF P g d p sn (s6 j) = true then _ else _) = K R' (nI ((if saF P g d p sn (s6 j) = true then _ else _) ||| _)) ∧ _
      cases saF P g d p sn (s6 j)
      · exact ih (j + 1) n acc R3 (b2.mr M2.1) A3 (by omega) (by omega)
      · exact ih (j + 1) n (acc ||| 2 ^ j) R3 (b2.mr M2.1) A3 (by omega) (by omega)
    obtain ⟨R', k1, k2⟩ := key
    refine ⟨R', Eq.trans ?_ k1, k2⟩
    have e9 : s6 6 = 9 := rfl
    rw [f_X10_said_L14, if_neg hlt6, asI_eq M, Option.bind_some, show (2 : Int32) = nI 2 from rfl, nI_add, gd (by omega) (by decide), gd (by omega) (by decide), nI_clamp (by omega), Option.bind_some, Option.bind_some, asI_r, mr_now M]
    by_cases hj6 : j = 6
    · subst hj6
      rw [if_pos (show nI 6 = 6 from rfl), e9]
      rfl
    · have e8 : s6 j = j := if_neg hj6
      rw [if_neg (fun q : nI j = 6 => hj6 ((nI_eq (b := 6) (by omega) (by omega)).mp q)), e8]
      rfl
theorem k_said (h : SRx P sw g d hist m sn tl) (x : Int32) : MOK P (f_X9_said P 0 x) (fun Q => f_X10_said Q 47 x) := by
  have hnp := h.np
  by_cases hx : ¬ x < 0 ∧ x < nI (g_np g)
  · obtain ⟨p, hp, rfl⟩ := isP_c (by omega) hx
    have e9 : P.2.2 0 2 = 9 := by rw [h.1]; rfl
    have e3 : P.2.2 (ns sw) 3 = hc sw := h.cs.rf (ns_0 sw) 3
    obtain ⟨R', c1, c2⟩ := m_said_L h (fun P15 v14 => some (v14, P15)) hp 7 0 1000 0 P h.mr (Ag.rf sw P) (by omega) (by omega)
    have eb : br (fun j => saF P g d p sn (s6 j)) 7 0 = br (saF P g d p sn) 6 0 ||| (if saF P g d p sn 9 = true then 64 else 0) := by
      apply Nat.eq_of_testBit_eq
      intro i
      rw [Nat.testBit_or, br_bit, br_bit]
      have h64 : (if saF P g d p sn 9 = true then 64 else 0).testBit i = (decide (i = 6) && saF P g d p sn 9) := by
        cases saF P g d p sn 9
        · rw [if_neg (by decide), Nat.zero_testBit, Bool.and_false]
        · rw [if_pos rfl, show 64 = 2 ^ 6 from rfl, Nat.testBit_two_pow, Bool.and_true]
          congr 1
          exact propext eq_comm
      rw [h64]
      by_cases hi : i = 6
      · subst hi
        rfl
      · rw [show s6 i = i from if_neg hi, decide_eq_false hi, Bool.false_and, Bool.or_false]
        congr 2
        congr 1
        apply propext
        omega
    rw [Nat.zero_or, eb] at c1
    refine h.mok (v := nI (br (saF P g d p sn) 6 0 ||| (if saF P g d p sn 9 = true then 64 else 0))) (P2 := R') ?_ ?_ c2
    · unfold f_X9_said f_X7_heirsThatFit
      rw [h.cP, Option.bind_some, if_b2i, if_pos (decide_eq_true hx), e9, h.house, h.now, e3, gd (by omega) (by decide), nI_clamp (by omega)]
      obtain ⟨w, l1⟩ := c_said_L h (fun P8 v7 => (if ((nI p) < 0 ∨ 6 ≤ p) then none else ((some (sI P8 (P8.2.2 (P8.2.2 (hs sw) 5) 3) p (9 : Int32))).bind fun P11 => ((f_X7_isSo P11 9 (hs sw)).bind fun q12 => (if (b2i q12) = 0 then (if ((nI p) < 0 ∨ 6 ≤ p) then none else ((some (sI P11 (P11.2.2 (P11.2.2 (hs sw) 5) 3) p (P.1 (hc sw) p))).bind fun P15 => some (v7, P15))) else (if ((nI p) < 0 ∨ 6 ≤ p) then none else ((some (sI P11 (P11.2.2 (P11.2.2 (hs sw) 5) 3) p (P.1 (hc sw) p))).bind fun P18 => some ((v7 ||| (64 : Int32)), P18)))))))) hp (P.1 (hc sw) p) 6 0 1000 0 (P.1 (hc sw) p) (by omega) (by omega)
      rw [sI_id, Nat.zero_or] at l1
      refine Eq.trans (congrArg (fun o => Option.bind o _) l1) ?_
      have n1 : (sI P (hc sw) p w).2.2 (hs sw) 5 = ns sw := h.now
      have n2 : (sI P (hc sw) p w).2.2 (ns sw) 3 = hc sw := e3
      have n3 : (sI P (hc sw) p (nI 9)).2.2 (hs sw) 5 = ns sw := h.now
      have n4 : (sI P (hc sw) p (nI 9)).2.2 (ns sw) 3 = hc sw := e3
      have hso := c_so h hp (v := 9) (Or.inr rfl)
      rw [gd2 (by omega) (by decide), n1, n2, sI_sI, Option.bind_some, show (9 : Int32) = nI 9 from rfl, hso, Option.bind_some, if_b2i, gd2 (by omega) (by decide), gd2 (by omega) (by decide), n3, n4, sI_sI, sI_id, Option.bind_some, Option.bind_some, show (64 : Int32) = nI 64 from rfl, fa_or]
      cases saF P g d p sn 9
      · rw [if_neg (by decide), if_neg (by decide), Nat.or_zero]
        rfl
      · rw [if_pos rfl, if_pos rfl]
        rfl
    · show f_X10_said P 47 (nI p) = _
      unfold f_X10_said
      rw [h.mP, Option.bind_some, if_b2i, if_pos (decide_eq_true hx)]
      exact c1
  · refine h.mok (v := -1) (P2 := P) ?_ ?_ (Ag.rf sw P)
    · unfold f_X9_said
      rw [h.cP, Option.bind_some, if_b2i, if_neg (by rw [decide_eq_false hx]; decide)]
    · show f_X10_said P 47 x = _
      unfold f_X10_said
      rw [h.mP, Option.bind_some, if_b2i, if_neg (by rw [decide_eq_false hx]; decide)]
end SAID
