/-! the law -/
section LAW
variable {L : Nat} {f : Nat → Int32} {P : PH}
theorem law_q {c : Option Int32} {mo : Option (Int32 × PH)} {n : Nat} {y : Int32} (h : ∃ v P2, c = some v ∧ mo = some (v, P2) ∧ SR P2) (ih : ∀ P2, SR P2 → f_law_L18 L f n P2 y = some true) : (c.bind fun q => (mo.bind fun r => (if q = r.1 then f_law_L18 L f n r.2 y else some false))) = some true := by
  obtain ⟨v, P2, h1, h2, h3⟩ := h
  rw [h1, Option.bind_some, h2, Option.bind_some, if_pos rfl]
  exact ih P2 h3
theorem law_m {c : Option (Int32 × PH)} {mo : PH → Option (Int32 × PH)} {n : Nat} {y : Int32} (h : MOK P c mo) (ih : ∀ P2, SR P2 → f_law_L18 L f n P2 y = some true) : (c.bind fun q => ((mo q.2).bind fun r => (if q.1 = r.1 then f_law_L18 L f n r.2 y else some false))) = some true := by
  obtain ⟨v, P1, P2, h1, h2, h3⟩ := h
  rw [h1, Option.bind_some]
  show ((mo P1).bind _) = _
  rw [h2, Option.bind_some]
  exact (if_pos rfl).trans (ih P2 h3)
theorem law_p {c mo : Option Int32} {n : Nat} {y : Int32} (h : ∃ v, c = some v ∧ mo = some v) (ih : f_law_L18 L f n P y = some true) : (c.bind fun q => (mo.bind fun r => (if q = r then f_law_L18 L f n P y else some false))) = some true := by
  obtain ⟨v, h1, h2⟩ := h
  rw [h1, Option.bind_some, h2, Option.bind_some, if_pos rfl]
  exact ih
theorem lg_cmp_rf (a : Int64) : lg_cmp a a = 0 := by
  unfold lg_cmp
  simp
theorem law_run (hL : L ≤ 256) : ∀ k x n (P : PH), SR P → x ≤ 1000 → L < x + k → k < n → f_law_L18 L f n P (nI x) = some true := by
  intro k
  induction k with
  | zero =>
    intro x n P _ hx hk hn
    obtain ⟨n, rfl⟩ := pre_n hn
    have h1 : nI L - (4 : Int32) < nI x := by
      rw [Int32.lt_iff_toInt_lt, show (4 : Int32) = nI 4 from rfl, pk_sub_toInt (by omega) (by omega), nI_toInt (by omega)]
      omega
    rw [f_law_L18, if_pos (show Int32.ofNat L - (4 : Int32) < nI x from h1)]
  | succ k ih =>
    intro x n P hP hx hk hn
    obtain ⟨n, rfl⟩ := pre_n hn
    by_cases h1 : nI L - (4 : Int32) < nI x
    · rw [f_law_L18, if_pos (show Int32.ofNat L - (4 : Int32) < nI x from h1)]
    · have hx4 : x + 4 ≤ L := by
        rw [Int32.lt_iff_toInt_lt, show (4 : Int32) = nI 4 from rfl, pk_sub_toInt (by omega) (by omega), nI_toInt (by omega)] at h1
        omega
      have ihs : ∀ P2, SR P2 → f_law_L18 L f n P2 (nI (x + 4)) = some true := fun P2 h2 => ih (x + 4) n P2 h2 (by omega) (by omega) (by omega)
      obtain ⟨sw, g, d, hist, m, sn, tl, h⟩ := id hP
      have e1 : nI x + (1 : Int32) = nI (x + 1) := nI_1 x
      have e2 : nI x + (2 : Int32) = nI (x + 2) := nI_add x 2
      have e3 : nI x + (3 : Int32) = nI (x + 3) := nI_add x 3
      have e4 : nI x + (4 : Int32) = nI (x + 4) := nI_add x 4
      have c0 : (nI x).toNatClampNeg = x := nI_clamp (by omega)
      have c1 : (nI (x + 1)).toNatClampNeg = x + 1 := nI_clamp (by omega)
      have c2 : (nI (x + 2)).toNatClampNeg = x + 2 := nI_clamp (by omega)
      have c3 : (nI (x + 3)).toNatClampNeg = x + 3 := nI_clamp (by omega)
      have g0 : ∀ {α : Type} {A : Option α}, (if (nI x < 0 ∨ L ≤ x) then none else A) = A := gd2 (by omega) (by omega)
      have g1 : ∀ {α : Type} {A : Option α}, (if (nI (x + 1) < 0 ∨ L ≤ x + 1) then none else A) = A := gd2 (by omega) (by omega)
      have g2 : ∀ {α : Type} {A : Option α}, (if (nI (x + 2) < 0 ∨ L ≤ x + 2) then none else A) = A := gd2 (by omega) (by omega)
      have g3 : ∀ {α : Type} {A : Option α}, (if (nI (x + 3) < 0 ∨ L ≤ x + 3) then none else A) = A := gd2 (by omega) (by omega)
      rw [f_law_L18, if_neg (show ¬ Int32.ofNat L - (4 : Int32) < nI x from h1)]
      simp only [e1, e2, e3, e4, c0, c1, c2, c3, g0, g1, g2, g3]
      by_cases h10 : f x &&& (31 : Int32) = (0 : Int32)
      · rw [if_pos h10]
        exact law_m (mo := fun Q => f_X10_type Q 47 (f (x + 1))) (k_type h (f (x + 1))) ihs
      rw [if_neg h10]
      by_cases h11 : f x &&& (31 : Int32) = (1 : Int32)
      · rw [if_pos h11]
        exact law_m (mo := fun Q => f_X10_clear Q 47) (k_clear h) ihs
      rw [if_neg h11]
      by_cases h12 : f x &&& (31 : Int32) = (2 : Int32)
      · rw [if_pos h12]
        exact law_m (mo := fun Q => f_X10_house Q 47) (k_house h) ihs
      rw [if_neg h12]
      by_cases h13 : f x &&& (31 : Int32) = (3 : Int32)
      · rw [if_pos h13]
        exact law_q (QOK.sr h (q_person h (f (x + 1)) (f (x + 2)))) ihs
      rw [if_neg h13]
      by_cases h14 : f x &&& (31 : Int32) = (4 : Int32)
      · rw [if_pos h14]
        exact law_q (QOK.sr h (q_room h (f (x + 1)) (f (x + 2)))) ihs
      rw [if_neg h14]
      by_cases h15 : f x &&& (31 : Int32) = (5 : Int32)
      · rw [if_pos h15]
        exact law_p (q_right h (f (x + 1)) (f (x + 2))) (ihs P hP)
      rw [if_neg h15]
      by_cases h16 : f x &&& (31 : Int32) = (6 : Int32)
      · rw [if_pos h16]
        exact law_q (QOK.sr h (q_now h (f (x + 1)))) ihs
      rw [if_neg h16]
      by_cases h17 : f x &&& (31 : Int32) = (7 : Int32)
      · rw [if_pos h17]
        exact law_m (mo := fun Q => f_X10_day Q 47) (k_day h) ihs
      rw [if_neg h17]
      by_cases h18 : f x &&& (31 : Int32) = (8 : Int32)
      · rw [if_pos h18]
        exact law_m (mo := fun Q => f_X10_dies Q 47 (f (x + 1))) (k_dies h (f (x + 1))) ihs
      rw [if_neg h18]
      by_cases h19 : f x &&& (31 : Int32) = (9 : Int32)
      · rw [if_pos h19]
        exact law_m (mo := fun Q => f_X10_grants Q 47 (f (x + 1)) (f (x + 2)) (f (x + 3))) (k_grants h (f (x + 1)) (f (x + 2)) (f (x + 3))) ihs
      rw [if_neg h19]
      by_cases h20 : f x &&& (31 : Int32) = (10 : Int32)
      · rw [if_pos h20]
        exact law_m (mo := fun Q => f_X10_exchanges Q 47 (f (x + 1)) (f (x + 2))) (k_exchanges h (f (x + 1)) (f (x + 2))) ihs
      rw [if_neg h20]
      by_cases h21 : f x &&& (31 : Int32) = (11 : Int32)
      · rw [if_pos h21]
        exact law_m (mo := fun Q => f_X10_wills Q 47 (f (x + 1)) (f (x + 2))) (k_wills h (f (x + 1)) (f (x + 2))) ihs
      rw [if_neg h21]
      by_cases h22 : f x &&& (31 : Int32) = (12 : Int32)
      · rw [if_pos h22]
        exact law_m (mo := fun Q => f_X10_undo Q 47) (k_undo h) ihs
      rw [if_neg h22]
      by_cases h23 : f x &&& (31 : Int32) = (13 : Int32)
      · rw [if_pos h23]
        exact law_q (QOK.sr h (q_fromWhen h (f (x + 1)))) ihs
      rw [if_neg h23]
      by_cases h24 : f x &&& (31 : Int32) = (14 : Int32)
      · rw [if_pos h24]
        exact law_q (QOK.sr h (q_needs h (f (x + 1)))) ihs
      rw [if_neg h24]
      by_cases h25 : f x &&& (31 : Int32) = (15 : Int32)
      · rw [if_pos h25]
        exact law_q (QOK.sr h (q_opens h (f (x + 1)))) ihs
      rw [if_neg h25]
      by_cases h26 : f x &&& (31 : Int32) = (16 : Int32)
      · rw [if_pos h26]
        exact law_m (mo := fun Q => f_X10_exchange Q 47) (k_exchange h) ihs
      rw [if_neg h26]
      by_cases h27 : f x &&& (31 : Int32) = (17 : Int32)
      · rw [if_pos h27]
        exact law_q (QOK.sr h (q_holdsOut h)) ihs
      rw [if_neg h27]
      by_cases h28 : f x &&& (31 : Int32) = (18 : Int32)
      · rw [if_pos h28]
        exact law_q (QOK.sr h (q_dinner h (f (x + 1)) (f (x + 2)))) ihs
      rw [if_neg h28]
      by_cases h29 : f x &&& (31 : Int32) = (19 : Int32)
      · rw [if_pos h29]
        exact law_m (mo := fun Q => f_X10_seen Q 47 (f (x + 1)) (f (x + 2)) (f (x + 3))) (k_seen h (f (x + 1)) (f (x + 2)) (f (x + 3))) ihs
      rw [if_neg h29]
      by_cases h30 : f x &&& (31 : Int32) = (20 : Int32)
      · rw [if_pos h30]
        exact law_m (mo := fun Q => f_X10_forget Q 47) (k_forget h) ihs
      rw [if_neg h30]
      by_cases h31 : f x &&& (31 : Int32) = (21 : Int32)
      · rw [if_pos h31]
        exact law_m (mo := fun Q => f_X10_said Q 47 (f (x + 1))) (k_said h (f (x + 1))) ihs
      rw [if_neg h31]
      by_cases h32 : f x &&& (31 : Int32) = (22 : Int32)
      · rw [if_pos h32]
        exact law_q (QOK.sr h (q_last h (f (x + 1)))) ihs
      rw [if_neg h32]
      by_cases h33 : f x &&& (31 : Int32) = (23 : Int32)
      · rw [if_pos h33]
        exact law_q (QOK.sr h (q_waits h (f (x + 1)) (f (x + 2)))) ihs
      rw [if_neg h33]
      by_cases h34 : f x &&& (31 : Int32) = (24 : Int32)
      · rw [if_pos h34]
        exact law_q (QOK.sr h (q_odds h (f (x + 1)) (f (x + 2)) (f (x + 3)))) ihs
      rw [if_neg h34]
      by_cases h35 : f x &&& (31 : Int32) = (25 : Int32)
      · rw [if_pos h35]
        exact law_m (mo := fun Q => f_X10_rate Q 47 (f (x + 1)) (f (x + 2))) (k_rate h (f (x + 1)) (f (x + 2))) ihs
      rw [if_neg h35]
      by_cases h36 : f x &&& (31 : Int32) = (26 : Int32)
      · rw [if_pos h36]
        exact law_m (mo := fun Q => f_X10_keep Q 47 (f (x + 1))) (k_keep h (f (x + 1))) ihs
      rw [if_neg h36]
      by_cases h37 : f x &&& (31 : Int32) = (27 : Int32)
      · rw [if_pos h37]
        exact law_m (mo := fun Q => f_X10_back Q 47 (f (x + 1))) (k_back h (f (x + 1))) ihs
      rw [if_neg h37]
      by_cases h38 : f x &&& (31 : Int32) = (28 : Int32)
      · rw [if_pos h38]
        exact law_p (q_count h (f (x + 1))) (ihs P hP)
      rw [if_neg h38]
      by_cases h39 : f x &&& (31 : Int32) = (29 : Int32)
      · rw [if_pos h39]
        have ht : f_X9_trace P 0 = some (P.2.1 47) := by
          unfold f_X9_trace
          rw [show P.2.2 0 3 = 13 by rw [h.1]; rfl, h.2.2.2.2.2.2.2.2.2.2.2]
        have ht2 : f_X10_trace P 47 = some (P.2.1 47) := rfl
        rw [ht, Option.bind_some, ht2, Option.bind_some, lg_cmp_rf, if_pos rfl]
        exact ihs P hP
      rw [if_neg h39]
      exact ihs P hP
theorem pure_law {L : Nat} {f : Nat → Int32} (hL : L ≤ 256) : ∃ n, f_law_L18 L f n P0 0 = some true :=
  ⟨400, law_run hL 300 0 400 P0 SR_P0 (by decide) (by omega) (by decide)⟩
end LAW
