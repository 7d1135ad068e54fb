/-! rate -/
section RATE
variable {P : PH} {sw : Bool} {g : SG} {d : SD} {hist : List (Nat × Nat × Nat)} {m sn tl : Nat}
def tr (P : PH) (c : Nat) (l : Int64) : PH := sL P c (P.2.1 c + l)
theorem tr_eq (P : PH) (c : Nat) (l : Int64) : (tr P c l).2.1 c = P.2.1 c + l := if_pos rfl
theorem tr_ne {P : PH} {c c' : Nat} {l : Int64} (h : c' ≠ c) : (tr P c l).2.1 c' = P.2.1 c' := if_neg h
theorem t_a (P : PH) (l : Int64) : (tr P 13 l).2.1 13 = P.2.1 13 + l := tr_eq P 13 l
theorem t_b (P : PH) (l : Int64) : (tr P 47 l).2.1 47 = P.2.1 47 + l := tr_eq P 47 l
theorem t_c (P : PH) (l : Int64) : (tr P 13 l).2.1 47 = P.2.1 47 := tr_ne (by decide)
theorem t_d (P : PH) (l : Int64) : (tr P 47 l).2.1 13 = P.2.1 13 := tr_ne (by decide)
theorem CSx.tr (h : CSx P sw g d) (c : Nat) (l : Int64) : CSx (tr P c l) sw g d := ⟨h.1, h.2.1, h.2.2.1, h.2.2.2.1, h.2.2.2.2⟩
theorem MM.tr (h : MM P g d) (c : Nat) (l : Int64) : MM (tr P c l) g d := ⟨h.1, h.2.1, h.2.2⟩
theorem SRx.lg (h : SRx P sw g d hist m sn tl) {P' : PH} (h2 : P'.2.2 = P.2.2) (h1 : ∀ c j, rel sw c j = true → P'.1 c j = P.1 c j) (ht : P'.2.1 13 = P'.2.1 47) : SRx P' sw g d hist m sn tl := by
  have A : Ag sw P (P'.1, P.2.1, P.2.2) := ⟨rfl, h1⟩
  obtain ⟨a1, a2, a3, a4, a5, a6, a7, a8, a9, a10, a11, -⟩ := h.ag A
  exact ⟨h2.trans a1, a2, a3, a4, a5, a6, a7, a8, a9, a10, a11, ht⟩
theorem door_128 (h : CSx P sw g d) {r : Nat} (hr : r < g_nr g) : g_door g r < 128 := Nat.lt_of_lt_of_le (h.2.1.2.2.2.2 r hr) (pow_b (n := g_nr g) (m := 7) h.nr)
theorem c_asRoom (h : CSx P sw g d) {r : Nat} (hr : r < g_nr g) : f_X5_asRoom P 13 (hs sw) (nI r) = some (nI (pop 7 (g_door g r)), tr P 13 1) := by
  have hnr := h.nr
  unfold f_X5_asRoom
  rw [gd (by omega) (by decide), nI_clamp (by omega)]
  show ((f_J6_bitCount_0f7a4 _ (P.1 (P.2.2 (hs sw) 2) r)).bind _) = _
  rw [h.rf (hs_0 sw), h.2.2.2.1.2.2.2.2 r hr, bitCount_eq _ (door_128 h hr)]
  rfl
theorem c_asHall (h : CSx P sw g d) {r : Nat} (hr : r < g_nr g) : f_X5_asHall P 13 (hs sw) (nI r) = some (nI (pop 7 (g_door g r)) + nI (pop 7 (who (ENV g d) r)), tr (tr P 13 10) 13 1) := by
  have hw : who (ENV g d) r < 128 := Nat.lt_of_lt_of_le (bs_lt _ _) (pow_b (n := g_np g) (m := 7) (by have := h.np; omega))
  have h2 := (h.tr 13 10).tr 13 1
  have e1 := c_asRoom (h.tr 13 10) hr
  have e2 := c_whoMay h2.ve h2.ce h2.cok h2.al (r := r) hr
  unfold f_X5_asHall
  rw [show sL P 13 (P.2.1 13 + 10) = tr P 13 10 from rfl, e1, Option.bind_some]
  show ((f_X2_whoMay (tr (tr P 13 10) 13 1) (hs sw) (nI r)).bind _) = _
  rw [e2, Option.bind_some, bitCount_eq _ hw]
  rfl
def rin (d : SD) (r : Nat) : Nat := cR (fun i => d_pl d i == r) (d_k d) 0
theorem c_rin_L (h : CSx P sw g d) (K : Int32 → Option Int32) {r : Nat} (hr : r < g_nr g) : ∀ k j n acc, j + k = d_k d → k < n → f_X4_rightsIn_L4 K P (ns sw) (nI r) n (nI acc) (nI j) = K (nI (acc + cR (fun i => d_pl d i == r) k j)) := by
  have hk := h.2.2.1.2.2.1
  have hnr := h.nr
  intro k
  induction k with
  | zero =>
    intro j n acc hj hn
    obtain ⟨n, rfl⟩ := pre_n hn
    unfold f_X4_rightsIn_L4 cR
    rw [h.2.2.2.2.2.2.1, if_pos (nI_le (by omega) (by omega)), Nat.add_zero]
  | succ k ih =>
    intro j n acc hj hn
    obtain ⟨n, rfl⟩ := pre_n hn
    have hpl := (h.2.2.1.2.2.2.2.2 j (by omega)).2.1
    unfold f_X4_rightsIn_L4 cR
    rw [h.2.2.2.2.2.2.1, if_neg (nI_ge (by omega) (by omega)), gd (by omega) (by decide), nI_clamp (by omega), h.rf (ns_0 sw), (h.2.2.2.2.2.2.2.2.2 j (by omega)).2.1, nI_1, nI_1, ← Nat.add_assoc]
    by_cases hc : d_pl d j = r
    · rw [if_pos (by rw [hc]), beq_iff_eq.mpr hc]
      exact ih (j + 1) n (acc + 1) (by omega) (by omega)
    · rw [if_neg (fun q => hc ((nI_eq (by omega) (by omega)).mp q)), beq_false_of_ne hc]
      exact ih (j + 1) n acc (by omega) (by omega)
theorem c_asStair (h : CSx P sw g d) {r : Nat} (hr : r < g_nr g) : f_X5_asStair P 13 (hs sw) (nI r) = some (nI (pop 7 (g_door g r)) - nI (rin d r), tr (tr P 13 100) 13 1) := by
  have h2 := (h.tr 13 100).tr 13 1
  have e1 := c_asRoom (h.tr 13 100) hr
  have hk := h.2.2.1.2.2.1
  have e2 := c_rin_L h2 (fun v2 => some v2) hr (d_k d) 0 1000 0 (by omega) (by omega)
  rw [Nat.zero_add] at e2
  unfold f_X5_asStair
  rw [show sL P 13 (P.2.1 13 + 100) = tr P 13 100 from rfl, e1, Option.bind_some]
  show ((f_X4_rightsIn (tr (tr P 13 100) 13 1) ((tr (tr P 13 100) 13 1).2.2 (hs sw) 5) (nI r)).bind _) = _
  rw [h2.now]
  refine Eq.trans (congrArg (fun o => Option.bind o _) e2) rfl
theorem m_roomRate {R : PH} (M : MM R g d) (hr7 : g_nr g ≤ 7) (hd : ∀ r, r < g_nr g → g_door g r < 2 ^ g_nr g) {r : Nat} (hr : r < g_nr g) : f_X10_roomRate R 47 (nI r) = some (nI (pop 7 (g_door g r)), tr R 47 1) := by
  have hd7 : g_door g r < 128 := Nat.lt_of_lt_of_le (hd r hr) (pow_b (n := g_nr g) (m := 7) hr7)
  unfold f_X10_roomRate
  rw [gd (by omega) (by decide), nI_clamp (by omega)]
  show ((f_X10_bits _ (R.1 (R.2.2 47 4) r)).bind _) = _
  rw [mr_door M.1, M.2.1.2.2.2.2 r hr, bits_eq _ hd7]
  rfl
theorem m_rin_L {R : PH} (M : MR R) (N : MD (R.1 51) (g_np g) (g_nr g) d) (hd : VD (g_np g) (g_nr g) d) (hr7 : g_nr g ≤ 7) (K : Int32 → Option (Int32 × PH)) {r : Nat} (hr : r < g_nr g) : ∀ k j n acc, j + k = d_k d → k < n → f_X10_stairRate_L16 K R 47 (nI r) n (nI acc) (nI j) = K (nI (acc + cR (fun i => d_pl d i == r) k j)) := by
  have hk := hd.2.2.1
  intro k
  induction k with
  | zero =>
    intro j n acc hj hn
    obtain ⟨n, rfl⟩ := pre_n hn
    unfold f_X10_stairRate_L16 cR
    rw [g_15, t_15, mr_st M, N.2.2.2.2.1, if_pos (nI_le (by omega) (by omega)), Nat.add_zero]
  | succ k ih =>
    intro j n acc hj hn
    obtain ⟨n, rfl⟩ := pre_n hn
    have hpl := (hd.2.2.2.2.2 j (by omega)).2.1
    unfold f_X10_stairRate_L16 cR
    rw [g_15, t_15, mr_st M, N.2.2.2.2.1, if_neg (nI_ge (by omega) (by omega)), show (16 : Int32) = nI 16 from rfl, show (3 : Int32) = nI 3 from rfl, pk_mul, nI_add, nI_1, nI_1, nI_1, show 16 + 3 * j + 1 = 17 + 3 * j by omega, gd (by omega) (by decide), nI_clamp (by omega), (N.2.2.2.2.2 j (by omega)).2.1, ← Nat.add_assoc]
    by_cases hc : d_pl d j = r
    · rw [if_pos (by rw [hc]), beq_iff_eq.mpr hc]
      exact ih (j + 1) n (acc + 1) (by omega) (by omega)
    · rw [if_neg (fun q => hc ((nI_eq (by omega) (by omega)).mp q)), beq_false_of_ne hc]
      show f_X10_stairRate_L16 K R 47 (nI r) n (nI acc + nI 0) (nI (j + 1)) = _
      rw [nI_add]
      exact ih (j + 1) n acc (by omega) (by omega)
theorem m_stairRate {R : PH} (M : MM R g d) (N : MD (R.1 51) (g_np g) (g_nr g) d) (hg : VG g) (hd : VD (g_np g) (g_nr g) d) {r : Nat} (hr : r < g_nr g) : f_X10_stairRate R 47 (nI r) = some (nI (pop 7 (g_door g r)) - nI (rin d r), tr (tr R 47 100) 47 1) := by
  have e1 := m_roomRate (M.tr 47 100) hg.2.1 hg.2.2.2.2 hr
  have hk := hd.2.2.1
  have e2 := m_rin_L (R := tr R 47 100) M.1 N hd hg.2.1 (fun v3 => ((f_X10_roomRate (tr R 47 100) 47 (nI r)).bind fun q4 => some ((q4.1 - v3), q4.2))) hr (d_k d) 0 1000 0 (by omega) (by omega)
  unfold f_X10_stairRate
  refine Eq.trans e2 ?_
  rw [e1, Nat.zero_add]
  rfl
theorem m_hallRate {R : PH} (M : MM R g d) (hg : VG g) (hd : VD (g_np g) (g_nr g) d) {r : Nat} (hr : r < g_nr g) : ∃ R', f_X10_hallRate R 47 (nI r) = some (nI (pop 7 (g_door g r)) + nI (pop 7 (who (ENV g d) r)), R') ∧ Eqc (tr (tr R 47 10) 47 1) R' := by
  have e1 := m_roomRate (M.tr 47 10) hg.2.1 hg.2.2.2.2 hr
  have V := VE_of hg hd
  have hw : who (ENV g d) r < 128 := Nat.lt_of_lt_of_le (bs_lt _ _) (pow_b (n := g_np g) (m := 7) (by have := hg.1; omega))
  obtain ⟨R', c1, c2⟩ := m_whoMay (mm_me ((M.tr 47 10).tr 47 1) (by have := hd.1; omega) (fun i hi => by have := (hd.2.2.2.2.2 i hi).2.2; omega)) V (r := r) hr
  refine ⟨R', ?_, c2⟩
  unfold f_X10_hallRate
  rw [show sL R 47 (R.2.1 47 + 10) = tr R 47 10 from rfl, e1, Option.bind_some]
  show ((f_X10_whoMay (tr (tr R 47 10) 47 1) 47 (nI r)).bind _) = _
  rw [c1, Option.bind_some, bits_eq _ hw]
  rfl
theorem asI_m51 {Q : PH} (N : MD (Q.1 51) (g_np g) (g_nr g) d) : MD ((asI Q).1 51) (g_np g) (g_nr g) d := by
  rw [asI_ne Q (by decide)]
  exact N
theorem k_rate (h : SRx P sw g d hist m sn tl) (x y : Int32) : MOK P (f_X9_rate P 0 x y) (fun Q => f_X10_rate Q 47 x y) := by
  have hnr := h.nr
  have e3 : P.2.2 0 3 = 13 := by rw [h.1]; rfl
  have hmm : ∀ l, MM (asI (P.1, l, P.2.2)) g d := fun l => ⟨h.mm.1, h.mm.2.1, h.mm.2.2⟩
  have h51 : ∀ l, MD ((asI (P.1, l, P.2.2)).1 51) (g_np g) (g_nr g) d := fun l => asI_m51 (Q := (P.1, l, P.2.2)) h.2.2.2.2.2.2.1
  have hA : ∀ c j, rel sw c j = true → (asI P).1 c j = P.1 c j := (asI_ag sw P).2
  have ht := h.2.2.2.2.2.2.2.2.2.2.2
  by_cases hy : ¬ y < 0 ∧ y < nI (g_nr g)
  · obtain ⟨r, hr, rfl⟩ := isP_c (by omega) hy
    have hmR : ∀ l, f_X10_isRoom (P.1, l, P.2.2) 47 (nI r) = some true := fun l => by
      have := h.mR (nI r)
      rw [decide_eq_true hy] at this
      exact this
    have hcR : f_X2_isRoom P (hs sw) (nI r) = some true := by
      have := h.cR (nI r)
      rw [decide_eq_true hy, h.house] at this
      exact this
    by_cases hx : ¬ x < 0 ∧ ¬ (5 : Int32) < x
    · obtain ⟨k, hk, rfl⟩ := nI_of hx.1
      have hk5 : k ≤ 5 := by
        have := hx.2
        rw [show (5 : Int32) = nI 5 from rfl, nI_ltI (by omega) hk] at this
        omega
      have hmod : ∀ l, f_X10_rate (P.1, l, P.2.2) 47 (nI k) (nI r) = (if nI k = (0 : Int32) then ((f_X10_roomRate (asI (P.1, l, P.2.2)) 47 (nI r)).bind fun q5 => some (q5.1, q5.2)) else (if nI k = (1 : Int32) then ((f_X10_hallRate (asI (P.1, l, P.2.2)) 47 (nI r)).bind fun q7 => some (q7.1, q7.2)) else (if nI k = (2 : Int32) then ((f_X10_stairRate (asI (P.1, l, P.2.2)) 47 (nI r)).bind fun q9 => some (q9.1, q9.2)) else (if nI k = (3 : Int32) then ((some (tr (asI (P.1, l, P.2.2)) 47 1000)).bind fun P11 => ((f_X10_hallRate P11 47 (nI r)).bind fun q12 => some (((2 : Int32) * q12.1), q12.2))) else (if nI k = (4 : Int32) then ((some (tr (asI (P.1, l, P.2.2)) 47 10000)).bind fun P14 => ((f_X10_stairRate P14 47 (nI r)).bind fun q15 => some ((q15.1 + nI r), q15.2))) else ((some (tr (asI (P.1, l, P.2.2)) 47 100000)).bind fun P16 => ((f_X10_roomRate P16 47 (nI r)).bind fun q17 => (if ((0 : Int32) < 0 ∨ 46 ≤ (0 : Int32).toNatClampNeg) then none else some ((q17.1 + (q17.2.1 (q17.2.2.2 47 5) (0 : Int32).toNatClampNeg)), q17.2))))))))) := fun l => by
        unfold f_X10_rate
        rw [m_in, Option.bind_some, if_b2i, if_pos (decide_eq_true hx), hmR l, Option.bind_some, if_b2i, if_pos rfl, asI_eq (P := (P.1, l, P.2.2)) h.mr, Option.bind_some]
        rfl
      unfold MOK
      unfold f_X9_rate
      rw [e3, h.house, hcR, Option.bind_some, if_b2i, if_pos rfl]
      have fin : ∀ (P1 P2 : PH) (v : Int32), P1.1 = P.1 → P1.2.2 = P.2.2 → P2.2.2 = P.2.2 → (∀ c j, rel sw c j = true → P2.1 c j = P.1 c j) → P2.2.1 13 = P2.2.1 47 → SR P2 := fun P1 P2 v _ _ q1 q2 q3 => ⟨sw, g, d, hist, m, sn, tl, h.lg q1 q2 q3⟩
      have hk' : k = 0 ∨ k = 1 ∨ k = 2 ∨ k = 3 ∨ k = 4 ∨ k = 5 := by omega
      rcases hk' with rfl | rfl | rfl | rfl | rfl | rfl
      · rw [if_pos (show nI 0 = 0 from rfl), c_asRoom h.cs hr]
        refine ⟨nI (pop 7 (g_door g r)), tr P 13 1, tr (asI (tr P 13 1)) 47 1, rfl, ?_, fin (tr P 13 1) _ 0 rfl rfl rfl hA ?_⟩
        · show f_X10_rate (P.1, (tr P 13 1).2.1, P.2.2) 47 (nI 0) (nI r) = _
          rw [hmod, if_pos (show nI 0 = 0 from rfl), m_roomRate (hmm (tr P 13 1).2.1) hnr h.2.1.2.2.2.2 hr]
          rfl
        · skip
          simp only [t_a, t_b, t_c, t_d, asI_r, ht]
      · obtain ⟨R', b1, b2⟩ := m_hallRate (hmm (tr (tr P 13 10) 13 1).2.1) h.2.1 h.2.2.1 hr
        rw [if_neg (show ¬ nI 1 = 0 by decide), if_pos (show nI 1 = 1 from rfl), c_asHall h.cs hr]
        refine ⟨_, tr (tr P 13 10) 13 1, R', rfl, ?_, fin (tr (tr P 13 10) 13 1) _ 0 rfl rfl (by rw [b2.1]; rfl) (fun c j hc => ((b2.ag sw).2 c j hc).trans (hA c j hc)) ?_⟩
        · show f_X10_rate (P.1, (tr (tr P 13 10) 13 1).2.1, P.2.2) 47 (nI 1) (nI r) = _
          rw [hmod, if_neg (show ¬ nI 1 = 0 by decide), if_pos (show nI 1 = 1 from rfl), b1]
          rfl
        · rw [b2.1]
          simp only [t_a, t_b, t_c, t_d, asI_r, ht]
      · rw [if_neg (show ¬ nI 2 = 0 by decide), if_neg (show ¬ nI 2 = 1 by decide), if_pos (show nI 2 = 2 from rfl), c_asStair h.cs hr]
        refine ⟨_, tr (tr P 13 100) 13 1, tr (tr (asI (tr (tr P 13 100) 13 1)) 47 100) 47 1, rfl, ?_, fin (tr (tr P 13 100) 13 1) _ 0 rfl rfl rfl hA ?_⟩
        · show f_X10_rate (P.1, (tr (tr P 13 100) 13 1).2.1, P.2.2) 47 (nI 2) (nI r) = _
          rw [hmod, if_neg (show ¬ nI 2 = 0 by decide), if_neg (show ¬ nI 2 = 1 by decide), if_pos (show nI 2 = 2 from rfl), m_stairRate (hmm (tr (tr P 13 100) 13 1).2.1) (h51 (tr (tr P 13 100) 13 1).2.1) h.2.1 h.2.2.1 hr]
          rfl
        · skip
          simp only [t_a, t_b, t_c, t_d, asI_r, ht]
      · obtain ⟨R', b1, b2⟩ := m_hallRate ((hmm (tr (tr (tr P 13 1000) 13 10) 13 1).2.1).tr 47 1000) h.2.1 h.2.2.1 hr
        rw [if_neg (show ¬ nI 3 = 0 by decide), if_neg (show ¬ nI 3 = 1 by decide), if_neg (show ¬ nI 3 = 2 by decide), if_pos (show nI 3 = 3 from rfl)]
        refine ⟨(2 : Int32) * (nI (pop 7 (g_door g r)) + nI (pop 7 (who (ENV g d) r))), tr (tr (tr P 13 1000) 13 10) 13 1, R', ?_, ?_, fin (tr (tr (tr P 13 1000) 13 10) 13 1) _ 0 rfl rfl (by rw [b2.1]; rfl) (fun c j hc => ((b2.ag sw).2 c j hc).trans (hA c j hc)) ?_⟩
        · unfold f_X5_asAttic
          rw [show sL P 13 (P.2.1 13 + 1000) = tr P 13 1000 from rfl, c_asHall (h.cs.tr 13 1000) hr]
          rfl
        · show f_X10_rate (P.1, (tr (tr (tr P 13 1000) 13 10) 13 1).2.1, P.2.2) 47 (nI 3) (nI r) = _
          rw [hmod, if_neg (show ¬ nI 3 = 0 by decide), if_neg (show ¬ nI 3 = 1 by decide), if_neg (show ¬ nI 3 = 2 by decide), if_pos (show nI 3 = 3 from rfl), Option.bind_some, b1]
          rfl
        · rw [b2.1]
          simp only [t_a, t_b, t_c, t_d, asI_r, ht]
      · rw [if_neg (show ¬ nI 4 = 0 by decide), if_neg (show ¬ nI 4 = 1 by decide), if_neg (show ¬ nI 4 = 2 by decide), if_neg (show ¬ nI 4 = 3 by decide), if_pos (show nI 4 = 4 from rfl)]
        refine ⟨(nI (pop 7 (g_door g r)) - nI (rin d r)) + nI r, tr (tr (tr P 13 10000) 13 100) 13 1, tr (tr (tr (asI (P.1, (tr (tr (tr P 13 10000) 13 100) 13 1).2.1, P.2.2)) 47 10000) 47 100) 47 1, ?_, ?_, fin (tr (tr (tr P 13 10000) 13 100) 13 1) _ 0 rfl rfl rfl hA ?_⟩
        · unfold f_X5_asCellar
          rw [show sL P 13 (P.2.1 13 + 10000) = tr P 13 10000 from rfl, c_asStair (h.cs.tr 13 10000) hr]
          rfl
        · show f_X10_rate (P.1, (tr (tr (tr P 13 10000) 13 100) 13 1).2.1, P.2.2) 47 (nI 4) (nI r) = _
          rw [hmod, if_neg (show ¬ nI 4 = 0 by decide), if_neg (show ¬ nI 4 = 1 by decide), if_neg (show ¬ nI 4 = 2 by decide), if_neg (show ¬ nI 4 = 3 by decide), if_pos (show nI 4 = 4 from rfl), Option.bind_some, m_stairRate ((hmm (tr (tr (tr P 13 10000) 13 100) 13 1).2.1).tr 47 10000) (h51 (tr (tr (tr P 13 10000) 13 100) 13 1).2.1) h.2.1 h.2.2.1 hr]
          rfl
        · skip
          simp only [t_a, t_b, t_c, t_d, asI_r, ht]
      · rw [if_neg (show ¬ nI 5 = 0 by decide), if_neg (show ¬ nI 5 = 1 by decide), if_neg (show ¬ nI 5 = 2 by decide), if_neg (show ¬ nI 5 = 3 by decide), if_neg (show ¬ nI 5 = 4 by decide), if_pos (show nI 5 = 5 from rfl)]
        refine ⟨nI (pop 7 (g_door g r)) + nI (d_day d), tr (tr P 13 100000) 13 1, tr (tr (asI (P.1, (tr (tr P 13 100000) 13 1).2.1, P.2.2)) 47 100000) 47 1, ?_, ?_, fin (tr (tr P 13 100000) 13 1) _ 0 rfl rfl rfl hA ?_⟩
        · unfold f_X5_asBath
          rw [show sL P 13 (P.2.1 13 + 100000) = tr P 13 100000 from rfl, Option.bind_some, c_asRoom (h.cs.tr 13 100000) hr, Option.bind_some, Option.bind_some]
          show some (nI (pop 7 (g_door g r)) + P.1 (P.2.2 (hs sw) 5) 0, _) = _
          rw [h.day]
        · show f_X10_rate (P.1, (tr (tr P 13 100000) 13 1).2.1, P.2.2) 47 (nI 5) (nI r) = _
          rw [hmod, if_neg (show ¬ nI 5 = 0 by decide), if_neg (show ¬ nI 5 = 1 by decide), if_neg (show ¬ nI 5 = 2 by decide), if_neg (show ¬ nI 5 = 3 by decide), if_neg (show ¬ nI 5 = 4 by decide), Option.bind_some, m_roomRate ((hmm (tr (tr P 13 100000) 13 1).2.1).tr 47 100000) hnr h.2.1.2.2.2.2 hr, Option.bind_some, g_0, t_0]
          show some (nI (pop 7 (g_door g r)) + (asI (P.1, (tr (tr P 13 100000) 13 1).2.1, P.2.2)).1 (P.2.2 47 5) 0, _) = _
          rw [h.mst, (h51 (tr (tr P 13 100000) 13 1).2.1).1]
        · skip
          simp only [t_a, t_b, t_c, t_d, asI_r, ht]
    · have ne : ∀ k : Nat, k ≤ 5 → ¬ x = nI k := fun k hk q => hx (by
        subst q
        refine ⟨nI_pos (by omega), ?_⟩
        rw [show (5 : Int32) = nI 5 from rfl, nI_ltI (by omega) (by omega)]
        omega)
      refine h.mok (v := -1000000) (P2 := P) ?_ ?_ (Ag.rf sw P)
      · unfold f_X9_rate
        rw [h.house, hcR, Option.bind_some, if_b2i, if_pos rfl, if_neg (show ¬ x = 0 from ne 0 (by decide)), if_neg (show ¬ x = 1 from ne 1 (by decide)), if_neg (show ¬ x = 2 from ne 2 (by decide)), if_neg (show ¬ x = 3 from ne 3 (by decide)), if_neg (show ¬ x = 4 from ne 4 (by decide)), if_neg (show ¬ x = 5 from ne 5 (by decide))]
      · show f_X10_rate P 47 x (nI r) = _
        unfold f_X10_rate
        rw [m_in, Option.bind_some, if_b2i, if_neg (by rw [decide_eq_false hx]; decide)]
  · refine h.mok (v := -1000000) (P2 := P) ?_ ?_ (Ag.rf sw P)
    · unfold f_X9_rate
      rw [h.cR, Option.bind_some, if_b2i, if_neg (by rw [decide_eq_false hy]; decide)]
    · show f_X10_rate P 47 x y = _
      unfold f_X10_rate
      rw [m_in, Option.bind_some, if_b2i, h.mR, Option.bind_some, if_b2i, if_neg (c := decide (¬ y < 0 ∧ y < nI (g_nr g)) = true) (by rw [decide_eq_false hy]; decide)]
      split <;> rfl
end RATE
