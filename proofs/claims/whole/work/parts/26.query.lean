/-! the calls that change nothing -/
theorem g_0 {α : Type} {A : Option α} : (if ((0 : Int32) < 0 ∨ 46 ≤ (0 : Int32).toNatClampNeg) then none else A) = A := if_neg (by decide)
theorem g_1 {α : Type} {A : Option α} : (if ((1 : Int32) < 0 ∨ 46 ≤ (1 : Int32).toNatClampNeg) then none else A) = A := if_neg (by decide)
theorem g_15 {α : Type} {A : Option α} : (if ((15 : Int32) < 0 ∨ 46 ≤ (15 : Int32).toNatClampNeg) then none else A) = A := if_neg (by decide)
theorem t_0 : (0 : Int32).toNatClampNeg = 0 := rfl
theorem t_1 : (1 : Int32).toNatClampNeg = 1 := rfl
theorem t_15 : (15 : Int32).toNatClampNeg = 15 := rfl
def QOK (P : PH) (sw : Bool) (c : Option Int32) (mo : Option (Int32 × PH)) : Prop := ∃ v P2, c = some v ∧ mo = some (v, P2) ∧ Ag sw P P2
theorem isP_c {x : Int32} {n : Nat} (hn : n < 2 ^ 31) (h : ¬ x < 0 ∧ x < nI n) : ∃ p, p < n ∧ x = nI p := by
  obtain ⟨j, hj, rfl⟩ := nI_of h.1
  exact ⟨j, (nI_ltI hj hn).mp h.2, rfl⟩
theorem m_isP0 {P : PH} {n : Nat} (h : P.1 47 0 = nI n) (hn : n < 2 ^ 31) (x : Int32) : f_X10_isPerson P 47 x = some (decide (¬ x < 0 ∧ x < nI n)) := by
  unfold f_X10_isPerson
  rw [m_in, Option.bind_some, h]
  congr 1
  apply Bool.eq_iff_iff.mpr
  simp only [decide_eq_true_eq]
  constructor
  · rintro ⟨a, b⟩; exact ⟨a, (lt_pred hn a).mp b⟩
  · rintro ⟨a, b⟩; exact ⟨a, (lt_pred hn a).mpr b⟩
theorem m_isR0 {P : PH} {n : Nat} (h : P.1 47 1 = nI n) (hn : n < 2 ^ 31) (x : Int32) : f_X10_isRoom P 47 x = some (decide (¬ x < 0 ∧ x < nI n)) := by
  unfold f_X10_isRoom
  rw [m_in, Option.bind_some, h]
  congr 1
  apply Bool.eq_iff_iff.mpr
  simp only [decide_eq_true_eq]
  constructor
  · rintro ⟨a, b⟩; exact ⟨a, (lt_pred hn a).mp b⟩
  · rintro ⟨a, b⟩; exact ⟨a, (lt_pred hn a).mpr b⟩
section QRY
variable {P : PH} {sw : Bool} {g : SG} {d : SD} {hist : List (Nat × Nat × Nat)} {m sn tl : Nat}
theorem SRx.cP (h : SRx P sw g d hist m sn tl) (x : Int32) : f_X2_isPerson P (P.2.2 0 6) x = some (decide (¬ x < 0 ∧ x < nI (g_np g))) := by rw [h.house]; exact c_isPerson h.ve h.ce x
theorem SRx.cR (h : SRx P sw g d hist m sn tl) (x : Int32) : f_X2_isRoom P (P.2.2 0 6) x = some (decide (¬ x < 0 ∧ x < nI (g_nr g))) := by rw [h.house]; exact c_isRoom h.ve h.ce x
theorem SRx.mP (h : SRx P sw g d hist m sn tl) (x : Int32) : f_X10_isPerson P 47 x = some (decide (¬ x < 0 ∧ x < nI (g_np g))) := m_isP0 h.2.2.2.2.1.1 (by have := h.np; omega) x
theorem SRx.mR (h : SRx P sw g d hist m sn tl) (x : Int32) : f_X10_isRoom P 47 x = some (decide (¬ x < 0 ∧ x < nI (g_nr g))) := m_isR0 h.2.2.2.2.1.2.1 (by have := h.nr; omega) x
theorem SRx.mst (h : SRx P sw g d hist m sn tl) : P.2.2 47 5 = 51 := mr_st h.mr
theorem SRx.alt (h : SRx P sw g d hist m sn tl) : d_al d < 2 ^ 31 := h.ve.al
theorem asI_r (P : PH) : (asI P).2 = P.2 := rfl
theorem c_lives (h : SRx P sw g d hist m sn tl) {p : Nat} (hp : p < g_np g) : f_X2_lives P (P.2.2 0 6) (nI p) = some ((d_al d).testBit p) := by
  have hnp := h.np
  unfold f_X2_lives
  rw [h.cP, Option.bind_some, isP_nI (by omega) (by omega), if_b2i, if_pos (decide_eq_true hp), h.house, h.al]
  by_cases hb : (d_al d).testBit p = true
  · rw [if_pos ((mb_t h.alt (by omega)).mpr hb), hb]
  · rw [if_neg (fun q => hb ((mb_t h.alt (by omega)).mp q))]
    simp [hb]
theorem rch_e (e : En) (p w : Nat) : rch e p w = rch e p w := rfl
theorem q_person (h : SRx P sw g d hist m sn tl) (x y : Int32) : QOK P sw (f_X9_person P 0 x y) (f_X10_person P 47 x y) := by
  have hnp := h.np
  have hnr := h.nr
  have V := h.ve
  have M := h.me
  unfold f_X9_person f_X10_person
  rw [h.cP, h.mP, Option.bind_some, Option.bind_some, if_b2i, if_b2i]
  by_cases hx : ¬ x < 0 ∧ x < nI (g_np g)
  · obtain ⟨p, hp, rfl⟩ := isP_c (by omega) hx
    rw [if_pos (decide_eq_true hx), if_pos (decide_eq_true hx), asI_eq h.mr, Option.bind_some, asI_r, h.mst]
    by_cases h0 : y = 0
    · rw [if_pos h0, if_pos h0, g_1, t_1, asI_ne P (by decide), h.2.2.2.2.2.2.1.2.1, mb_bit h.alt (by omega), c_lives h hp, Option.bind_some, if_b2i]
      refine ⟨nI ((d_al d).testBit p).toNat, _, ?_, rfl, asI_ag sw P⟩
      cases (d_al d).testBit p <;> rfl
    rw [if_neg h0, if_neg h0]
    by_cases h1 : y = 1
    · rw [if_pos h1, if_pos h1, gd (by omega) (by decide), show (2 : Int32) = nI 2 from rfl, nI_add, gd (by omega) (by decide), nI_clamp (by omega), nI_clamp (by omega), asI_ne P (by decide), h.2.2.2.2.2.2.1.2.2.1 p hp, h.house]
      exact ⟨_, _, by rw [h.ce.2.2.2.2.2.1 p hp]; rfl, rfl, asI_ag sw P⟩
    rw [if_neg h1, if_neg h1]
    by_cases h2 : y = 2
    · rw [if_pos h2, if_pos h2, gd (by omega) (by decide), gd (by omega) (by decide), nI_clamp (by omega), mr_bed h.mr, asI_ne P (by decide), h.2.2.2.2.1.2.2.1 p hp, h.house]
      exact ⟨_, _, by rw [h.ce.2.2.1 p hp]; rfl, rfl, asI_ag sw P⟩
    rw [if_neg h2, if_neg h2]
    by_cases h3 : y = 3
    · rw [if_pos h3, if_pos h3, gd (by omega) (by decide), gd (by omega) (by decide), nI_clamp (by omega), mr_want h.mr, asI_ne P (by decide), h.2.2.2.2.1.2.2.2.1 p hp, h.house]
      exact ⟨_, _, by rw [h.ce.2.2.2.1 p hp]; rfl, rfl, asI_ag sw P⟩
    rw [if_neg h3, if_neg h3]
    have hmn := c_mayNow V h.ce h.cok h.al hp
    obtain ⟨P1, b1, b2⟩ := m_mayIn M V hp
    by_cases h4 : y = 4
    · rw [if_pos h4, if_pos h4, h.house, hmn, Option.bind_some, b1, Option.bind_some, c_reach V h.ce hp (mayS7 V p), Option.bind_some]
      by_cases ha : (e_al (ENV g d)).testBit p = true
      · rw [m_goesBy (b2.me M) V hp (mayS_lt _ p) ha (fun b hb => by
          unfold mayS
          rw [bs_bit, may_bed ha hb, decide_eq_true (V.2.2.2.2.2.2.1 p hp b hb)]
          rfl)]
        exact ⟨_, _, rfl, rfl, (asI_ag sw P).tr (b2.ag sw)⟩
      · have ha' : (e_al (ENV g d)).testBit p = false := by simpa using ha
        have e0 : mayS (ENV g d) p = 0 := by
          unfold mayS
          symm
          refine eq_bs (Nat.two_pow_pos _) (fun r hr => ?_)
          unfold may
          rw [ha', Nat.zero_testBit]
          rfl
        have e1 : rch (ENV g d) p 0 = 0 := by
          unfold rch
          have : st0 (ENV g d) p 0 = 0 := by
            unfold st0
            cases e_bed (ENV g d) p with
            | none => rfl
            | some b => exact Nat.and_zero _
          rw [this]
          apply gri_fix
          apply sb.eq _ (fun i h => by rw [Nat.zero_testBit] at h; cases h)
          intro i hi
          rw [gr_bit] at hi
          rcases hi with hi | ⟨⟨k, -, h2, -⟩, -⟩
          · exact hi
          · rw [Nat.zero_testBit] at h2
            cases h2
        rw [e0, e1]
        unfold f_X10_goesBy
        rw [m_isAlive (b2.me M) V (by omega), Option.bind_some, if_b2i, ha', Bool.and_false, if_neg (by decide), Option.bind_some]
        exact ⟨_, _, rfl, rfl, (asI_ag sw P).tr (b2.ag sw)⟩
    rw [if_neg h4, if_neg h4]
    by_cases h5 : y = 5
    · obtain ⟨P2, c1, c2⟩ := m_isCutOff M V hp
      have hc := c_isCutOff V h.ce h.cok hp
      rw [if_pos h5, if_pos h5, h.house, h.al, show (0 : Int32) = nI 0 from rfl]
      rw [show f_X2_isCutOff P (hs sw) (nI p) (nI (d_al d)) (P.1 (P.2.2 (hs sw) 5) 0) (nI 0) = some (cutB (ENV g d) p) from hc, c1, Option.bind_some, Option.bind_some]
      show QOK P sw (if b2i (cutB (ENV g d) p) = 0 then _ else _) (if b2i (cutB (ENV g d) p) = 0 then _ else _)
      rw [if_b2i, if_b2i]
      cases cutB (ENV g d) p
      · exact ⟨_, _, rfl, rfl, (asI_ag sw P).tr (c2.ag sw)⟩
      · exact ⟨_, _, rfl, rfl, (asI_ag sw P).tr (c2.ag sw)⟩
    rw [if_neg h5, if_neg h5]
    by_cases h6 : y = 6
    · rw [if_pos h6, if_pos h6, h.house, hmn, b1]
      exact ⟨_, _, rfl, rfl, (asI_ag sw P).tr (b2.ag sw)⟩
    rw [if_neg h6, if_neg h6]
    exact ⟨_, _, rfl, rfl, asI_ag sw P⟩
  · rw [if_neg (by rw [decide_eq_false hx]; decide), if_neg (by rw [decide_eq_false hx]; decide)]
    exact ⟨_, _, rfl, rfl, Ag.rf sw P⟩
theorem q_room (h : SRx P sw g d hist m sn tl) (x y : Int32) : QOK P sw (f_X9_room P 0 x y) (f_X10_room P 47 x y) := by
  have hnp := h.np
  have hnr := h.nr
  have V := h.ve
  have M := h.me
  unfold f_X9_room f_X10_room
  rw [h.cR, h.mR, Option.bind_some, Option.bind_some, if_b2i, if_b2i]
  by_cases hx : ¬ x < 0 ∧ x < nI (g_nr g)
  · obtain ⟨r, hr, rfl⟩ := isP_c (by omega) hx
    obtain ⟨P1, o1, o2, o3⟩ := m_ownerOf M V hr
    have M1 := o2.me M
    have A1 := (asI_ag sw P).tr (o2.ag sw)
    have e51 : P1.1 51 = P.1 51 := (o2.2.1 51 (by decide)).trans (asI_ne P (by decide))
    rw [if_pos (decide_eq_true hx), if_pos (decide_eq_true hx), asI_eq h.mr, Option.bind_some, o1, Option.bind_some, mr_st M1.1, e51]
    have hl8 : P.1 51 (8 + r) = nI (d_left d r) := h.2.2.2.2.2.2.1.2.2.2.1 r hr
    by_cases h0 : y = 0
    · rw [if_pos h0, if_pos h0, gd (by omega) (by decide), show (8 : Int32) = nI 8 from rfl, nI_add, gd (by omega) (by decide), nI_clamp (by omega), nI_clamp (by omega), hl8, h.house]
      exact ⟨_, _, by rw [h.ce.2.2.2.2.2.2.1 r hr]; rfl, rfl, A1⟩
    rw [if_neg h0, if_neg h0]
    by_cases h1 : y = 1
    · rw [if_pos h1, if_pos h1, h.house, h.al]
      exact ⟨optI (own (ENV g d) r), _, by rw [show f_X2_owner P (hs sw) (nI r) (nI (d_al d)) = _ from c_owner V h.ce hr]; rfl, rfl, A1⟩
    rw [if_neg h1, if_neg h1]
    by_cases h2 : y = 2
    · have hl := V.2.2.2.2.2.1 r hr
      rw [if_pos h2, if_pos h2, show (8 : Int32) = nI 8 from rfl, nI_add, gd (by omega) (by decide), nI_clamp (by omega), hl8, h.house, c_chain V h.ce h.al hr, Option.bind_some]
      by_cases h9 : d_left d r = 9
      · rw [if_pos (show e_left (ENV g d) r = 9 from h9), if_pos (show nI (d_left d r) = 9 by rw [h9]; rfl)]
        exact ⟨_, _, rfl, rfl, A1⟩
      · rw [if_neg (show ¬ e_left (ENV g d) r = 9 from h9), if_neg (fun q : nI (d_left d r) = 9 => h9 ((nI_eq (b := 9) (by have : d_left d r < 10 := hl; omega) (by omega)).mp q))]
        unfold optI optS
        cases ho : own (ENV g d) r with
        | none => exact ⟨-9, _, rfl, rfl, A1⟩
        | some q =>
          have hq := (own1_fst _ _ _ _ _ ho).1
          refine ⟨nI q.2, _, rfl, ?_, A1⟩
          show (if (0 : Int32) ≤ nI q.1 then some (P1.1 47 27, P1) else some (-9, P1)) = _
          have hq2 : q.1 < 6 := Nat.lt_of_lt_of_le hq hnp
          rw [if_pos (nI_pos' (by omega)), o3 q ho]
    rw [if_neg h2, if_neg h2]
    by_cases h3 : y = 3
    · rw [if_pos h3, if_pos h3, gd (by omega) (by decide), gd (by omega) (by decide), nI_clamp (by omega), h.house]
      refine ⟨nI (g_door g r), _, by rw [h.ce.2.2.2.2.1 r hr]; rfl, ?_, A1⟩
      show some (P1.1 (P1.2.2 47 4) r, P1) = _
      rw [mr_door M1.1, M1.2.2.2.2.2.1 r hr]
      rfl
    rw [if_neg h3, if_neg h3]
    by_cases h4 : y = 4
    · obtain ⟨P2, c1, c2⟩ := m_whoMay M1 V hr
      rw [if_pos h4, if_pos h4, h.house, c_whoMay V h.ce h.cok h.al hr]
      refine ⟨_, P2, rfl, ?_, A1.tr (c2.ag sw)⟩
      show ((f_X10_whoMay P1 47 (nI r)).bind fun q12 => some (q12.1, q12.2)) = _
      rw [c1]
      rfl
    rw [if_neg h4, if_neg h4]
    exact ⟨_, _, rfl, rfl, A1⟩
  · rw [if_neg (by rw [decide_eq_false hx]; decide), if_neg (by rw [decide_eq_false hx]; decide)]
    exact ⟨_, _, rfl, rfl, Ag.rf sw P⟩
theorem q_now (h : SRx P sw g d hist m sn tl) (x : Int32) : QOK P sw (f_X9_now P 0 x) (f_X10_now P 47 x) := by
  have V := h.ve
  have M := h.me
  obtain ⟨P1, c1, c2⟩ := m_cutOff M V
  unfold f_X9_now f_X10_now
  rw [asI_eq h.mr, Option.bind_some, asI_r, h.mst, h.house, h.day, h.al, asI_ne P (by decide)]
  by_cases h0 : x = 0
  · subst h0
    rw [if_pos rfl, if_pos rfl, g_0, t_0, h.2.2.2.2.2.2.1.1]
    exact ⟨_, _, rfl, rfl, asI_ag sw P⟩
  rw [if_neg h0, if_neg h0]
  by_cases h1 : x = 1
  · subst h1
    rw [if_pos rfl, if_pos rfl, g_1, t_1, h.2.2.2.2.2.2.1.2.1]
    exact ⟨_, _, rfl, rfl, asI_ag sw P⟩
  rw [if_neg h1, if_neg h1]
  by_cases h2 : x = 2
  · have hc := c_cutOff V h.ce h.cok h.al
    rw [if_pos h2, if_pos h2, show (0 : Int32) = nI 0 from rfl, hc, c1]
    exact ⟨_, _, rfl, rfl, (asI_ag sw P).tr (c2.ag sw)⟩
  rw [if_neg h2, if_neg h2]
  by_cases h3 : x = 3
  · rw [if_pos h3, if_pos h3, g_15, t_15, h.2.2.2.2.2.2.1.2.2.2.2.1]
    exact ⟨_, _, by rw [h.ce.2.2.2.2.2.2.2.1]; rfl, rfl, asI_ag sw P⟩
  rw [if_neg h3, if_neg h3]
  by_cases h4 : x = 4
  · have e1 : P.2.2 0 1 = 5 := by rw [h.1]; rfl
    have e2 : (asI P).1 47 7 = P.1 47 7 := by rw [asI_ne P (by decide)]
    rw [if_pos h4, if_pos h4, e1, e2, h.2.2.2.2.2.2.2.1.2.2.1, h.2.2.2.2.2.2.2.1.2.2.2]
    exact ⟨_, _, rfl, rfl, asI_ag sw P⟩
  rw [if_neg h4, if_neg h4]
  exact ⟨_, _, rfl, rfl, asI_ag sw P⟩
theorem q_count (h : SRx P sw g d hist m sn tl) (x : Int32) : ∃ v, f_X9_count P 0 x = some v ∧ f_X10_count P 47 x = some v := by
  have e1 : P.2.2 0 2 = 9 := by rw [h.1]; rfl
  have e2 : P.2.2 (P.2.2 0 0) 0 = 2 := by rw [h.1]; rfl
  obtain ⟨-, -, -, h4, h5, -, -, -, -, h13, h14, -⟩ := id h
  unfold f_X9_count f_X10_count
  rw [h.house, e1, e2, h4.1, h4.2.1, h5.1, h5.2.1, h13.2.1, h13.2.2.1, h14.2.1, h14.2.2.1]
  by_cases h0 : x = 0
  · rw [if_pos h0]
    exact ⟨_, rfl, rfl⟩
  rw [if_neg h0]
  by_cases h1 : x = 1
  · rw [if_pos h1]
    exact ⟨_, rfl, rfl⟩
  rw [if_neg h1]
  by_cases h2 : x = 2
  · rw [if_pos h2]
    exact ⟨_, rfl, rfl⟩
  rw [if_neg h2]
  by_cases h3 : x = 3
  · rw [if_pos h3]
    exact ⟨_, rfl, rfl⟩
  rw [if_neg h3]
  exact ⟨_, rfl, rfl⟩
theorem q_right (h : SRx P sw g d hist m sn tl) (x y : Int32) : ∃ v, f_X9_right P 0 x y = some v ∧ f_X10_right P 47 x y = some v := by
  have hk := h.2.2.1.2.2.1
  have h5 := h.2.2.2.2.2.2.1
  unfold f_X9_right f_X10_right
  rw [h.house, h.ce.2.2.2.2.2.2.2.1, g_15, t_15, h.mst, h5.2.2.2.2.1, m_in, Option.bind_some, if_b2i]
  show ∃ v, (if x < 0 then some (-1) else if x < nI (d_k d) then _ else some (-1)) = some v ∧ _
  by_cases h0 : x < 0
  · rw [if_pos h0, if_neg (by simp [h0])]
    exact ⟨_, rfl, rfl⟩
  rw [if_neg h0]
  by_cases h1 : x < nI (d_k d)
  · obtain ⟨i, hi, rfl⟩ := isP_c (by omega) ⟨h0, h1⟩
    have h3 : decide (¬ nI i < 0 ∧ ¬ nI (d_k d) - 1 < nI i) = true := decide_eq_true ⟨h0, (lt_pred (by omega) h0).mpr h1⟩
    rw [if_pos h1, if_pos h3, m_in, Option.bind_some, if_b2i]
    obtain ⟨a1, a2⟩ := h.ce.2.2.2.2.2.2.2.2 i hi
    have a3 := h.ti i hi
    obtain ⟨b1, b2, b3⟩ := h5.2.2.2.2.2 i hi
    by_cases y0 : y = 0
    · subst y0
      rw [if_pos rfl, gd (by omega) (by decide), nI_clamp (by omega), a1, if_pos (by decide), show (16 : Int32) = nI 16 from rfl, show (3 : Int32) = nI 3 from rfl, pk_mul, nI_add, show nI (16 + 3 * i) + (0 : Int32) = nI (16 + 3 * i) from nI_add (16 + 3 * i) 0, gd (by omega) (by decide), nI_clamp (by omega)]
      exact ⟨_, rfl, by rw [b1]; rfl⟩
    rw [if_neg y0]
    by_cases y1 : y = 1
    · subst y1
      rw [if_pos rfl, gd (by omega) (by decide), nI_clamp (by omega), a2, if_pos (by decide), show (16 : Int32) = nI 16 from rfl, show (3 : Int32) = nI 3 from rfl, pk_mul, nI_add, show (1 : Int32) = nI 1 from rfl, nI_add, gd (by omega) (by decide), nI_clamp (by omega)]
      exact ⟨_, rfl, by rw [show 16 + 3 * i + 1 = 17 + 3 * i by omega, b2]; rfl⟩
    rw [if_neg y1]
    by_cases y2 : y = 2
    · subst y2
      rw [if_pos rfl, gd (by omega) (by decide), nI_clamp (by omega), a3, if_pos (by decide), show (16 : Int32) = nI 16 from rfl, show (3 : Int32) = nI 3 from rfl, pk_mul, nI_add, show (2 : Int32) = nI 2 from rfl, nI_add, gd (by omega) (by decide), nI_clamp (by omega)]
      exact ⟨_, rfl, by rw [show 16 + 3 * i + 2 = 18 + 3 * i by omega, b3]⟩
    rw [if_neg y2, if_neg]
    · exact ⟨_, rfl, rfl⟩
    · intro q
      rw [decide_eq_true_eq] at q
      obtain ⟨j, hj, rfl⟩ := nI_of q.1
      have h4 : ¬ nI 2 < nI j := q.2
      rw [nI_ltI (by omega) hj] at h4
      have h6 : j = 0 ∨ j = 1 ∨ j = 2 := by omega
      rcases h6 with rfl | rfl | rfl
      · exact y0 rfl
      · exact y1 rfl
      · exact y2 rfl
  · rw [if_neg h1, if_neg]
    · exact ⟨_, rfl, rfl⟩
    · intro q
      rw [decide_eq_true_eq] at q
      exact h1 ((lt_pred (by omega) q.1).mp q.2)
end QRY
