/-! waits, odds -/
theorem nd_0 (a b : Nat) : nd a b = 0 ↔ sb a b := by
  constructor
  · intro h i hi
    have h2 : (nd a b).testBit i = false := by rw [h, Nat.zero_testBit]
    rw [nd_bit, hi] at h2
    simpa using h2
  · intro h
    apply Nat.eq_of_testBit_eq
    intro i
    rw [nd_bit, Nat.zero_testBit]
    cases ha : a.testBit i
    · rfl
    · rw [h i ha]; rfl
theorem sb_le {a b : Nat} (h : sb a b) : a ≤ b := by
  have e : a &&& b = a := by
    apply Nat.eq_of_testBit_eq
    intro i
    rw [Nat.testBit_and]
    cases ha : a.testBit i
    · rfl
    · rw [h i ha]; rfl
  rw [← e]
  exact Nat.and_le_right
theorem nd_oth (j a p : Nat) : (nd j (nd a (2 ^ p)) == 0) = (nd j a == 0 && !j.testBit p) := by
  apply Bool.eq_iff_iff.mpr
  rw [Bool.and_eq_true, beq_iff_eq, beq_iff_eq, nd_0, nd_0]
  constructor
  · intro h
    refine ⟨fun i hi => ?_, ?_⟩
    · have := h i hi
      rw [nd_bit, Bool.and_eq_true] at this
      exact this.1
    · cases hp : j.testBit p
      · rfl
      · have := h p hp
        rw [nd_bit, Nat.testBit_two_pow_self] at this
        simp at this
  · rintro ⟨h1, h2⟩ i hi
    rw [nd_bit, h1 i hi, Nat.testBit_two_pow]
    by_cases hip : p = i
    · subst hip
      rw [hi] at h2
      cases h2
    · simp [hip]
theorem i10 {α : Type} {A B : α} : (if (1 : Int32) = 0 then A else B) = B := if_neg (by decide)
theorem i00 {α : Type} {A B : α} : (if (0 : Int32) = 0 then A else B) = A := if_pos rfl
section DEAD
variable {P : PH} {sw : Bool} {g : SG} {d : SD} {hist : List (Nat × Nat × Nat)} {m sn tl : Nat}
def wtF (g : SG) (d : SD) (p r : Nat) (s : Nat) : Bool := nd s (nd (d_al d) (2 ^ p)) == 0 && ((own (ENV g (sAl d (nd (d_al d) s))) r).map Prod.fst == some p)
theorem c_ownA (h : SRx P sw g d hist m sn tl) {a r : Nat} (ha : a < 2 ^ g_np g) (hr : r < g_nr g) : f_X2_owner P (hs sw) (nI r) (nI a) = some (optI (own (ENV g (sAl d a)) r)) :=
  c_owner (P := P) (h := hs sw) (e := ENV g (sAl d a)) (h.veg (h.val ha)) (h.ceg rfl rfl rfl rfl rfl rfl rfl rfl rfl rfl) hr
theorem optA (h : SRx P sw g d hist m sn tl) {a r p : Nat} (ha : a < 2 ^ g_np g) (hp : p < 10) : optI (own (ENV g (sAl d a)) r) = nI p ↔ ((own (ENV g (sAl d a)) r).map Prod.fst == some p) = true := optI_eq (h.veg (h.val ha)) hp
theorem z_nI {a : Nat} (ha : a < 2 ^ 31) : nI a = 0 ↔ (a == 0) = true := by
  rw [beq_iff_eq]
  exact nI_eq (b := 0) ha (by decide)
theorem c_wt_L (h : SRx P sw g d hist m sn tl) (K : Int32 → Option Int32) {p r : Nat} (hp : p < g_np g) (hr : r < g_nr g) : ∀ k j n b, j + k = nd (d_al d) (2 ^ p) + 1 → k < n → (∀ v, b = some v → v < 128) → f_X0_fewestBefore_L13 K P (hs sw) (nI p) (nI r) (nI (nd (d_al d) (2 ^ p))) n (bedI b) (nI j) = K (bedI (bst (wtF g d p r) k j b)) := by
  have hnp := h.np
  have hnr := h.nr
  have hal := h.2.2.1.2.1
  have h64 := h.al64
  have ho : nd (d_al d) (2 ^ p) < 64 := nd_le _ _ (n := 6) h64
  intro k
  induction k with
  | zero =>
    intro j n b hj hn hb
    obtain ⟨n, rfl⟩ := pre_n hn
    unfold f_X0_fewestBefore_L13 bst
    rw [if_pos ((nI_ltI (by omega) (by omega)).mpr (by omega))]
  | succ k ih =>
    intro j n b hj hn hb
    obtain ⟨n, rfl⟩ := pre_n hn
    have hj7 : j < 128 := by omega
    have hz : nd j (nd (d_al d) (2 ^ p)) < 2 ^ 31 := Nat.lt_of_lt_of_le (nd_le _ _ (n := 7) hj7) (by decide)
    have hq := nd_le (d_al d) j hal
    have hO := c_ownA h hq hr
    have hE := optA h (r := r) hq (show p < 10 by omega)
    unfold f_X0_fewestBefore_L13 bst
    rw [if_neg (fun q => by have := (nI_ltI (by omega) (by omega)).mp q; omega), mb_not, h.al, mb_not, hO, nI_1, show wtF g d p r j = (nd j (nd (d_al d) (2 ^ p)) == 0 && ((own (ENV g (sAl d (nd (d_al d) j))) r).map Prod.fst == some p)) from rfl]
    have key : ∀ b', (∀ v, b' = some v → v < 128) → f_X0_fewestBefore_L13 K P (hs sw) (nI p) (nI r) (nI (nd (d_al d) (2 ^ p))) n (bedI b') (nI (j + 1)) = K (bedI (bst (wtF g d p r) k (j + 1) b')) := fun b' hb' => ih (j + 1) n b' (by omega) (by omega) hb'
    have kj := key (some j) (fun v hv => by cases hv; exact hj7)
    have kb := key b hb
    have inner : ∀ c : Bool, (if nI (nd j (nd (d_al d) (2 ^ p))) = 0 then (if (if c then (1 : Int32) else 0) = 0 then f_X0_fewestBefore_L13 K P (hs sw) (nI p) (nI r) (nI (nd (d_al d) (2 ^ p))) n (bedI b) (nI (j + 1)) else ((some (optI (own (ENV g (sAl d (nd (d_al d) j))) r))).bind fun q2 => (if q2 = nI p then f_X0_fewestBefore_L13 K P (hs sw) (nI p) (nI r) (nI (nd (d_al d) (2 ^ p))) n (nI j) (nI (j + 1)) else f_X0_fewestBefore_L13 K P (hs sw) (nI p) (nI r) (nI (nd (d_al d) (2 ^ p))) n (bedI b) (nI (j + 1))))) else f_X0_fewestBefore_L13 K P (hs sw) (nI p) (nI r) (nI (nd (d_al d) (2 ^ p))) n (bedI b) (nI (j + 1))) = K (bedI (bst (wtF g d p r) k (j + 1) (if (c && (nd j (nd (d_al d) (2 ^ p)) == 0 && ((own (ENV g (sAl d (nd (d_al d) j))) r).map Prod.fst == some p))) = true then some j else b))) := by
      intro c
      rw [Option.bind_some]
      cases hs0 : (nd j (nd (d_al d) (2 ^ p)) == 0)
      · rw [if_neg (fun q => by rw [(z_nI hz).mp q] at hs0; cases hs0), Bool.false_and, Bool.and_false, if_neg (show ¬ false = true by decide)]
        exact kb
      · rw [if_pos ((z_nI hz).mpr hs0), Bool.true_and]
        cases c
        · rw [if_pos (by decide), Bool.false_and, if_neg (show ¬ false = true by decide)]
          exact kb
        · rw [if_neg (by decide), Bool.true_and]
          cases ho1 : ((own (ENV g (sAl d (nd (d_al d) j))) r).map Prod.fst == some p)
          · rw [if_neg (fun q => by rw [hE.mp q] at ho1; cases ho1), if_neg (show ¬ false = true by decide)]
            exact kb
          · rw [if_pos (hE.mpr ho1), if_pos (show true = true from rfl)]
            exact kj
    cases b with
    | none =>
      rw [if_pos (show bedI none = -9 from rfl)]
      exact inner true
    | some v =>
      have hv := hb v rfl
      rw [if_neg (bed_s (by omega)), bitCount_eq P hj7, Option.bind_some, show f_J6_bitCount_0f7a4 P (bedI (some v)) = some (nI (pop 7 v)) from bitCount_eq P hv, Option.bind_some]
      have p1 := pop_le 7 j
      have p2 := pop_le 7 v
      by_cases hc : pop 7 j < pop 7 v
      · rw [if_neg (nI_ge hc (by omega))]
        show _ = K (bedI (bst (wtF g d p r) k (j + 1) (if (decide (pop 7 j < pop 7 v) && _) = true then some j else some v)))
        rw [decide_eq_true hc]
        exact inner true
      · rw [if_pos (nI_le (by omega) (by omega))]
        show _ = K (bedI (bst (wtF g d p r) k (j + 1) (if (decide (pop 7 j < pop 7 v) && _) = true then some j else some v)))
        rw [decide_eq_false hc]
        exact inner false
theorem m_wt_L (h : SRx P sw g d hist m sn tl) (K : PH → Int32 → Option (Int32 × PH)) {p r : Nat} (hp : p < g_np g) (hr : r < g_nr g) : ∀ k j n b (R : PH), (∃ a, MM R g (sAl d a)) → Ag sw P R → j + k = 2 ^ g_np g → k < n → (∀ v, b = some v → v < 128) → ∃ R', f_X10_waits_L28 K 47 (nI p) (nI r) n R (bedI b) (nI j) = K R' (bedI (bst (wtF g d p r) k j b)) ∧ Ag sw P R' := by
  have hnp := h.np
  have hnr := h.nr
  have hal := h.2.2.1.2.1
  have h64 := h.al64
  have h6 : 2 ^ g_np g ≤ 2 ^ 6 := pow_b hnp
  intro k
  induction k with
  | zero =>
    intro j n b R ⟨a, M⟩ A hj hn hb
    obtain ⟨n, rfl⟩ := pre_n hn
    unfold f_X10_waits_L28 bst
    rw [M.2.1.1, mb_sh (by omega), if_pos (nI_le (by omega) (by omega))]
    exact ⟨R, rfl, A⟩
  | succ k ih =>
    intro j n b R ⟨a, M⟩ A hj hn hb
    obtain ⟨n, rfl⟩ := pre_n hn
    have hj7 : j < 128 := by omega
    have hz : nd j (d_al d) < 2 ^ 31 := Nat.lt_of_lt_of_le (nd_le _ _ (n := 7) hj7) (by decide)
    have hq := nd_le (d_al d) j hal
    have hE := optA h (r := r) hq (show p < 10 by omega)
    have e51 : R.1 51 1 = nI (d_al d) := (A.2 51 1 (by cases sw <;> rfl)).trans h.2.2.2.2.2.2.1.2.1
    have M1 : MM (sI R 61 1 (nI (nd (d_al d) j))) g (sAl d (nd (d_al d) j)) := s61_mm 1 _ M (M.2.2.al _)
    have A1 := A.tr (s61_ag sw R 1 (nI (nd (d_al d) j)))
    unfold f_X10_waits_L28 bst
    simp only [g_1, i10, i00, if_true]
    rw [t_1, M.2.1.1, mb_sh (by omega), if_neg (nI_ge (by omega) (by omega)), mr_st M.1, mr_now M.1, e51, mb_not, mb_not, m_has (by omega) (by omega), Option.bind_some, if_b2i, nI_1, Option.bind_some, show wtF g d p r j = (nd j (nd (d_al d) (2 ^ p)) == 0 && ((own (ENV g (sAl d (nd (d_al d) j))) r).map Prod.fst == some p)) from rfl, nd_oth]
    cases hs0 : (nd j (d_al d) == 0)
    · rw [if_neg (fun q => by rw [(z_nI hz).mp q] at hs0; cases hs0), Bool.false_and, Bool.false_and, Bool.and_false, if_neg (show ¬ false = true by decide)]
      exact ih (j + 1) n b _ ⟨_, M1⟩ A1 (by omega) (by omega) hb
    · rw [if_pos ((z_nI hz).mpr hs0), Bool.true_and]
      cases hjp : j.testBit p
      · rw [if_neg (show ¬ false = true by decide), Bool.not_false, Bool.true_and]
        obtain ⟨R2, c1, c2, -⟩ := m_ownerOf (mm_me M1 (by show d_day d < 1000; have := h.2.2.1.1; omega) h.til) (h.veg (h.val hq)) hr
        have A2 := A1.tr (c2.ag sw)
        have M2 := c2.mm M1
        rw [Option.bind_some, c1, Option.bind_some]
        show ∃ R', (if optI (own (ENV g (sAl d (nd (d_al d) j))) r) = nI p then _ else _) = _ ∧ _
        cases ho1 : ((own (ENV g (sAl d (nd (d_al d) j))) r).map Prod.fst == some p)
        · rw [if_neg (fun q => by rw [hE.mp q] at ho1; cases ho1), Bool.and_false, if_neg (show ¬ false = true by decide)]
          exact ih (j + 1) n b _ ⟨_, M2⟩ A2 (by omega) (by omega) hb
        · rw [if_pos (hE.mpr ho1), Bool.and_true]
          cases b with
          | none =>
            rw [if_pos (show bedI none < 0 by decide)]
            exact ih (j + 1) n (some j) _ ⟨_, M2⟩ A2 (by omega) (by omega) (fun v hv => by cases hv; exact hj7)
          | some v =>
            have hv := hb v rfl
            rw [if_neg (show ¬ bedI (some v) < 0 from nI_pos (by omega)), bits_eq _ hj7, Option.bind_some, show f_X10_bits R2 (bedI (some v)) = some (nI (pop 7 v)) from bits_eq _ hv, Option.bind_some]
            have p1 := pop_le 7 j
            have p2 := pop_le 7 v
            by_cases hc : pop 7 j < pop 7 v
            · rw [if_neg (nI_ge hc (by omega))]
              show ∃ R', _ = K R' (bedI (bst (wtF g d p r) k (j + 1) (if decide (pop 7 j < pop 7 v) = true then some j else some v))) ∧ _
              rw [if_pos (decide_eq_true hc)]
              exact ih (j + 1) n (some j) _ ⟨_, M2⟩ A2 (by omega) (by omega) (fun v hv => by cases hv; exact hj7)
            · rw [if_pos (nI_le (by omega) (by omega))]
              show ∃ R', _ = K R' (bedI (bst (wtF g d p r) k (j + 1) (if decide (pop 7 j < pop 7 v) = true then some j else some v))) ∧ _
              rw [if_neg (by rw [decide_eq_false hc]; decide)]
              exact ih (j + 1) n (some v) _ ⟨_, M2⟩ A2 (by omega) (by omega) hb
      · rw [if_pos (show true = true from rfl), Bool.not_true, Bool.false_and, Bool.and_false, if_neg (show ¬ false = true by decide)]
        exact ih (j + 1) n b _ ⟨_, M1⟩ A1 (by omega) (by omega) hb
theorem q_waits (h : SRx P sw g d hist m sn tl) (x y : Int32) : QOK P sw (f_X9_waits P 0 x y) (f_X10_waits P 47 x y) := by
  have hnp := h.np
  have hnr := h.nr
  unfold f_X9_waits f_X10_waits
  rw [h.cR, h.mR, Option.bind_some, Option.bind_some, if_b2i]
  by_cases hy : ¬ y < 0 ∧ y < nI (g_nr g)
  · obtain ⟨r, hr, rfl⟩ := isP_c (by omega) hy
    rw [if_pos (decide_eq_true hy), decide_eq_true hy, show b2i true = 1 from rfl]
    refine q_wrap h x (fun p hp hx ha => ?_)
    subst hx
    have h64 := h.al64
    have ho : nd (d_al d) (2 ^ p) < 64 := nd_le _ _ (n := 6) h64
    have ho2 : nd (d_al d) (2 ^ p) < 2 ^ g_np g := nd_le _ _ h.2.2.1.2.1
    have h6 : 2 ^ g_np g ≤ 2 ^ 6 := pow_b hnp
    obtain ⟨R', c1, c2⟩ := m_wt_L h (fun P25 v24 => some (v24, P25)) hp hr (2 ^ g_np g) 0 1000 none (asI P) ⟨d_al d, ⟨h.mm.1, h.mm.2.1, h.mm.2.2.al0⟩⟩ (asI_ag sw P) (by omega) (by omega) (fun v hv => by cases hv)
    have hC := c_wt_L h (fun v => some v) hp hr (nd (d_al d) (2 ^ p) + 1) 0 1000 none (by omega) (by omega) (fun v hv => by cases hv)
    have e1 : bst (wtF g d p r) (2 ^ g_np g) 0 none = bst (wtF g d p r) (nd (d_al d) (2 ^ p) + 1) 0 none := by
      rw [show 2 ^ g_np g = (nd (d_al d) (2 ^ p) + 1) + (2 ^ g_np g - (nd (d_al d) (2 ^ p) + 1)) by omega, bst_add]
      refine bst_no _ _ _ (fun i h1 h2 => ?_)
      unfold wtF
      have h3 : (nd i (nd (d_al d) (2 ^ p)) == 0) = false := by
        rw [beq_eq_false_iff_ne]
        intro q
        have := sb_le ((nd_0 _ _).mp q)
        omega
      rw [h3]
      rfl
    rw [bind_id, asI_eq h.mr, Option.bind_some]
    unfold f_X0_fewestBefore f_X0_othersThan
    rw [h.house, h.al, mb_sh (by omega), mb_not, Option.bind_some]
    rw [e1] at c1
    exact ⟨_, R', hC, c1, c2⟩
  · rw [if_neg (by rw [decide_eq_false hy]; decide), decide_eq_false hy, m_refused h]
    refine ⟨-1, P, rfl, ?_, Ag.rf sw P⟩
    have e1 : (if ¬ x < 0 ∧ x < nI (g_np g) then (if b2i false = 0 then (-1 : Int32) else rfI g d x) else -1) = -1 := by
      split
      · rfl
      · rfl
    rw [e1]
    rfl
end DEAD
