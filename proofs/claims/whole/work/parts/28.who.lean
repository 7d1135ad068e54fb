/-! opens, last, needs -/
section WHO
variable {P : PH} {sw : Bool} {g : SG} {d : SD} {hist : List (Nat × Nat × Nat)} {m sn tl : Nat}
theorem q_wrap (h : SRx P sw g d hist m sn tl) (x : Int32) {A : Option Int32} {B : Option (Int32 × PH)} (k : ∀ p, p < g_np g → x = nI p → (d_al d).testBit p = true → QOK P sw A B) :
    QOK P sw ((f_X9_unlessAlive P 0 x).bind fun q1 => (if q1 = 0 then A else some q1)) ((f_X10_refused P 47 x (1 : Int32)).bind fun q => (if 0 ≤ q then B else some (q, P))) := by
  rw [c_unless h, m_refused1 h, Option.bind_some, Option.bind_some]
  rcases rfI_or g d x with h0 | ⟨h1, h2⟩
  · obtain ⟨p, hp, hx, ha⟩ := rfI_0 h0 h.np
    rw [h0, if_pos rfl, if_pos (by decide)]
    exact k p hp hx ha
  · rw [if_neg h2, if_neg (Int32.not_le.mpr h1)]
    exact ⟨_, _, rfl, rfl, Ag.rf sw P⟩
theorem bind_id {α : Type} (o : Option α) : (o.bind fun q => some q) = o := by cases o <;> rfl
theorem SRx.cokg (h : SRx P sw g d hist m sn tl) {e : En} {t : Nat} (ht : t < 1000) (hk : e_k e = d_k d) (hok : ∀ i, i < d_k d → e_ok e i = decide (t ≤ d_ti d i)) : COK P (hs sw) (nI t) 0 e := by
  intro i hi
  rw [hk] at hi
  rw [h.ti i hi, hok i hi, decide_eq_true_eq, nI_leI (by omega) (by have := h.til i hi; omega), Nat.zero_testBit]
  simp
theorem SRx.cokd (h : SRx P sw g d hist m sn tl) {e : En} (hk : e_k e = d_k d) (hok : ∀ i, i < d_k d → e_ok e i = decide (d_day d ≤ d_ti d i)) : COK P (hs sw) (P.1 (P.2.2 (hs sw) 5) 0) 0 e := by
  rw [h.day]
  exact h.cokg (by have := h.2.2.1.1; omega) hk hok
theorem sub_bit {a j : Nat} (ha : a < 64) (hj : j < 6) (h : a.testBit j = true) : a - 2 ^ j = nd a (2 ^ j) ∧ 2 ^ j ≤ a := by
  have k : ∀ a, a < 64 → ∀ j, j < 6 → a.testBit j = true → a - 2 ^ j = nd a (2 ^ j) ∧ 2 ^ j ≤ a := by decide +kernel
  exact k a ha j hj h
theorem SRx.al64 (h : SRx P sw g d hist m sn tl) : d_al d < 64 := Nat.lt_of_lt_of_le h.2.2.1.2.1 (pow_b (n := g_np g) (m := 6) h.np)
theorem MD.al0 {f : Nat → Int32} {np nr : Nat} {d : SD} (h : MD f np nr d) : MD f np nr (sAl d (d_al d)) := ⟨h.1, h.2.1, h.2.2.1, h.2.2.2.1, h.2.2.2.2.1, h.2.2.2.2.2⟩
theorem c_cutAl (h : SRx P sw g d hist m sn tl) {a p : Nat} (ha : a < 2 ^ g_np g) (hp : p < g_np g) : f_X2_isCutOff P (hs sw) (nI p) (nI a) (nI (d_day d)) 0 = some (cutB (ENV g (sAl d a)) p) :=
  c_isCutOff (P := P) (h := hs sw) (e := ENV g (sAl d a)) (day := nI (d_day d)) (sil := 0) (h.veg (h.val ha)) (h.ceg rfl rfl rfl rfl rfl rfl rfl rfl rfl rfl) (h.cokg (by have := h.2.2.1.1; omega) rfl (fun _ _ => rfl)) hp
def opF (g : SG) (d : SD) (p q : Nat) : Bool := !(q == p) && ((d_al d).testBit q && !cutB (ENV g (sAl d (nd (d_al d) (2 ^ q)))) p)
theorem c_op_L (h : SRx P sw g d hist m sn tl) (K : Int32 → Option Int32) {p : Nat} (hp : p < g_np g) : ∀ k j n acc, j + k = g_np g → k < n → f_X3_openers_L35 K P (hs sw) (nI p) (nI (d_al d)) (nI (d_day d)) n (nI acc) (nI j) = K (nI (acc ||| br (opF g d p) k j)) := by
  have hnp := h.np
  intro k
  induction k with
  | zero =>
    intro j n acc hj hn
    obtain ⟨n, rfl⟩ := pre_n hn
    unfold f_X3_openers_L35 br
    rw [h.2.2.2.1.1, if_pos (nI_le (by omega) (by omega)), Nat.or_zero]
  | succ k ih =>
    intro j n acc hj hn
    obtain ⟨n, rfl⟩ := pre_n hn
    have hjn : j < g_np g := by omega
    have hlv := c_lives h hjn
    rw [h.house] at hlv
    unfold f_X3_openers_L35
    rw [h.2.2.2.1.1, if_neg (nI_ge hjn (by omega)), ← br_or, nI_1, show opF g d p j = (!(j == p) && ((d_al d).testBit j && !cutB (ENV g (sAl d (nd (d_al d) (2 ^ j)))) p)) from rfl]
    by_cases hjp : j = p
    · subst hjp
      rw [if_pos rfl, if_pos rfl, ih _ _ _ (by omega) (by omega)]
      simp
    · rw [if_neg (fun q => hjp ((nI_eq (by omega) (by omega)).mp q)), hlv, Option.bind_some, if_b2i, beq_false_of_ne hjp]
      by_cases hb : (d_al d).testBit j = true
      · obtain ⟨s1, s2⟩ := sub_bit h.al64 (show j < 6 by omega) hb
        rw [if_pos hb, if_neg (show ¬ (1 : Int32) = 0 by decide), mb_sh (by omega), mb_not, c_cutAl h (nd_le _ _ h.2.2.1.2.1) hp, Option.bind_some, if_b2i, hb]
        cases cutB (ENV g (sAl d (nd (d_al d) (2 ^ j)))) p
        · rw [if_neg (by decide), if_pos (by decide), fa_or, ih _ _ _ (by omega) (by omega)]
        · rw [if_pos rfl, if_neg (by decide), ih _ _ _ (by omega) (by omega)]
      · rw [if_neg hb, if_pos rfl, ih _ _ _ (by omega) (by omega), (by simpa using hb : (d_al d).testBit j = false)]
        rfl
theorem m_op_L (h : SRx P sw g d hist m sn tl) (K : PH → Int32 → Option (Int32 × PH)) {p : Nat} (hp : p < g_np g) : ∀ k j n acc (R : PH), (∃ a, MM R g (sAl d a)) → Ag sw P R → j + k = g_np g → k < n → ∃ R', f_X10_opens_L30 K 47 (nI p) n R (nI acc) (nI j) = K R' (nI (acc ||| br (opF g d p) k j)) ∧ Ag sw P R' := by
  have hnp := h.np
  intro k
  induction k with
  | zero =>
    intro j n acc R ⟨a, M⟩ A hj hn
    obtain ⟨n, rfl⟩ := pre_n hn
    unfold f_X10_opens_L30 br
    rw [M.2.1.1, if_pos (nI_le (by omega) (by omega)), Nat.or_zero]
    exact ⟨R, rfl, A⟩
  | succ k ih =>
    intro j n acc R ⟨a, M⟩ A hj hn
    obtain ⟨n, rfl⟩ := pre_n hn
    have hjn : j < g_np g := by omega
    have e51 : R.1 51 1 = nI (d_al d) := (A.2 51 1 (by cases sw <;> rfl)).trans h.2.2.2.2.2.2.1.2.1
    unfold f_X10_opens_L30
    rw [M.2.1.1, if_neg (nI_ge hjn (by omega)), ← br_or, nI_1, mr_st M.1, mr_now M.1, g_1, g_1, g_1, t_1, e51, show opF g d p j = (!(j == p) && ((d_al d).testBit j && !cutB (ENV g (sAl d (nd (d_al d) (2 ^ j)))) p)) from rfl]
    by_cases hjp : j = p
    · subst hjp
      rw [if_pos rfl]
      obtain ⟨R', b1, b2⟩ := ih (j + 1) n acc R ⟨a, M⟩ A (by omega) (by omega)
      refine ⟨R', ?_, b2⟩
      rw [b1]
      simp
    · rw [if_neg (fun q => hjp ((nI_eq (by omega) (by omega)).mp q)), m_has h.alt (by omega), Option.bind_some, if_b2i, beq_false_of_ne hjp]
      by_cases hb : (d_al d).testBit j = true
      · obtain ⟨s1, s2⟩ := sub_bit h.al64 (show j < 6 by omega) hb
        rw [if_pos hb, mb_sh (by omega), pk_sub s2, s1, Option.bind_some, hb]
        have M1 : MM (sI R 61 1 (nI (nd (d_al d) (2 ^ j)))) g (sAl d (nd (d_al d) (2 ^ j))) := s61_mm 1 _ M (M.2.2.al _)
        obtain ⟨R1, c1, c2⟩ := m_isCutOff (mm_me M1 (by show d_day d < 1000; have := h.2.2.1.1; omega) h.til) (h.veg (h.val (nd_le _ _ h.2.2.1.2.1))) hp
        have A1 := (A.tr (s61_ag sw R 1 (nI (nd (d_al d) (2 ^ j))))).tr (c2.ag sw)
        rw [c1, Option.bind_some, if_b2i]
        cases cutB (ENV g (sAl d (nd (d_al d) (2 ^ j)))) p
        · rw [if_neg (show ¬ false = true by decide), if_pos (by decide), fa_or]
          exact ih (j + 1) n _ R1 ⟨_, c2.mm M1⟩ A1 (by omega) (by omega)
        · rw [if_pos (show true = true from rfl), if_neg (by decide), or_0]
          exact ih (j + 1) n _ R1 ⟨_, c2.mm M1⟩ A1 (by omega) (by omega)
      · rw [if_neg hb, (by simpa using hb : (d_al d).testBit j = false)]
        obtain ⟨R', b1, b2⟩ := ih (j + 1) n acc R ⟨a, M⟩ A (by omega) (by omega)
        exact ⟨R', b1, b2⟩
theorem q_opens (h : SRx P sw g d hist m sn tl) (x : Int32) : QOK P sw (f_X9_opens P 0 x) (f_X10_opens P 47 x) := by
  have hnp := h.np
  unfold f_X9_opens f_X10_opens
  refine q_wrap h x (fun p hp hx ha => ?_)
  subst hx
  have V := h.ve
  have hc := c_isCutOff V h.ce h.cok hp
  obtain ⟨R, c1, c2⟩ := m_isCutOff h.me V hp
  have A := (asI_ag sw P).tr (c2.ag sw)
  rw [bind_id, asI_eq h.mr, Option.bind_some, c1, Option.bind_some, if_b2i]
  unfold f_X3_openers
  rw [h.house, h.al, show (0 : Int32) = nI 0 from rfl, show f_X2_isCutOff P (hs sw) (nI p) (nI (d_al d)) (P.1 (P.2.2 (hs sw) 5) 0) (nI 0) = some (cutB (ENV g d) p) from hc, Option.bind_some]
  show QOK P sw (if b2i (cutB (ENV g d) p) = 0 then _ else _) _
  rw [if_b2i, h.day]
  cases cutB (ENV g d) p
  · exact ⟨_, R, rfl, rfl, A⟩
  · rw [if_pos rfl, if_pos rfl, c_op_L h _ hp (g_np g) 0 1000 0 (by omega) (by omega)]
    obtain ⟨R', b1, b2⟩ := m_op_L h (fun P11 v10 => some (v10, P11)) hp (g_np g) 0 1000 0 R ⟨d_al d, ⟨(c2.mm h.mm).1, (c2.mm h.mm).2.1, (c2.mm h.mm).2.2.al0⟩⟩ A (by omega) (by omega)
    exact ⟨_, R', rfl, b1, b2⟩
/-! last -/
def cR (f : Nat → Bool) : Nat → Nat → Nat
  | 0, _ => 0
  | k + 1, j => (f j).toNat + cR f k (j + 1)
theorem cR_snoc (f : Nat → Bool) : ∀ k j, cR f (k + 1) j = cR f k j + (f (j + k)).toNat
  | 0, j => by
    show (f j).toNat + 0 = 0 + (f (j + 0)).toNat
    rw [Nat.add_zero, Nat.add_zero, Nat.zero_add]
  | k + 1, j => by
    show (f j).toNat + cR f (k + 1) (j + 1) = ((f j).toNat + cR f k (j + 1)) + (f (j + (k + 1))).toNat
    have e : j + 1 + k = j + (k + 1) := by omega
    rw [cR_snoc f k (j + 1), e, Nat.add_assoc]
theorem pop_cR (f : Nat → Bool) (n : Nat) : ∀ k, k ≤ n → pop k (bs n f) = cR f k 0
  | 0, _ => rfl
  | k + 1, h => by
    rw [cR_snoc, Nat.zero_add]
    show pop k (bs n f) + ((bs n f).testBit k).toNat = _
    rw [pop_cR f n k (by omega), bs_bit, decide_eq_true (by omega : k < n)]
    rfl
theorem pop_bs (f : Nat → Bool) (n : Nat) : ∀ k, pop (n + k) (bs n f) = cR f n 0
  | 0 => pop_cR f n n (Nat.le_refl n)
  | k + 1 => by
    show pop (n + k) (bs n f) + ((bs n f).testBit (n + k)).toNat = _
    rw [pop_bs f n k, bs_bit, decide_eq_false (by omega : ¬ n + k < n)]
    rfl
theorem pop7 {n : Nat} (f : Nat → Bool) (hn : n ≤ 7) : pop 7 (bs n f) = cR f n 0 := by
  have h := pop_bs f n (7 - n)
  rw [show n + (7 - n) = 7 by omega] at h
  exact h
theorem m_la_L {e : En} (V : VE e) (K : PH → Int32 → Option (Int32 × PH)) {p : Nat} (hp : p < 10) : ∀ k j n acc (R : PH), ME R e → j + k = e_nr e → k < n → ∃ R', f_X10_last_L31 K 47 (nI p) n R (nI acc) (nI j) = K R' (nI (acc + cR (fun r => (own e r).map Prod.fst == some p) k j)) ∧ Eqc R R' := by
  have hnr := V.2.1
  intro k
  induction k with
  | zero =>
    intro j n acc R M hj hn
    obtain ⟨n, rfl⟩ := pre_n hn
    unfold f_X10_last_L31 cR
    rw [M.2.2.1, if_pos (nI_le (by omega) (by omega)), Nat.add_zero]
    exact ⟨R, rfl, Eqc.rf R⟩
  | succ k ih =>
    intro j n acc R M hj hn
    obtain ⟨n, rfl⟩ := pre_n hn
    obtain ⟨R1, b1, b2, -⟩ := m_ownerOf M V (show j < e_nr e by omega)
    have M1 := b2.me M
    unfold f_X10_last_L31 cR
    rw [M.2.2.1, if_neg (nI_ge (by omega) (by omega)), b1, Option.bind_some, nI_1, nI_1, ← Nat.add_assoc]
    show ∃ R', (if optI (own e j) = nI p then _ else _) = _ ∧ _
    by_cases hc : ((own e j).map Prod.fst == some p) = true
    · rw [if_pos ((optI_eq V hp).mpr hc), hc]
      obtain ⟨R', c1, c2⟩ := ih (j + 1) n (acc + 1) R1 M1 (by omega) (by omega)
      exact ⟨R', c1, b2.tr c2⟩
    · rw [if_neg (fun q => hc ((optI_eq V hp).mp q)), (by simpa using hc : ((own e j).map Prod.fst == some p) = false)]
      obtain ⟨R', c1, c2⟩ := ih (j + 1) n acc R1 M1 (by omega) (by omega)
      refine ⟨R', ?_, b2.tr c2⟩
      show f_X10_last_L31 K 47 (nI p) n R1 (nI acc + nI 0) (nI (j + 1)) = _
      rw [nI_add, Nat.add_zero]
      exact c1
theorem q_last (h : SRx P sw g d hist m sn tl) (x : Int32) : QOK P sw (f_X9_last P 0 x) (f_X10_last P 47 x) := by
  have hnp := h.np
  have hnr := h.nr
  unfold f_X9_last f_X10_last
  refine q_wrap h x (fun p hp hx ha => ?_)
  subst hx
  have hlt : 2 ^ p < 2 ^ g_np g := Nat.pow_lt_pow_right (by decide) hp
  have V := h.veg (h.val hlt)
  have C : CE0 P (hs sw) (ENV g (sAl d (2 ^ p))) := h.ceg rfl rfl rfl rfl rfl rfl rfl rfl rfl rfl
  have ho := c_owned V C (p := p) (by omega)
  have M1 : MM (sI (asI P) 61 1 (nI (2 ^ p))) g (sAl d (2 ^ p)) := s61_mm 1 _ h.mm (h.mm.2.2.al _)
  obtain ⟨R', c1, c2⟩ := m_la_L V (fun P7 v6 => some (v6, P7)) (p := p) (by omega) (g_nr g) 0 1000 0 _ (mm_me M1 (by show d_day d < 1000; have := h.2.2.1.1; omega) h.til) (by show 0 + g_nr g = g_nr g; omega) (by omega)
  have hb : bs (g_nr g) (fun r => (own (ENV g (sAl d (2 ^ p))) r).map Prod.fst == some p) < 128 := Nat.lt_of_lt_of_le (bs_lt _ _) (pow_b (n := g_nr g) (m := 7) hnr)
  rw [asI_eq h.mr, Option.bind_some, g_1, t_1, asI_r, mr_now h.mr, mb_sh (by omega), Option.bind_some, h.house, show f_X2_owned P (hs sw) (nI p) (nI (2 ^ p)) = some (nI (bs (g_nr g) (fun r => (own (ENV g (sAl d (2 ^ p))) r).map Prod.fst == some p))) from ho, Option.bind_some, bitCount_eq P hb, pop7 _ hnr]
  refine ⟨_, R', rfl, ?_, ((asI_ag sw P).tr (s61_ag sw _ 1 _)).tr (c2.ag sw)⟩
  rw [show (0 : Int32) = nI 0 from rfl, c1, Nat.zero_add]
end WHO
