/-! odds -/
section ODDS
variable {P : PH} {sw : Bool} {g : SG} {d : SD} {hist : List (Nat × Nat × Nat)} {m sn tl : Nat}
theorem c_pow_L (P : PH) (K : Int32 → Option Int32) (x k : Nat) (hk : k < 100) : ∀ l j n, j + l = k → l < n → f_X0_power_L4 K P (nI x) (nI k) n (nI (x ^ j)) (nI j) = K (nI (x ^ k)) := by
  intro l
  induction l with
  | zero =>
    intro j n hj hn
    obtain ⟨n, rfl⟩ := pre_n hn
    unfold f_X0_power_L4
    rw [if_pos (nI_le (by omega) (by omega)), show j = k by omega]
  | succ l ih =>
    intro j n hj hn
    obtain ⟨n, rfl⟩ := pre_n hn
    unfold f_X0_power_L4
    rw [if_neg (nI_ge (by omega) (by omega)), pk_mul, nI_1, ← Nat.pow_succ]
    exact ih (j + 1) n (by omega) (by omega)
theorem c_pow (P : PH) (x k : Nat) (hk : k < 100) : f_X0_power P (nI x) (nI k) = some (nI (x ^ k)) := by
  have h := c_pow_L P (fun v => some v) x k hk k 0 1000 (by omega) (by omega)
  rw [Nat.pow_zero] at h
  exact h
theorem i_mod {a b : Nat} (ha : a < 2 ^ 31) (hb : b < 2 ^ 31) (h0 : 0 < b) : nI a - nI a / nI b * nI b = nI (a % b) := by
  have h1 : a / b * b ≤ a := Nat.div_mul_le_self a b
  have h2 := Nat.div_add_mod a b
  rw [pk_div ha h0 hb, pk_mul, pk_sub h1]
  congr 1
  rw [Nat.mul_comm] at h2
  omega
theorem gcd_st {a b : Nat} : Nat.gcd b a = Nat.gcd (a % b) b := Nat.gcd_rec b a
theorem half {a b : Nat} (h0 : 0 < a % b) (hb : 0 < b) : 2 * (b % (a % b)) < b := by
  have h1 := Nat.mod_lt a hb
  have h2 := Nat.mod_lt b h0
  by_cases h3 : 2 * (a % b) ≤ b
  · omega
  · have h4 : b % (a % b) = b - a % b := by
      rw [Nat.mod_eq_sub_mod (by omega), Nat.mod_eq_of_lt (by omega)]
    omega
theorem c_gcd_L (P : PH) (K : Int32 → Option Int32) : ∀ k a b n (i : Nat), a < 2 ^ 31 → b < 2 ^ k → b < 2 ^ 31 → i + 2 * k < 100 → 2 * k < n → f_X0_commonDivisor_L2 K P n (nI a) (nI b) (nI i) = K (nI (Nat.gcd b a)) := by
  intro k
  induction k with
  | zero =>
    intro a b n i ha hb hb2 hi hn
    obtain ⟨n, rfl⟩ := pre_n hn
    have h0 : b = 0 := by omega
    subst h0
    unfold f_X0_commonDivisor_L2
    rw [if_neg (show ¬ (100 : Int32) ≤ nI i from nI_ge (b := 100) (by omega) (by omega)), if_pos (show nI 0 = 0 from rfl), Nat.gcd_zero_left]
  | succ k ih =>
    intro a b n i ha hb hb2 hi hn
    obtain ⟨n, rfl⟩ := pre_n hn
    have hk2 : 2 ^ (k + 1) = 2 ^ k * 2 := Nat.pow_succ 2 k
    unfold f_X0_commonDivisor_L2
    rw [if_neg (show ¬ (100 : Int32) ≤ nI i from nI_ge (b := 100) (by omega) (by omega))]
    by_cases h0 : b = 0
    · subst h0
      rw [if_pos (show nI 0 = 0 from rfl), Nat.gcd_zero_left]
    · have hz : ¬ nI b = 0 := fun q => h0 ((nI_eq (b := 0) hb2 (by decide)).mp q)
      have hr := Nat.mod_lt a (show 0 < b by omega)
      obtain ⟨n, rfl⟩ := pre_n (show 0 < n by omega)
      rw [if_neg hz, if_neg hz, i_mod ha hb2 (by omega), nI_1, gcd_st]
      unfold f_X0_commonDivisor_L2
      rw [if_neg (show ¬ (100 : Int32) ≤ nI (i + 1) from nI_ge (b := 100) (by omega) (by omega))]
      by_cases h1 : a % b = 0
      · rw [h1, if_pos (show nI 0 = 0 from rfl), Nat.gcd_zero_left]
      · have hz1 : ¬ nI (a % b) = 0 := fun q => h1 ((nI_eq (b := 0) (by omega) (by decide)).mp q)
        have hh := half (a := a) (b := b) (by omega) (by omega)
        have hr2 := Nat.mod_lt b (show 0 < a % b by omega)
        rw [if_neg hz1, if_neg hz1, i_mod hb2 (by omega) (by omega), nI_1, gcd_st]
        exact ih (a % b) (b % (a % b)) n (i + 1 + 1) (by omega) (by omega) (by omega) (by omega) (by omega)
theorem m_gcd_L (P : PH) (K : Int32 → Option (Int32 × PH)) (x3 x5 x6 : Int32) : ∀ k a b n, a < 2 ^ 31 → b < 2 ^ k → b < 2 ^ 31 → 2 * k < n → f_X10_odds_L263 K P x3 x5 x6 n (nI a) (nI b) = K (nI (Nat.gcd b a)) := by
  intro k
  induction k with
  | zero =>
    intro a b n ha hb hb2 hn
    obtain ⟨n, rfl⟩ := pre_n hn
    have h0 : b = 0 := by omega
    subst h0
    unfold f_X10_odds_L263
    rw [if_pos (show nI 0 ≤ 0 by decide), Nat.gcd_zero_left]
  | succ k ih =>
    intro a b n ha hb hb2 hn
    obtain ⟨n, rfl⟩ := pre_n hn
    have hk2 : 2 ^ (k + 1) = 2 ^ k * 2 := Nat.pow_succ 2 k
    unfold f_X10_odds_L263
    by_cases h0 : b = 0
    · subst h0
      rw [if_pos (show nI 0 ≤ 0 by decide), Nat.gcd_zero_left]
    · have hz : ¬ nI b = 0 := fun q => h0 ((nI_eq (b := 0) hb2 (by decide)).mp q)
      have hr := Nat.mod_lt a (show 0 < b by omega)
      obtain ⟨n, rfl⟩ := pre_n (show 0 < n by omega)
      rw [if_neg (show ¬ nI b ≤ 0 from nI_ge (a := 0) (by omega) (by omega)), if_neg hz, i_mod ha hb2 (by omega), gcd_st]
      unfold f_X10_odds_L263
      by_cases h1 : a % b = 0
      · rw [h1, if_pos (show nI 0 ≤ 0 by decide), Nat.gcd_zero_left]
      · have hz1 : ¬ nI (a % b) = 0 := fun q => h1 ((nI_eq (b := 0) (by omega) (by decide)).mp q)
        have hh := half (a := a) (b := b) (by omega) (by omega)
        have hr2 := Nat.mod_lt b (show 0 < a % b by omega)
        rw [if_neg (show ¬ nI (a % b) ≤ 0 from nI_ge (a := 0) (by omega) (by omega)), if_neg hz1, i_mod hb2 (by omega) (by omega), gcd_st]
        exact ih (a % b) (b % (a % b)) n (by omega) (by omega) (by omega) (by omega)
/-! weights -/
def prf (w : Nat → Nat) : Nat → Nat
  | 0 => 1
  | n + 1 => prf w n * w n
def wgt (x o s : Nat) (i : Nat) : Nat := if o.testBit i = true then (if s.testBit i = true then x else 10 - x) else 1
theorem prf_w {x o s : Nat} (hs : sb s o) : ∀ n, prf (wgt x o s) n = x ^ pop n s * (10 - x) ^ (pop n o - pop n s) := by
  intro n
  induction n with
  | zero => rfl
  | succ n ih =>
    have h1 := (pop_strict n hs).1
    show prf (wgt x o s) n * (if o.testBit n = true then (if s.testBit n = true then x else 10 - x) else 1) = x ^ (pop n s + (s.testBit n).toNat) * (10 - x) ^ (pop n o + (o.testBit n).toNat - (pop n s + (s.testBit n).toNat))
    rw [ih]
    cases ho : o.testBit n
    · cases hss : s.testBit n
      · rw [if_neg (by decide), Nat.mul_one]
        rfl
      · rw [hs n hss] at ho
        cases ho
    · rw [if_pos rfl]
      cases hss : s.testBit n
      · rw [if_neg (by decide), show (true.toNat) = 1 from rfl, show (false.toNat) = 0 from rfl, Nat.add_zero, show pop n o + 1 - pop n s = (pop n o - pop n s) + 1 by omega, Nat.pow_succ (10 - x), Nat.mul_assoc]
      · rw [if_pos rfl, show (true.toNat) = 1 from rfl, show pop n o + 1 - (pop n s + 1) = pop n o - pop n s by omega, Nat.pow_succ x, Nat.mul_assoc, Nat.mul_assoc, Nat.mul_comm x]
def wg0 (o : Nat) (i : Nat) : Nat := if o.testBit i = true then 10 else 1
theorem prf_0 (o : Nat) : ∀ n, prf (wg0 o) n = 10 ^ pop n o := by
  intro n
  induction n with
  | zero => rfl
  | succ n ih =>
    show prf (wg0 o) n * (if o.testBit n = true then 10 else 1) = 10 ^ (pop n o + (o.testBit n).toNat)
    rw [ih]
    cases ho : o.testBit n
    · rw [if_neg (by decide), Nat.mul_one]
      rfl
    · rw [if_pos rfl, show (true.toNat) = 1 from rfl, Nat.pow_succ]
theorem pop_hi {a n : Nat} (ha : a < 2 ^ n) : ∀ k, pop (n + k) a = pop n a
  | 0 => rfl
  | k + 1 => by
    show pop (n + k) a + (a.testBit (n + k)).toNat = _
    rw [pop_hi ha k, bit_lt ha (by omega)]
    rfl
theorem pop_7n {a n : Nat} (ha : a < 2 ^ n) (hn : n ≤ 7) : pop n a = pop 7 a := by
  have h := pop_hi ha (7 - n)
  rw [show n + (7 - n) = 7 by omega] at h
  exact h.symm
theorem al_sub {a s : Nat} (ha : a < 64) (hs : s < 64) (h : sb s a) : a - s = nd a s ∧ s ≤ a := by
  have k : ∀ a, a < 64 → ∀ s, s < 64 → nd s a = 0 → a - s = nd a s ∧ s ≤ a := by decide +kernel
  exact k a ha s hs ((nd_0 s a).mpr h)
def osum (t : Nat → Nat) : Nat → Nat → Nat → Nat
  | 0, _, acc => acc
  | k + 1, j, acc => osum t k (j + 1) (acc + t j)
theorem osum_add (t : Nat → Nat) : ∀ k l j acc, osum t (k + l) j acc = osum t l (j + k) (osum t k j acc) := by
  intro k
  induction k with
  | zero => intro l j b; rw [Nat.zero_add]; rfl
  | succ k ih =>
    intro l j b
    rw [show k + 1 + l = (k + l) + 1 by omega]
    show osum t (k + l) (j + 1) _ = osum t l (j + (k + 1)) (osum t k (j + 1) _)
    rw [ih, show j + 1 + k = j + (k + 1) by omega]
theorem osum_no {t : Nat → Nat} : ∀ k j acc, (∀ i, j ≤ i → i < j + k → t i = 0) → osum t k j acc = acc := by
  intro k
  induction k with
  | zero => intro j b _; rfl
  | succ k ih =>
    intro j b hi
    unfold osum
    rw [hi j (Nat.le_refl j) (by omega), ih (j + 1) _ (fun i h1 h2 => hi i (by omega) (by omega))]
    rfl
theorem osum_le {t : Nat → Nat} {B : Nat} (ht : ∀ i, t i ≤ B) : ∀ k j acc, osum t k j acc ≤ acc + k * B := by
  intro k
  induction k with
  | zero => intro j b; unfold osum; omega
  | succ k ih =>
    intro j b
    have h1 := ih (j + 1) (b + t j)
    have h2 := ht j
    unfold osum
    rw [Nat.succ_mul]
    omega
def odT (g : SG) (d : SD) (p x : Nat) (s : Nat) : Nat := if (nd s (nd (d_al d) (2 ^ p)) == 0 && !cutB (ENV g (sAl d (nd (d_al d) s))) p) = true then x ^ pop 7 s * (10 - x) ^ (pop 7 (nd (d_al d) (2 ^ p)) - pop 7 s) else 0
theorem pow_10 {x k : Nat} (hx : x ≤ 10) : x ^ k ≤ 10 ^ k := Nat.pow_le_pow_left hx k
theorem odT_le {p x : Nat} (hx : x ≤ 10) (ho : pop 7 (nd (d_al d) (2 ^ p)) ≤ 7) (s : Nat) : odT g d p x s ≤ 10000000 := by
  unfold odT
  split
  · rename_i hc
    rw [Bool.and_eq_true, beq_iff_eq, nd_0] at hc
    have h1 := (pop_strict 7 hc.1).1
    have h2 : x ^ pop 7 s * (10 - x) ^ (pop 7 (nd (d_al d) (2 ^ p)) - pop 7 s) ≤ 10 ^ pop 7 s * 10 ^ (pop 7 (nd (d_al d) (2 ^ p)) - pop 7 s) := Nat.mul_le_mul (pow_10 hx) (pow_10 (by omega))
    rw [← Nat.pow_add, show pop 7 s + (pop 7 (nd (d_al d) (2 ^ p)) - pop 7 s) = pop 7 (nd (d_al d) (2 ^ p)) by omega] at h2
    have h3 : 10 ^ pop 7 (nd (d_al d) (2 ^ p)) ≤ 10 ^ 7 := Nat.pow_le_pow_right (by decide) ho
    exact Nat.le_trans h2 h3
  · exact Nat.zero_le _
theorem c_od_L (h : SRx P sw g d hist m sn tl) (K : Int32 → Option Int32) {p x : Nat} (hp : p < g_np g) (hx : x ≤ 10) (x3 x6 : Int32) : ∀ k j n acc, j + k = nd (d_al d) (2 ^ p) + 1 → k < n → f_X0_chance_L29 K P (hs sw) (nI p) (nI x) x3 (nI (nd (d_al d) (2 ^ p))) (nI (pop 7 (nd (d_al d) (2 ^ p)))) x6 n (nI acc) (nI j) = K (nI (osum (odT g d p x) k j acc)) := by
  have hnp := h.np
  have hal := h.2.2.1.2.1
  have h64 := h.al64
  have ho : nd (d_al d) (2 ^ p) < 64 := nd_le _ _ (n := 6) h64
  intro k
  induction k with
  | zero =>
    intro j n acc hj hn
    obtain ⟨n, rfl⟩ := pre_n hn
    unfold f_X0_chance_L29 osum
    rw [if_pos ((nI_ltI (by omega) (by omega)).mpr (by omega))]
  | succ k ih =>
    intro j n acc hj hn
    obtain ⟨n, rfl⟩ := pre_n hn
    have hj7 : j < 128 := by omega
    have hz : nd j (nd (d_al d) (2 ^ p)) < 2 ^ 31 := Nat.lt_of_lt_of_le (nd_le _ _ (n := 7) hj7) (by decide)
    have hq := nd_le (d_al d) j hal
    unfold f_X0_chance_L29 osum
    rw [if_neg (fun q => by have := (nI_ltI (by omega) (by omega)).mp q; omega), mb_not, h.al, mb_not, h.day, c_cutAl h hq hp, nI_1, Option.bind_some, if_b2i, show odT g d p x j = (if (nd j (nd (d_al d) (2 ^ p)) == 0 && !cutB (ENV g (sAl d (nd (d_al d) j))) p) = true then x ^ pop 7 j * (10 - x) ^ (pop 7 (nd (d_al d) (2 ^ p)) - pop 7 j) else 0) from rfl]
    cases hs0 : (nd j (nd (d_al d) (2 ^ p)) == 0)
    · rw [if_neg (fun q => by rw [(z_nI hz).mp q] at hs0; cases hs0), Bool.false_and, if_neg (show ¬ false = true by decide), Nat.add_zero]
      exact ih (j + 1) n acc (by omega) (by omega)
    · have hsb : sb j (nd (d_al d) (2 ^ p)) := (nd_0 _ _).mp (beq_iff_eq.mp hs0)
      have hle := (pop_strict 7 hsb).1
      have p1 := pop_le 7 j
      have p2 := pop_le 7 (nd (d_al d) (2 ^ p))
      rw [if_pos ((z_nI hz).mpr hs0), Bool.true_and]
      cases cutB (ENV g (sAl d (nd (d_al d) j))) p
      · rw [if_neg (show ¬ false = true by decide), bitCount_eq P hj7, Option.bind_some, c_pow P x _ (by omega), Option.bind_some, show (10 : Int32) = nI 10 from rfl, pk_sub hx, pk_sub hle, c_pow P _ _ (by omega), Option.bind_some, pk_mul, nI_add, if_pos (show (!false) = true from rfl)]
        exact ih (j + 1) n _ (by omega) (by omega)
      · rw [if_pos (show true = true from rfl), if_neg (show ¬ (!true) = true by decide), Nat.add_zero]
        exact ih (j + 1) n acc (by omega) (by omega)
theorem oth_bit (a p i : Nat) : (nd a (2 ^ p)).testBit i = (a.testBit i && !(i == p)) := by
  rw [nd_bit, Nat.testBit_two_pow]
  congr 2
  apply Bool.eq_iff_iff.mpr
  rw [decide_eq_true_eq, beq_iff_eq]
  exact eq_comm
theorem m_lo_L (h : SRx P sw g d hist m sn tl) (K : Int32 → Option (Int32 × PH)) (p : Nat) (hp : p < g_np g) (x2 x3 : Int32) {R : PH} (M : MR R) (A : Ag sw P R) : ∀ k j n, j + k = g_np g → k < n → f_X10_odds_L52 K R 47 (nI p) x2 x3 false n (nI (prf (wg0 (nd (d_al d) (2 ^ p))) j)) (nI j) = K (nI (prf (wg0 (nd (d_al d) (2 ^ p))) (g_np g))) := by
  have hnp := h.np
  have e51 : R.1 51 1 = nI (d_al d) := (A.2 51 1 (by cases sw <;> rfl)).trans h.2.2.2.2.2.2.1.2.1
  have e47 : R.1 47 0 = nI (g_np g) := (A.2 47 0 (by cases sw <;> rfl)).trans h.2.2.2.2.1.1
  intro k
  induction k with
  | zero =>
    intro j n hj hn
    obtain ⟨n, rfl⟩ := pre_n hn
    unfold f_X10_odds_L52
    rw [e47, if_pos (nI_le (by omega) (by omega)), show j = g_np g by omega]
  | succ k ih =>
    intro j n hj hn
    obtain ⟨n, rfl⟩ := pre_n hn
    have i1 := ih (j + 1) n (by omega) (by omega)
    have e1 : prf (wg0 (nd (d_al d) (2 ^ p))) (j + 1) = prf (wg0 (nd (d_al d) (2 ^ p))) j * (if (nd (d_al d) (2 ^ p)).testBit j = true then 10 else 1) := rfl
    rw [e1, oth_bit] at i1
    unfold f_X10_odds_L52
    rw [e47, if_neg (nI_ge (by omega) (by omega)), g_1, t_1, mr_st M, e51, m_has h.alt (by omega), Option.bind_some, if_b2i, nI_1, show (1 : Int32) = nI 1 from rfl, show (10 : Int32) = nI 10 from rfl, pk_mul, pk_mul]
    by_cases hjp : j = p
    · rw [if_pos (by rw [hjp])]
      rw [if_neg (by rw [hjp]; simp)] at i1
      exact i1
    · rw [if_neg (fun q => hjp ((nI_eq (by omega) (by omega)).mp q))]
      rw [beq_false_of_ne hjp, Bool.not_false, Bool.and_true] at i1
      by_cases hb : (d_al d).testBit j = true
      · rw [if_pos hb] at i1 ⊢
        exact i1
      · rw [if_neg hb] at i1 ⊢
        exact i1
theorem m_wg_L (h : SRx P sw g d hist m sn tl) (K : Int32 → Option (Int32 × PH)) {p x s : Nat} (hp : p < g_np g) (hx : x ≤ 10) (hs7 : s < 2 ^ 7) (x3 x5 x6 : Int32) (c : Nat) {R : PH} (M : MR R) (A : Ag sw P R) : ∀ k j n, j + k = g_np g → k < n → f_X10_odds_L168 K R 47 (nI p) (nI x) x3 x5 x6 (nI s) n (nI (c * prf (wgt x (nd (d_al d) (2 ^ p)) s) j)) (nI j) = K (nI (c * prf (wgt x (nd (d_al d) (2 ^ p)) s) (g_np g))) := by
  have hnp := h.np
  have e51 : R.1 51 1 = nI (d_al d) := (A.2 51 1 (by cases sw <;> rfl)).trans h.2.2.2.2.2.2.1.2.1
  have e47 : R.1 47 0 = nI (g_np g) := (A.2 47 0 (by cases sw <;> rfl)).trans h.2.2.2.2.1.1
  intro k
  induction k with
  | zero =>
    intro j n hj hn
    obtain ⟨n, rfl⟩ := pre_n hn
    unfold f_X10_odds_L168
    rw [e47, if_pos (nI_le (by omega) (by omega)), show j = g_np g by omega]
  | succ k ih =>
    intro j n hj hn
    obtain ⟨n, rfl⟩ := pre_n hn
    have i1 := ih (j + 1) n (by omega) (by omega)
    have e1 : prf (wgt x (nd (d_al d) (2 ^ p)) s) (j + 1) = prf (wgt x (nd (d_al d) (2 ^ p)) s) j * (if (nd (d_al d) (2 ^ p)).testBit j = true then (if s.testBit j = true then x else 10 - x) else 1) := rfl
    rw [e1, oth_bit, ← Nat.mul_assoc] at i1
    unfold f_X10_odds_L168
    simp only [g_1, i10, i00, if_true]
    rw [e47, if_neg (nI_ge (by omega) (by omega)), t_1, mr_st M, e51, m_has h.alt (by omega), Option.bind_some, if_b2i, nI_1, m_has (by omega) (by omega), Option.bind_some, if_b2i, show (1 : Int32) = nI 1 from rfl, show (10 : Int32) = nI 10 from rfl, pk_sub hx, pk_mul, pk_mul, pk_mul]
    by_cases hjp : j = p
    · rw [if_pos (by rw [hjp])]
      rw [if_neg (by rw [hjp]; simp)] at i1
      exact i1
    · rw [if_neg (fun q => hjp ((nI_eq (by omega) (by omega)).mp q))]
      rw [beq_false_of_ne hjp, Bool.not_false, Bool.and_true] at i1
      by_cases hb : (d_al d).testBit j = true
      · rw [if_pos hb] at i1 ⊢
        by_cases hc : s.testBit j = true
        · rw [if_pos hc] at i1 ⊢
          exact i1
        · rw [if_neg hc] at i1 ⊢
          exact i1
      · rw [if_neg hb] at i1 ⊢
        exact i1
theorem m_od_L (h : SRx P sw g d hist m sn tl) (K : PH → Int32 → Option (Int32 × PH)) {p x : Nat} (hp : p < g_np g) (hx : x ≤ 10) (x3 x6 : Int32) : ∀ k j n acc (R : PH), (∃ a, MM R g (sAl d a)) → Ag sw P R → j + k = 2 ^ g_np g → k < n → ∃ R', f_X10_odds_L101 K 47 (nI p) (nI x) x3 x6 n R (nI acc) (nI j) = K R' (nI (osum (odT g d p x) k j acc)) ∧ Ag sw P R' := by
  have hnp := h.np
  have hal := h.2.2.1.2.1
  have h64 := h.al64
  have h6 : 2 ^ g_np g ≤ 2 ^ 6 := pow_b hnp
  have ho2 : nd (d_al d) (2 ^ p) < 2 ^ g_np g := nd_le _ _ hal
  intro k
  induction k with
  | zero =>
    intro j n acc R ⟨a, M⟩ A hj hn
    obtain ⟨n, rfl⟩ := pre_n hn
    unfold f_X10_odds_L101 osum
    rw [M.2.1.1, mb_sh (by omega), if_pos (nI_le (by omega) (by omega))]
    exact ⟨R, rfl, A⟩
  | succ k ih =>
    intro j n acc R ⟨a, M⟩ A hj hn
    obtain ⟨n, rfl⟩ := pre_n hn
    have hj7 : j < 128 := by omega
    have hj6 : j < 2 ^ g_np g := by omega
    have hz : nd j (d_al d) < 2 ^ 31 := Nat.lt_of_lt_of_le (nd_le _ _ (n := 7) hj7) (by decide)
    have hq := nd_le (d_al d) j hal
    have e51 : R.1 51 1 = nI (d_al d) := (A.2 51 1 (by cases sw <;> rfl)).trans h.2.2.2.2.2.2.1.2.1
    unfold f_X10_odds_L101 osum
    simp only [g_1]
    rw [t_1, M.2.1.1, mb_sh (by omega), if_neg (nI_ge (by omega) (by omega)), mr_st M.1, mr_now M.1, e51, mb_not, m_has (by omega) (by omega), Option.bind_some, if_b2i, nI_1, show odT g d p x j = (if (nd j (nd (d_al d) (2 ^ p)) == 0 && !cutB (ENV g (sAl d (nd (d_al d) j))) p) = true then x ^ pop 7 j * (10 - x) ^ (pop 7 (nd (d_al d) (2 ^ p)) - pop 7 j) else 0) from rfl]
    cases hs0 : (nd j (nd (d_al d) (2 ^ p)) == 0)
    · rw [Bool.false_and, if_neg (show ¬ false = true by decide), Nat.add_zero]
      rw [nd_oth] at hs0
      cases hs1 : (nd j (d_al d) == 0)
      · rw [if_neg (fun q => by rw [(z_nI hz).mp q] at hs1; cases hs1)]
        exact ih (j + 1) n acc R ⟨a, M⟩ A (by omega) (by omega)
      · rw [if_pos ((z_nI hz).mpr hs1)]
        rw [hs1, Bool.true_and, Bool.not_eq_false'] at hs0
        rw [if_pos hs0]
        exact ih (j + 1) n acc R ⟨a, M⟩ A (by omega) (by omega)
    · have hsb : sb j (nd (d_al d) (2 ^ p)) := (nd_0 _ _).mp (beq_iff_eq.mp hs0)
      have hW : ∀ c, c * prf (wgt x (nd (d_al d) (2 ^ p)) j) (g_np g) = c * (x ^ pop 7 j * (10 - x) ^ (pop 7 (nd (d_al d) (2 ^ p)) - pop 7 j)) := fun c => by
        rw [prf_w hsb, pop_7n hj6 (by omega), pop_7n ho2 (by omega)]
      rw [nd_oth, Bool.and_eq_true] at hs0
      obtain ⟨hs1, hs2⟩ := hs0
      have hsa : sb j (d_al d) := (nd_0 _ _).mp (beq_iff_eq.mp hs1)
      obtain ⟨s1, s2⟩ := al_sub h64 (show j < 64 by omega) hsa
      have M1 : MM (sI R 61 1 (nI (nd (d_al d) j))) g (sAl d (nd (d_al d) j)) := s61_mm 1 _ M (M.2.2.al _)
      have A1 := A.tr (s61_ag sw R 1 (nI (nd (d_al d) j)))
      obtain ⟨R2, c1, c2⟩ := m_isCutOff (mm_me M1 (by show d_day d < 1000; have := h.2.2.1.1; omega) h.til) (h.veg (h.val hq)) hp
      have A2 := A1.tr (c2.ag sw)
      have M2 := c2.mm M1
      rw [if_pos ((z_nI hz).mpr hs1), if_neg (by simpa using hs2), pk_sub s2, s1, Option.bind_some, c1, Option.bind_some, if_b2i, Bool.true_and]
      show ∃ R', (if cutB (ENV g (sAl d (nd (d_al d) j))) p = true then _ else _) = _ ∧ _
      cases cutB (ENV g (sAl d (nd (d_al d) j))) p
      · have hL := m_wg_L h (fun v12 => f_X10_odds_L101 K 47 (nI p) (nI x) x3 x6 n R2 (nI acc + v12) (nI (j + 1))) hp hx hj7 x3 (nI acc) x6 1 M2.1 A2 (g_np g) 0 1000 (by omega) (by omega)
        rw [hW] at hL
        rw [if_neg (show ¬ false = true by decide), if_pos (show (!false) = true from rfl)]
        obtain ⟨R', d1, d2⟩ := ih (j + 1) n (acc + 1 * (x ^ pop 7 j * (10 - x) ^ (pop 7 (nd (d_al d) (2 ^ p)) - pop 7 j))) R2 ⟨_, M2⟩ A2 (by omega) (by omega)
        rw [← nI_add] at d1
        refine ⟨R', ?_, d2⟩
        rw [Nat.one_mul] at d1
        rw [Nat.one_mul, Nat.one_mul] at hL
        exact hL.trans d1
      · have hL := m_wg_L h (fun v12 => f_X10_odds_L101 K 47 (nI p) (nI x) x3 x6 n R2 (nI acc + v12) (nI (j + 1))) hp hx hj7 x3 (nI acc) x6 0 M2.1 A2 (g_np g) 0 1000 (by omega) (by omega)
        rw [Nat.zero_mul, Nat.zero_mul, nI_add] at hL
        rw [if_pos (show true = true from rfl), if_neg (show ¬ (!true) = true by decide)]
        obtain ⟨R', d1, d2⟩ := ih (j + 1) n (acc + 0) R2 ⟨_, M2⟩ A2 (by omega) (by omega)
        exact ⟨R', hL.trans d1, d2⟩
theorem q_odds (h : SRx P sw g d hist m sn tl) (x y z : Int32) : QOK P sw (f_X9_odds P 0 x y z) (f_X10_odds P 47 x y z) := by
  have hnp := h.np
  unfold f_X9_odds f_X10_odds f_X10_odds_J25
  rw [m_in, m_in, Option.bind_some, Option.bind_some, if_b2i, if_b2i]
  have bad : QOK P sw (some (-1 : Int32)) (f_X10_odds_J26 P 47 x y z 47 x false) := by
    unfold f_X10_odds_J26
    rw [m_refused h]
    refine ⟨-1, P, rfl, ?_, Ag.rf sw P⟩
    have e1 : (if ¬ x < 0 ∧ x < nI (g_np g) then (if b2i false = 0 then (-1 : Int32) else rfI g d x) else -1) = -1 := by
      split
      · rfl
      · rfl
    rw [e1]
    rfl
  by_cases hy1 : y < 0
  · rw [if_pos hy1, if_neg (by simp [hy1])]
    exact bad
  rw [if_neg hy1]
  by_cases hy2 : (10 : Int32) < y
  · rw [if_pos hy2, if_neg (by simp [hy2])]
    exact bad
  rw [if_neg hy2, if_pos (decide_eq_true ⟨hy1, hy2⟩)]
  by_cases hz1 : z < 0
  · rw [if_pos hz1, if_neg (by simp [hz1])]
    exact bad
  rw [if_neg hz1]
  by_cases hz2 : (1 : Int32) < z
  · rw [if_neg (Int32.not_le.mpr hz2), if_neg (by simp [hz2])]
    exact bad
  rw [if_pos (Int32.not_lt.mp hz2), if_pos (decide_eq_true ⟨hz1, hz2⟩)]
  obtain ⟨t, ht, rfl⟩ := nI_of hy1
  have ht10 : t ≤ 10 := by
    have : ¬ nI 10 < nI t := hy2
    rw [nI_ltI (by omega) ht] at this
    omega
  unfold f_X10_odds_J26
  rw [show b2i true = 1 from rfl]
  refine q_wrap h x (fun p hp hx ha => ?_)
  subst hx
  have hal := h.2.2.1.2.1
  have h64 := h.al64
  have ho : nd (d_al d) (2 ^ p) < 64 := nd_le _ _ (n := 6) h64
  have ho2 : nd (d_al d) (2 ^ p) < 2 ^ g_np g := nd_le _ _ hal
  have h6 : 2 ^ g_np g ≤ 2 ^ 6 := pow_b hnp
  have p2 := pop_le 7 (nd (d_al d) (2 ^ p))
  have hlow : 10 ^ pop 7 (nd (d_al d) (2 ^ p)) ≤ 10 ^ 7 := Nat.pow_le_pow_right (by decide) p2
  have hlow0 : 0 < 10 ^ pop 7 (nd (d_al d) (2 ^ p)) := Nat.pow_pos (by decide)
  have hup := osum_le (odT_le (g := g) (d := d) (p := p) ht10 p2) (2 ^ g_np g) 0 0
  have hup2 : 2 ^ g_np g * 10000000 ≤ 2 ^ 6 * 10000000 := Nat.mul_le_mul_right _ h6
  have e1 : osum (odT g d p t) (2 ^ g_np g) 0 0 = osum (odT g d p t) (nd (d_al d) (2 ^ p) + 1) 0 0 := by
    rw [show 2 ^ g_np g = (nd (d_al d) (2 ^ p) + 1) + (2 ^ g_np g - (nd (d_al d) (2 ^ p) + 1)) by omega, osum_add]
    refine osum_no _ _ _ (fun i h1 h2 => ?_)
    unfold odT
    have h3 : (nd i (nd (d_al d) (2 ^ p)) == 0) = false := by
      rw [beq_eq_false_iff_ne]
      intro q
      have := sb_le ((nd_0 _ _).mp q)
      omega
    rw [h3]
    rfl
  have hg : Nat.gcd (10 ^ pop 7 (nd (d_al d) (2 ^ p))) (osum (odT g d p t) (2 ^ g_np g) 0 0) ≤ 10 ^ pop 7 (nd (d_al d) (2 ^ p)) := Nat.le_of_dvd hlow0 (Nat.gcd_dvd_left _ _)
  have hg0 : 0 < Nat.gcd (10 ^ pop 7 (nd (d_al d) (2 ^ p))) (osum (odT g d p t) (2 ^ g_np g) 0 0) := Nat.gcd_pos_of_pos_left _ hlow0
  have hgz : ¬ nI (Nat.gcd (10 ^ pop 7 (nd (d_al d) (2 ^ p))) (osum (odT g d p t) (2 ^ g_np g) 0 0)) = 0 := fun q => by
    have := (nI_eq (b := 0) (by omega) (by decide)).mp q
    omega
  have hlo : prf (wg0 (nd (d_al d) (2 ^ p))) (g_np g) = 10 ^ pop 7 (nd (d_al d) (2 ^ p)) := by rw [prf_0, pop_7n ho2 (by omega)]
  obtain ⟨R', c1, c2⟩ := m_od_L h (fun P20 v19 => f_X10_odds_L263 (fun v21 => (if z = 0 then (if v21 = 0 then none else some ((v19 / v21), P20)) else (if v21 = 0 then none else some ((nI (10 ^ pop 7 (nd (d_al d) (2 ^ p))) / v21), P20)))) P20 z v19 (nI (10 ^ pop 7 (nd (d_al d) (2 ^ p)))) 1000 v19 (nI (10 ^ pop 7 (nd (d_al d) (2 ^ p))))) hp ht10 z (nI (10 ^ pop 7 (nd (d_al d) (2 ^ p)))) (2 ^ g_np g) 0 1000 0 (asI P) ⟨d_al d, ⟨h.mm.1, h.mm.2.1, h.mm.2.2.al0⟩⟩ (asI_ag sw P) (by omega) (by omega)
  have hL := m_lo_L h (fun v18 => f_X10_odds_L101 (fun P20 v19 => f_X10_odds_L263 (fun v21 => (if z = 0 then (if v21 = 0 then none else some ((v19 / v21), P20)) else (if v21 = 0 then none else some ((v18 / v21), P20)))) P20 z v19 v18 1000 v19 v18) 47 (nI p) (nI t) z v18 1000 (asI P) (0 : Int32) (0 : Int32)) p hp (nI t) z h.mm.1 (asI_ag sw P) (g_np g) 0 1000 (by omega) (by omega)
  rw [hlo] at hL
  have hG := m_gcd_L R' (fun v21 => (if z = 0 then (if v21 = 0 then none else some ((nI (osum (odT g d p t) (2 ^ g_np g) 0 0) / v21), R')) else (if v21 = 0 then none else some ((nI (10 ^ pop 7 (nd (d_al d) (2 ^ p))) / v21), R')))) z (nI (osum (odT g d p t) (2 ^ g_np g) 0 0)) (nI (10 ^ pop 7 (nd (d_al d) (2 ^ p)))) 30 (osum (odT g d p t) (2 ^ g_np g) 0 0) (10 ^ pop 7 (nd (d_al d) (2 ^ p))) 1000 (by omega) (by omega) (by omega) (by omega)
  have hM := hL.trans (c1.trans hG)
  have hCh : ∀ w : Int32, f_X0_chance P (hs sw) (nI p) (nI t) w = (if w = 0 then some (nI (10 ^ pop 7 (nd (d_al d) (2 ^ p))) / nI (Nat.gcd (10 ^ pop 7 (nd (d_al d) (2 ^ p))) (osum (odT g d p t) (2 ^ g_np g) 0 0))) else some (nI (osum (odT g d p t) (2 ^ g_np g) 0 0) / nI (Nat.gcd (10 ^ pop 7 (nd (d_al d) (2 ^ p))) (osum (odT g d p t) (2 ^ g_np g) 0 0)))) := by
    intro w
    unfold f_X0_chance f_X0_othersThan f_X0_commonDivisor
    rw [h.al, mb_sh (by omega), mb_not, Option.bind_some, bitCount_eq P (by omega), Option.bind_some, show (10 : Int32) = nI 10 from rfl, c_pow P 10 _ (by omega), Option.bind_some]
    have hc := c_od_L h (fun v10 => ((f_X0_commonDivisor_L2 (fun v1 => some v1) P 1000 (nI (10 ^ pop 7 (nd (d_al d) (2 ^ p)))) v10 (0 : Int32)).bind fun q11 => (if (1 : Int32) ≤ q11 then (if w = 0 then (if q11 = 0 then none else some ((nI (10 ^ pop 7 (nd (d_al d) (2 ^ p)))) / q11)) else (if q11 = 0 then none else some (v10 / q11))) else some (-1 : Int32)))) hp ht10 w (nI (10 ^ pop 7 (nd (d_al d) (2 ^ p)))) (nd (d_al d) (2 ^ p) + 1) 0 1000 0 (by omega) (by omega)
    refine Eq.trans hc ?_
    rw [← e1, show (0 : Int32) = nI 0 from rfl, c_gcd_L P _ 30 _ _ 1000 0 (by omega) (by omega) (by omega) (by omega) (by omega), Nat.gcd_comm (osum (odT g d p t) (2 ^ g_np g) 0 0), Option.bind_some, if_pos (show (1 : Int32) ≤ nI _ from nI_le (a := 1) hg0 (by omega))]
    rw [show (nI 0 : Int32) = 0 from rfl, if_neg hgz, if_neg hgz]
  rw [bind_id, bind_id, asI_eq h.mr, Option.bind_some, h.house, hCh, hCh]
  refine ⟨if z = 0 then nI (osum (odT g d p t) (2 ^ g_np g) 0 0) / nI (Nat.gcd (10 ^ pop 7 (nd (d_al d) (2 ^ p))) (osum (odT g d p t) (2 ^ g_np g) 0 0)) else nI (10 ^ pop 7 (nd (d_al d) (2 ^ p))) / nI (Nat.gcd (10 ^ pop 7 (nd (d_al d) (2 ^ p))) (osum (odT g d p t) (2 ^ g_np g) 0 0)), R', ?_, ?_, c2⟩
  · by_cases hz0 : z = 0
    · rw [if_pos hz0, if_pos hz0, if_neg (show ¬ (1 : Int32) = 0 by decide)]
    · rw [if_neg hz0, if_neg hz0, if_pos rfl]
  · refine Eq.trans hM ?_
    by_cases hz0 : z = 0
    · rw [if_pos hz0, if_pos hz0, if_neg hgz]
    · rw [if_neg hz0, if_neg hz0, if_neg hgz]
end ODDS
