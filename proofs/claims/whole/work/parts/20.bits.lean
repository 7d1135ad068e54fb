/-! numbers and sets as numbers -/
theorem fa_lit (n : Nat) : (OfNat.ofNat n : Int32) = nI n := rfl
theorem s_l : ∀ n, n < 32 → ((nI n &&& 31).toBitVec.smod 32).toNat = n := by decide +kernel
theorem fa_and (a b : Nat) : nI a &&& nI b = nI (a &&& b) := by
  apply Int32.toBitVec_inj.1
  show BitVec.ofNat 32 a &&& BitVec.ofNat 32 b = BitVec.ofNat 32 (a &&& b)
  apply BitVec.eq_of_getLsbD_eq
  intro i hi
  simp [hi]
theorem fa_or (a b : Nat) : nI a ||| nI b = nI (a ||| b) := by
  apply Int32.toBitVec_inj.1
  show BitVec.ofNat 32 a ||| BitVec.ofNat 32 b = BitVec.ofNat 32 (a ||| b)
  apply BitVec.eq_of_getLsbD_eq
  intro i hi
  simp [hi]
/-- a without b -/
def nd (a b : Nat) : Nat := a ^^^ (a &&& b)
theorem nd_bit (a b i : Nat) : (nd a b).testBit i = (a.testBit i && !b.testBit i) := by
  unfold nd
  rw [Nat.testBit_xor, Nat.testBit_and]
  cases a.testBit i <;> cases b.testBit i <;> rfl
theorem mb_not (a b : Nat) : nI a &&& (nI b ^^^ (-1 : Int32)) = nI (nd a b) := by
  apply Int32.toBitVec_inj.1
  show BitVec.ofNat 32 a &&& (BitVec.ofNat 32 b ^^^ BitVec.allOnes 32) = BitVec.ofNat 32 (nd a b)
  apply BitVec.eq_of_getLsbD_eq
  intro i hi
  rw [BitVec.getLsbD_and, BitVec.getLsbD_xor, BitVec.getLsbD_ofNat, BitVec.getLsbD_ofNat, BitVec.getLsbD_ofNat, BitVec.getLsbD_allOnes, nd_bit]
  simp [hi]
theorem mb_sh {k : Nat} (hk : k < 31) : (1 : Int32) <<< (nI k &&& 31) = nI (2 ^ k) := by
  have h := pk_shlN (n := 1) (nI k &&& 31) k (s_l k (by omega)) (by rw [Nat.one_mul]; exact Nat.pow_lt_pow_right (by omega) (by omega))
  rw [Nat.one_mul] at h
  exact h
theorem mb_div {a k : Nat} (ha : a < 2 ^ 31) (hk : k < 31) : ((nI a >>> (nI k &&& 31)) &&& (1 : Int32)) = nI (a / 2 ^ k % 2) := by
  rw [pk_shrN ha (nI k &&& 31) k (s_l k (by omega)), show (1 : Int32) = nI 1 from rfl, fa_and, Nat.and_one_is_mod]
theorem mb_bit {a k : Nat} (ha : a < 2 ^ 31) (hk : k < 31) : ((nI a >>> (nI k &&& 31)) &&& (1 : Int32)) = nI (a.testBit k).toNat := by
  rw [mb_div ha hk, Nat.testBit_eq_decide_div_mod_eq]
  have h := Nat.mod_two_eq_zero_or_one (a / 2 ^ k)
  rcases h with h | h <;> rw [h] <;> rfl
theorem mb_t {a k : Nat} (ha : a < 2 ^ 31) (hk : k < 31) : ((nI a >>> (nI k &&& 31)) &&& (1 : Int32)) = 1 ↔ a.testBit k = true := by
  rw [mb_bit ha hk]
  cases a.testBit k <;> decide
theorem mb_f {a k : Nat} (ha : a < 2 ^ 31) (hk : k < 31) : ((nI a >>> (nI k &&& 31)) &&& (1 : Int32)) = 0 ↔ a.testBit k = false := by
  rw [mb_bit ha hk]
  cases a.testBit k <;> decide
/-- the set of those from j on, m of them, for which f holds -/
def br (f : Nat → Bool) : Nat → Nat → Nat
  | 0, _ => 0
  | m + 1, j => (if f j then 2 ^ j else 0) ||| br f m (j + 1)
abbrev bs (n : Nat) (f : Nat → Bool) : Nat := br f n 0
theorem br_bit (f : Nat → Bool) : ∀ (m j i : Nat), (br f m j).testBit i = (decide (j ≤ i) && decide (i < j + m) && f i)
  | 0, j, i => by
    unfold br
    rw [Nat.zero_testBit]
    by_cases h : j ≤ i
    · rw [decide_eq_false (by omega : ¬ i < j + 0)]; simp
    · rw [decide_eq_false h]; simp
  | m + 1, j, i => by
    unfold br
    rw [Nat.testBit_or, br_bit f m (j + 1) i]
    by_cases hij : i = j
    · subst hij
      have e : (if f i = true then 2 ^ i else 0).testBit i = f i := by
        cases h : f i
        · simp
        · simp
      rw [e, decide_eq_true (Nat.le_refl i), decide_eq_true (by omega : i < i + (m + 1)), decide_eq_false (by omega : ¬ i + 1 ≤ i)]
      simp
    · have e : (if f j = true then 2 ^ j else 0).testBit i = false := by
        cases h : f j
        · simp
        · simp only [if_true, Nat.testBit_two_pow]
          exact decide_eq_false (fun h => hij h.symm)
      rw [e, Bool.false_or]
      by_cases h1 : j + 1 ≤ i
      · rw [decide_eq_true h1, decide_eq_true (by omega : j ≤ i)]
        by_cases h2 : i < j + (m + 1)
        · rw [decide_eq_true h2, decide_eq_true (by omega : i < j + 1 + m)]
        · rw [decide_eq_false h2, decide_eq_false (by omega : ¬ i < j + 1 + m)]
      · rw [decide_eq_false h1, decide_eq_false (by omega : ¬ j ≤ i)]
        simp
theorem bs_bit (n : Nat) (f : Nat → Bool) (i : Nat) : (bs n f).testBit i = (decide (i < n) && f i) := by
  rw [br_bit]
  simp
theorem lt_of_bits {a n : Nat} (h : ∀ i, n ≤ i → a.testBit i = false) : a < 2 ^ n := Nat.lt_pow_two_of_testBit a h
theorem bs_lt (n : Nat) (f : Nat → Bool) : bs n f < 2 ^ n := lt_of_bits fun i hi => by rw [bs_bit, decide_eq_false (by omega)]; rfl
theorem bit_lt {a n i : Nat} (h : a < 2 ^ n) (hi : n ≤ i) : a.testBit i = false := Nat.testBit_lt_two_pow (Nat.lt_of_lt_of_le h (Nat.pow_le_pow_right (by decide) hi))
theorem bs_ext {n : Nat} {f g : Nat → Bool} (h : ∀ i, i < n → f i = g i) : bs n f = bs n g := by
  apply Nat.eq_of_testBit_eq
  intro i
  rw [bs_bit, bs_bit]
  by_cases hi : i < n
  · rw [h i hi]
  · rw [decide_eq_false hi]; rfl
theorem eq_bs {a n : Nat} {f : Nat → Bool} (ha : a < 2 ^ n) (h : ∀ i, i < n → a.testBit i = f i) : a = bs n f := by
  apply Nat.eq_of_testBit_eq
  intro i
  rw [bs_bit]
  by_cases hi : i < n
  · rw [h i hi, decide_eq_true hi]; rfl
  · rw [decide_eq_false hi, bit_lt ha (by omega)]; rfl
theorem br_or (f : Nat → Bool) (m j acc : Nat) : (if f j then acc ||| 2 ^ j else acc) ||| br f m (j + 1) = acc ||| br f (m + 1) j := by
  show _ = acc ||| ((if f j then 2 ^ j else 0) ||| br f m (j + 1))
  cases f j
  · simp
  · simp [Nat.or_assoc]
def pop : Nat → Nat → Nat
  | 0, _ => 0
  | n + 1, a => pop n a + (a.testBit n).toNat
theorem bitCount_eq (P : PH) {a : Nat} (ha : a < 128) : f_J6_bitCount_0f7a4 P (nI a) = some (nI (pop 7 a)) := by
  have h : ∀ a, a < 128 → f_J6_bitCount_0f7a4 P0 (nI a) = some (nI (pop 7 a)) := by decide +kernel
  exact h a ha
theorem bits_eq (P : PH) {a : Nat} (ha : a < 128) : f_X10_bits P (nI a) = some (nI (pop 7 a)) := by
  have e : f_X10_bits P (nI a) = f_X10_bits P0 (nI a) := by
    unfold f_X10_bits
    have g : ∀ (n : Nat) (x y z : Int32), f_X10_bits_L4 (fun v => some v) P x n y z = f_X10_bits_L4 (fun v => some v) P0 x n y z := by
      intro n
      induction n with
      | zero => intro x y z; rfl
      | succ n ih => intro x y z; unfold f_X10_bits_L4; rw [ih]
    exact g _ _ _ _
  rw [e]
  have h : ∀ a, a < 128 → f_X10_bits P0 (nI a) = some (nI (pop 7 a)) := by decide +kernel
  exact h a ha
theorem pop_le : ∀ n a, pop n a ≤ n
  | 0, _ => Nat.le_refl 0
  | n + 1, a => by
    have h := pop_le n a
    unfold pop
    have : (a.testBit n).toNat ≤ 1 := by cases a.testBit n <;> decide
    omega
