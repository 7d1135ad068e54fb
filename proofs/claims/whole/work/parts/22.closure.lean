/-! where one comes to: both ways of going on come to the same -/
def sb (a b : Nat) : Prop := ∀ i, a.testBit i = true → b.testBit i = true
theorem sb.rf (a : Nat) : sb a a := fun _ h => h
theorem sb.tr {a b c : Nat} (h : sb a b) (g : sb b c) : sb a c := fun i q => g i (h i q)
theorem sb.eq {a b : Nat} (h : sb a b) (g : sb b a) : a = b := by
  apply Nat.eq_of_testBit_eq
  intro i
  cases ha : a.testBit i <;> cases hb : b.testBit i
  · rfl
  · rw [g i hb] at ha; cases ha
  · rw [h i ha] at hb; cases hb
  · rfl
theorem sb_or {a b : Nat} : sb a (a ||| b) := fun i h => by rw [Nat.testBit_or, h]; rfl
theorem pop_strict : ∀ (n : Nat) {a b : Nat}, sb a b → pop n a ≤ pop n b ∧ ((∃ i, i < n ∧ b.testBit i = true ∧ a.testBit i = false) → pop n a < pop n b)
  | 0, _, _, _ => ⟨Nat.le_refl 0, fun ⟨i, h, _⟩ => by omega⟩
  | n + 1, a, b, h => by
    obtain ⟨h1, h2⟩ := pop_strict n h
    have h3 : (a.testBit n).toNat ≤ (b.testBit n).toNat := by
      cases ha : a.testBit n
      · exact Nat.zero_le _
      · rw [h n ha]
        exact Nat.le_refl _
    unfold pop
    refine ⟨by omega, fun ⟨i, hi, hb, ha⟩ => ?_⟩
    by_cases hin : i = n
    · subst hin
      rw [ha, hb]
      show pop i a + 0 < pop i b + 1
      omega
    · have := h2 ⟨i, by omega, hb, ha⟩
      omega
theorem pop_full : ∀ (n : Nat) {a : Nat}, n ≤ pop n a → ∀ i, i < n → a.testBit i = true
  | 0, _, _, i, hi => by omega
  | n + 1, a, h, i, hi => by
    have h1 := pop_le n a
    unfold pop at h
    have h2 : (a.testBit n).toNat ≤ 1 := by cases a.testBit n <;> decide
    by_cases hin : i = n
    · subst hin
      cases ha : a.testBit i
      · rw [ha] at h
        change i + 1 ≤ pop i a + 0 at h
        omega
      · rfl
    · exact pop_full n (by omega) i (by omega)
theorem pop_pos {n a : Nat} (ha : a < 2 ^ n) (h0 : a ≠ 0) : 1 ≤ pop n a := by
  have h := (pop_strict n (a := 0) (b := a) (fun i h => by rw [Nat.zero_testBit] at h; cases h)).2
  have hx : ∃ i, i < n ∧ a.testBit i = true ∧ (0 : Nat).testBit i = false := by
    apply Classical.byContradiction
    intro hn
    apply h0
    apply Nat.eq_of_testBit_eq
    intro i
    rw [Nat.zero_testBit]
    by_cases hi : i < n
    · cases hb : a.testBit i
      · rfl
      · exact absurd ⟨i, hi, hb, Nat.zero_testBit i⟩ hn
    · exact bit_lt ha (by omega)
  have := h hx
  omega
theorem nb_bit (door : Nat → Nat) (R i : Nat) : ∀ m j, (nb door R m j).testBit i = true ↔ ∃ k, j ≤ k ∧ k < j + m ∧ R.testBit k = true ∧ (door k).testBit i = true := by
  intro m
  induction m with
  | zero =>
    intro j
    unfold nb
    rw [Nat.zero_testBit]
    constructor
    · intro h; cases h
    · rintro ⟨k, h1, h2, -⟩; omega
  | succ m ih =>
    intro j
    unfold nb
    rw [Nat.testBit_or, Bool.or_eq_true, ih (j + 1)]
    constructor
    · rintro (h | ⟨k, h1, h2, h3⟩)
      · by_cases hb : R.testBit j = true
        · rw [if_pos hb] at h
          exact ⟨j, Nat.le_refl j, by omega, hb, h⟩
        · rw [if_neg hb, Nat.zero_testBit] at h
          cases h
      · exact ⟨k, by omega, by omega, h3⟩
    · rintro ⟨k, h1, h2, h3, h4⟩
      by_cases hk : k = j
      · subst hk
        rw [if_pos h3]
        exact Or.inl h4
      · exact Or.inr ⟨k, by omega, by omega, h3, h4⟩
section CLO
variable {e : En} {w : Nat}
theorem gr_bit (R i : Nat) : (gr e w R).testBit i = true ↔ R.testBit i = true ∨ ((∃ k, k < e_nr e ∧ R.testBit k = true ∧ (e_door e k).testBit i = true) ∧ w.testBit i = true) := by
  unfold gr nbr
  rw [Nat.testBit_or, Bool.or_eq_true, Nat.testBit_and, Bool.and_eq_true, nb_bit]
  constructor
  · rintro (h | ⟨⟨k, -, h1, h2⟩, h3⟩)
    · exact Or.inl h
    · exact Or.inr ⟨⟨k, by omega, h2⟩, h3⟩
  · rintro (h | ⟨⟨k, h1, h2⟩, h3⟩)
    · exact Or.inl h
    · exact Or.inr ⟨⟨k, Nat.zero_le k, by omega, h2⟩, h3⟩
theorem gr_mono {R S : Nat} (h : sb R S) : sb (gr e w R) (gr e w S) := by
  intro i hi
  rw [gr_bit] at hi ⊢
  rcases hi with hi | ⟨⟨k, h1, h2, h3⟩, h4⟩
  · exact Or.inl (h i hi)
  · exact Or.inr ⟨⟨k, h1, h k h2, h3⟩, h4⟩
theorem gr_up (R : Nat) : sb R (gr e w R) := sb_or
theorem gri_gr : ∀ i R, gri e w i (gr e w R) = gr e w (gri e w i R)
  | 0, _ => rfl
  | i + 1, R => gri_gr i (gr e w R)
theorem gri_fix : ∀ i R, gr e w R = R → gri e w i R = R
  | 0, _, _ => rfl
  | i + 1, R, h => by
    show gri e w i (gr e w R) = R
    rw [h]
    exact gri_fix i R h
theorem gr_grow (hw : w < 2 ^ e_nr e) : ∀ i R, R < 2 ^ e_nr e → gr e w (gri e w i R) = gri e w i R ∨ i + pop (e_nr e) R ≤ pop (e_nr e) (gri e w i R)
  | 0, R, _ => Or.inr (by show 0 + _ ≤ pop (e_nr e) R; omega)
  | i + 1, R, hR => by
    by_cases hf : gr e w R = R
    · left
      rw [gri_fix (i + 1) R hf]
      exact hf
    · have h1 : pop (e_nr e) R < pop (e_nr e) (gr e w R) := (pop_strict (e_nr e) (gr_up R)).2 (by
        apply Classical.byContradiction
        intro hn
        apply hf
        apply sb.eq _ (gr_up R)
        intro j hj
        cases hb : R.testBit j
        · exfalso
          by_cases hlt : j < e_nr e
          · exact hn ⟨j, hlt, hj, hb⟩
          · rw [bit_lt (gr_lt hR hw) (by omega)] at hj
            cases hj
        · rfl)
      rcases gr_grow hw i (gr e w R) (gr_lt hR hw) with h | h
      · exact Or.inl h
      · right
        show i + 1 + _ ≤ pop (e_nr e) (gri e w i (gr e w R))
        omega
/-- behind one step less than there are rooms nothing comes any more -/
theorem gri_done (hw : w < 2 ^ e_nr e) {R : Nat} (hR : R < 2 ^ e_nr e) : gr e w (gri e w (e_nr e - 1) R) = gri e w (e_nr e - 1) R := by
  by_cases h0 : R = 0
  · subst h0
    have hf : gr e w 0 = 0 := by
      apply sb.eq _ (fun i h => by rw [Nat.zero_testBit] at h; cases h)
      intro i hi
      rw [gr_bit] at hi
      rcases hi with hi | ⟨⟨k, -, h2, -⟩, -⟩
      · exact hi
      · rw [Nat.zero_testBit] at h2
        cases h2
    rw [gri_fix _ 0 hf]
    exact hf
  · rcases gr_grow hw (e_nr e - 1) R hR with h | h
    · exact h
    · have h1 := pop_pos hR h0
      have h2 := pop_full (e_nr e) (a := gri e w (e_nr e - 1) R) (by omega)
      apply sb.eq _ (gr_up _)
      intro i hi
      by_cases hlt : i < e_nr e
      · exact h2 i hlt
      · rw [bit_lt (gr_lt (gri_lt hw _ _ hR) hw) (by omega)] at hi
        cases hi
theorem gri_last (hw : w < 2 ^ e_nr e) {R : Nat} (hR : R < 2 ^ e_nr e) (hn : 0 < e_nr e) : gri e w (e_nr e) R = gri e w (e_nr e - 1) R := by
  have h : e_nr e = (e_nr e - 1) + 1 := by omega
  have h2 : gri e w (e_nr e - 1 + 1) R = gri e w (e_nr e - 1) R := by
    show gri e w (e_nr e - 1) (gr e w R) = _
    rw [gri_gr, gri_done hw hR]
  rw [← h] at h2
  exact h2
theorem rch_fix (hw : w < 2 ^ e_nr e) {R : Nat} (hR : R < 2 ^ e_nr e) : gr e w (gri e w (e_nr e) R) = gri e w (e_nr e) R := by
  by_cases hn : 0 < e_nr e
  · rw [gri_last hw hR hn]
    exact gri_done hw hR
  · have h0 : e_nr e - 1 = e_nr e := by omega
    have := gri_done hw hR
    rw [h0] at this
    exact this
/-- the model's own way: one room after another, at once -/
def gs (e : En) (w : Nat) : Nat → Nat → Nat → Nat
  | 0, _, S => S
  | m + 1, j, S => gs e w m (j + 1) (S ||| (if S.testBit j then (e_door e j &&& w) else 0))
def gsi (e : En) (w : Nat) : Nat → Nat → Nat
  | 0, S => S
  | n + 1, S => gsi e w n (gs e w (e_nr e) 0 S)
theorem gs_up : ∀ m j S, sb S (gs e w m j S)
  | 0, _, S => sb.rf S
  | m + 1, j, S => sb.tr sb_or (gs_up m (j + 1) _)
theorem gs_has : ∀ m j S k, j ≤ k → k < j + m → S.testBit k = true → ∀ i, (e_door e k).testBit i = true → w.testBit i = true → (gs e w m j S).testBit i = true
  | 0, j, S, k, h1, h2, _, _, _, _ => by omega
  | m + 1, j, S, k, h1, h2, h3, i, h4, h5 => by
    unfold gs
    by_cases hk : k = j
    · subst hk
      apply gs_up
      rw [Nat.testBit_or, if_pos h3, Nat.testBit_and, h4, h5]
      simp
    · exact gs_has m (j + 1) _ k (by omega) (by omega) (sb_or k h3) i h4 h5
theorem gr_gs (S : Nat) : sb (gr e w S) (gs e w (e_nr e) 0 S) := by
  intro i hi
  rw [gr_bit] at hi
  rcases hi with hi | ⟨⟨k, h1, h2, h3⟩, h4⟩
  · exact gs_up _ _ _ i hi
  · exact gs_has (e_nr e) 0 S k (Nat.zero_le k) (by omega) h2 i h3 h4
theorem gs_in {C : Nat} (hC : gr e w C = C) : ∀ m j S, j + m ≤ e_nr e → sb S C → sb (gs e w m j S) C
  | 0, _, _, _, h => h
  | m + 1, j, S, hj, h => by
    unfold gs
    refine gs_in hC m (j + 1) _ (by omega) (fun i hi => ?_)
    rw [Nat.testBit_or, Bool.or_eq_true] at hi
    rcases hi with hi | hi
    · exact h i hi
    · by_cases hb : S.testBit j = true
      · rw [if_pos hb, Nat.testBit_and, Bool.and_eq_true] at hi
        rw [← hC, gr_bit]
        exact Or.inr ⟨⟨j, by omega, h j hb, hi.1⟩, hi.2⟩
      · rw [if_neg hb, Nat.zero_testBit] at hi
        cases hi
theorem gsi_in {C : Nat} (hC : gr e w C = C) : ∀ n S, sb S C → sb (gsi e w n S) C
  | 0, _, h => h
  | n + 1, S, h => gsi_in hC n _ (gs_in hC _ 0 S (by omega) h)
theorem gri_gsi : ∀ n R S, sb R S → sb (gri e w n R) (gsi e w n S)
  | 0, _, _, h => h
  | n + 1, R, S, h => gri_gsi n _ _ (sb.tr (gr_mono h) (gr_gs S))
theorem gri_up : ∀ n R, sb R (gri e w n R)
  | 0, R => sb.rf R
  | n + 1, R => sb.tr (gr_up R) (gri_up n _)
theorem gsi_eq (hw : w < 2 ^ e_nr e) {R : Nat} (hR : R < 2 ^ e_nr e) : gsi e w (e_nr e) R = gri e w (e_nr e) R :=
  sb.eq (gsi_in (rch_fix hw hR) _ _ (gri_up _ R)) (gri_gsi _ R R (sb.rf R))
theorem gs_lt {n : Nat} (hw : w < 2 ^ n) : ∀ m j S, S < 2 ^ n → gs e w m j S < 2 ^ n
  | 0, _, _, h => h
  | m + 1, j, S, h => gs_lt hw m (j + 1) _ (Nat.or_lt_two_pow h (by
    by_cases hb : S.testBit j = true
    · rw [if_pos hb]; exact Nat.and_lt_two_pow _ hw
    · rw [if_neg hb]; exact Nat.two_pow_pos n))
end CLO
