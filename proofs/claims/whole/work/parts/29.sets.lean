/-! needs, holdsOut, dinner, waits -/
def bst (f : Nat → Bool) : Nat → Nat → Option Nat → Option Nat
  | 0, _, b => b
  | k + 1, j, b => bst f k (j + 1) (if (b.elim true (fun v => decide (pop 7 j < pop 7 v)) && f j) = true then some j else b)
theorem bst_ext {f g : Nat → Bool} : ∀ k j b, (∀ i, j ≤ i → i < j + k → f i = g i) → bst f k j b = bst g k j b := by
  intro k
  induction k with
  | zero => intro j b _; rfl
  | succ k ih =>
    intro j b hi
    unfold bst
    rw [hi j (Nat.le_refl j) (by omega), ih (j + 1) _ (fun i h1 h2 => hi i (by omega) (by omega))]
theorem bst_add (f : Nat → Bool) : ∀ k l j b, bst f (k + l) j b = bst f l (j + k) (bst f k j b) := by
  intro k
  induction k with
  | zero => intro l j b; rw [Nat.zero_add]; rfl
  | succ k ih =>
    intro l j b
    rw [show k + 1 + l = (k + l) + 1 by omega]
    show bst f (k + l) (j + 1) _ = bst f l (j + (k + 1)) (bst f k (j + 1) _)
    rw [ih, show j + 1 + k = j + (k + 1) by omega]
theorem bst_no {f : Nat → Bool} : ∀ k j b, (∀ i, j ≤ i → i < j + k → f i = false) → bst f k j b = b := by
  intro k
  induction k with
  | zero => intro j b _; rfl
  | succ k ih =>
    intro j b hi
    unfold bst
    rw [hi j (Nat.le_refl j) (by omega), ih (j + 1) _ (fun i h1 h2 => hi i (by omega) (by omega)), Bool.and_false]
    rfl
theorem bst_lt {f : Nat → Bool} {b : Option Nat} {j : Nat} (hb : ∀ v, b = some v → v < 128) (hj : j < 128) : ∀ v, (if (b.elim true (fun v => decide (pop 7 j < pop 7 v)) && f j) = true then some j else b) = some v → v < 128 := by
  intro v hv
  split at hv
  · cases hv; exact hj
  · exact hb v hv
theorem bst_lt' {f : Nat → Bool} : ∀ k j b, (∀ v, b = some v → v < 128) → j + k ≤ 128 → ∀ v, bst f k j b = some v → v < 128 := by
  intro k
  induction k with
  | zero => intro j b hb _ v hv; exact hb v hv
  | succ k ih =>
    intro j b hb hj v hv
    exact ih (j + 1) _ (bst_lt hb (by omega)) (by omega) v hv
section SETS
variable {P : PH} {sw : Bool} {g : SG} {d : SD} {hist : List (Nat × Nat × Nat)} {m sn tl : Nat}
theorem or_lt7 {a b : Nat} (ha : a < 2 ^ 7) (hb : b < 2 ^ 7) : a ||| b < 2 ^ 7 := Nat.or_lt_two_pow ha hb
theorem c_need_L {h : Nat} {e : En} (V : VE e) (C : CE0 P h e) (K : Int32 → Option Int32) {p a : Nat} (hp : p < e_np e) (ha : a < 2 ^ 7) : ∀ k j n b, j + k = 2 ^ e_nr e → k < n → (∀ v, b = some v → v < 128) → f_X3_fewestRights_L12 K P h (nI p) (nI a) n (bedI b) (nI j) = K (bedI (bst (fun s => !lck e p (a ||| s)) k j b)) := by
  have hnr := V.2.1
  have h7 : 2 ^ e_nr e ≤ 2 ^ 7 := pow_b hnr
  intro k
  induction k with
  | zero =>
    intro j n b hj hn hb
    obtain ⟨n, rfl⟩ := pre_n hn
    unfold f_X3_fewestRights_L12 bst
    rw [C.2.1, mb_sh (by omega), if_pos (nI_le (by omega) (by omega))]
  | succ k ih =>
    intro j n b hj hn hb
    obtain ⟨n, rfl⟩ := pre_n hn
    unfold f_X3_fewestRights_L12 bst
    rw [C.2.1, mb_sh (by omega), if_neg (nI_ge (by omega) (by omega)), fa_or, c_lacks V C hp (or_lt7 ha (by omega)), nI_1]
    have hj7 : j < 128 := by omega
    cases b with
    | none =>
      rw [if_pos (show bedI none = -9 from rfl), if_neg (show ¬ (1 : Int32) = 0 by decide), Option.bind_some, if_b2i]
      show _ = K (bedI (bst _ k (j + 1) (if (true && !lck e p (a ||| j)) = true then some j else none)))
      cases lck e p (a ||| j)
      · rw [if_neg (show ¬ false = true by decide), if_pos (show (true && !false) = true from rfl)]
        exact ih (j + 1) n (some j) (by omega) (by omega) (fun v hv => by cases hv; exact hj7)
      · rw [if_pos (show true = true from rfl), if_neg (show ¬ (true && !true) = true by decide)]
        exact ih (j + 1) n none (by omega) (by omega) (fun v hv => by cases hv)
    | some v =>
      have hv := hb v rfl
      rw [if_neg (bed_s (by omega)), bitCount_eq P hj7, Option.bind_some, show bedI (some v) = nI v from rfl, bitCount_eq P hv, Option.bind_some]
      show _ = K (bedI (bst _ k (j + 1) (if (decide (pop 7 j < pop 7 v) && !lck e p (a ||| j)) = true then some j else some v)))
      have p1 := pop_le 7 j
      have p2 := pop_le 7 v
      by_cases hc : pop 7 j < pop 7 v
      · rw [if_neg (nI_ge hc (by omega)), if_neg (show ¬ (1 : Int32) = 0 by decide), Option.bind_some, if_b2i, decide_eq_true hc]
        cases lck e p (a ||| j)
        · rw [if_neg (show ¬ false = true by decide), if_pos (show (true && !false) = true from rfl)]
          exact ih (j + 1) n (some j) (by omega) (by omega) (fun v hv => by cases hv; exact hj7)
        · rw [if_pos (show true = true from rfl), if_neg (show ¬ (true && !true) = true by decide)]
          exact ih (j + 1) n (some v) (by omega) (by omega) hb
      · rw [if_pos (nI_le (by omega) (by omega)), if_pos (show (0 : Int32) = 0 from rfl), decide_eq_false hc, Bool.false_and, if_neg (show ¬ false = true by decide)]
        exact ih (j + 1) n (some v) (by omega) (by omega) hb
theorem m_need_L {e : En} (V : VE e) (M : ME P e) (K : Int32 → Option (Int32 × PH)) {p a : Nat} (hp : p < e_np e) (ha : a < 2 ^ e_nr e) (hal : (e_al e).testBit p = true) (hbd : ∀ b, e_bed e p = some b → a.testBit b = true) : ∀ k j n b, j + k = 2 ^ e_nr e → k < n → (∀ v, b = some v → v < 128) → f_X10_needs_L30 K P 47 (nI p) (nI a) n (bedI b) (nI j) = K (bedI (bst (fun s => !lck e p (a ||| s)) k j b)) := by
  have hnr := V.2.1
  have h7 : 2 ^ e_nr e ≤ 2 ^ 7 := pow_b hnr
  intro k
  induction k with
  | zero =>
    intro j n b hj hn hb
    obtain ⟨n, rfl⟩ := pre_n hn
    unfold f_X10_needs_L30 bst
    rw [M.2.2.1, mb_sh (by omega), if_pos (nI_le (by omega) (by omega))]
  | succ k ih =>
    intro j n b hj hn hb
    obtain ⟨n, rfl⟩ := pre_n hn
    unfold f_X10_needs_L30 bst
    rw [M.2.2.1, mb_sh (by omega), if_neg (nI_ge (by omega) (by omega)), fa_or, m_isCutOffBy M V hp (Nat.or_lt_two_pow ha (by omega)) (fun _ b hb => by rw [Nat.testBit_or, hbd b hb]; rfl), hal, Bool.true_and, Option.bind_some, if_b2i, nI_1]
    have hj7 : j < 128 := by omega
    cases hl : lck e p (a ||| j)
    · rw [if_neg (show ¬ false = true by decide)]
      cases b with
      | none =>
        rw [if_pos (show bedI none < 0 by decide), if_neg (show ¬ (1 : Int32) = 0 by decide)]
        show _ = K (bedI (bst _ k (j + 1) (if (true && !false) = true then some j else none)))
        rw [if_pos (show (true && !false) = true from rfl)]
        exact ih (j + 1) n (some j) (by omega) (by omega) (fun v hv => by cases hv; exact hj7)
      | some v =>
        have hv := hb v rfl
        rw [show bedI (some v) = nI v from rfl, if_neg (nI_pos (by omega)), bits_eq P hj7, Option.bind_some, bits_eq P hv, Option.bind_some]
        show _ = K (bedI (bst _ k (j + 1) (if (decide (pop 7 j < pop 7 v) && !false) = true then some j else some v)))
        have p1 := pop_le 7 j
        have p2 := pop_le 7 v
        by_cases hc : pop 7 j < pop 7 v
        · rw [if_neg (nI_ge hc (by omega)), if_neg (show ¬ (1 : Int32) = 0 by decide), decide_eq_true hc, if_pos (show (true && !false) = true from rfl)]
          exact ih (j + 1) n (some j) (by omega) (by omega) (fun v hv => by cases hv; exact hj7)
        · rw [if_pos (nI_le (by omega) (by omega)), if_pos (show (0 : Int32) = 0 from rfl), decide_eq_false hc, Bool.false_and, if_neg (show ¬ false = true by decide)]
          exact ih (j + 1) n (some v) (by omega) (by omega) hb
    · rw [if_pos (show true = true from rfl), if_pos (show (0 : Int32) = 0 from rfl)]
      show _ = K (bedI (bst _ k (j + 1) (if (b.elim true (fun v => decide (pop 7 j < pop 7 v)) && !true) = true then some j else b)))
      rw [Bool.not_true, Bool.and_false, if_neg (show ¬ false = true by decide)]
      exact ih (j + 1) n b (by omega) (by omega) hb
theorem mayS_bed {e : En} (V : VE e) {p : Nat} (hp : p < e_np e) (ha : (e_al e).testBit p = true) : ∀ b, e_bed e p = some b → (mayS e p).testBit b = true := fun b hb => by
  unfold mayS
  rw [bs_bit, may_bed ha hb, decide_eq_true (V.2.2.2.2.2.2.1 p hp b hb)]
  rfl
theorem q_needs (h : SRx P sw g d hist m sn tl) (x : Int32) : QOK P sw (f_X9_needs P 0 x) (f_X10_needs P 47 x) := by
  have hnp := h.np
  have hnr := h.nr
  unfold f_X9_needs f_X10_needs
  refine q_wrap h x (fun p hp hx ha => ?_)
  subst hx
  have V := h.ve
  have h7 : 2 ^ e_nr (ENV g d) ≤ 2 ^ 7 := pow_b hnr
  obtain ⟨P1, b1, b2⟩ := m_mayIn h.me V hp
  have hM := m_need_L V (b2.me h.me) (fun v7 => some (v7, P1)) hp (mayS_lt (ENV g d) p) ha (mayS_bed V hp ha) (2 ^ e_nr (ENV g d)) 0 1000 none (by omega) (by omega) (fun v hv => by cases hv)
  have hC := c_need_L V h.ce (fun v => some v) hp (mayS7 V p) (2 ^ e_nr (ENV g d)) 0 1000 none (by omega) (by omega) (fun v hv => by cases hv)
  rw [bind_id, asI_eq h.mr, Option.bind_some, b1, Option.bind_some]
  unfold f_X3_fewestRights
  rw [h.house, c_mayNow V h.ce h.cok h.al hp, Option.bind_some]
  exact ⟨_, P1, hC, hM, (asI_ag sw P).tr (b2.ag sw)⟩
/-! dinner -/
def dst (e : En) (w b : Nat) : Nat → Nat → Nat → Option Nat
  | 0, _, _ => none
  | k + 1, s, R => if R.testBit b = true then some s else dst e w b k (s + 1) (gr e w R)
theorem dst_no {e : En} {w b : Nat} : ∀ k s R, dst e w b k s R = none → ∀ i, i < k → (gri e w i R).testBit b = false := by
  intro k
  induction k with
  | zero => intro s R _ i hi; omega
  | succ k ih =>
    intro s R hd i hi
    unfold dst at hd
    by_cases hb : R.testBit b = true
    · rw [if_pos hb] at hd
      cases hd
    · rw [if_neg hb] at hd
      cases i with
      | zero => exact (by simpa using hb : R.testBit b = false)
      | succ i => exact ih _ _ hd i (by omega)
theorem dst_snoc {e : En} {w b : Nat} : ∀ k s R, dst e w b (k + 1) s R = (dst e w b k s R).elim (if (gri e w k R).testBit b = true then some (s + k) else none) some := by
  intro k
  induction k with
  | zero => intro s R; rfl
  | succ k ih =>
    intro s R
    show (if R.testBit b = true then some s else dst e w b (k + 1) (s + 1) (gr e w R)) = Option.elim (if R.testBit b = true then some s else dst e w b k (s + 1) (gr e w R)) _ _
    by_cases hb : R.testBit b = true
    · rw [if_pos hb, if_pos hb]
      rfl
    · rw [if_neg hb, if_neg hb, ih, show s + 1 + k = s + (k + 1) by omega]
      rfl
theorem dst_last {e : En} {w b R : Nat} (hw : w < 2 ^ e_nr e) (hR : R < 2 ^ e_nr e) (hn : 0 < e_nr e) : dst e w b (e_nr e + 1) 0 R = dst e w b (e_nr e) 0 R := by
  rw [dst_snoc]
  cases hd : dst e w b (e_nr e) 0 R with
  | some v => rfl
  | none =>
    have h1 := dst_no _ _ _ hd (e_nr e - 1) (by omega)
    rw [← gri_last hw hR hn] at h1
    show (if _ then _ else _) = _
    rw [if_neg (by rw [h1]; decide)]
theorem c_dist_L {h : Nat} {e : En} (V : VE e) (C : CE0 P h e) (K0 : Int32 → Option Int32) (K1 : Option Int32) {b w : Nat} (hb : b < e_nr e) (hw : w < 2 ^ 7) : ∀ k s n R, R < 2 ^ 7 → s + k = e_nr e → k < n → f_X3_doorsBetween_L39 K0 K1 P h (nI b) (nI w) n (nI R) (nI s) = (dst e w b k s R).elim K1 (fun v => K0 (nI v)) := by
  have hnr := V.2.1
  intro k
  induction k with
  | zero =>
    intro s n R hR hs hn
    obtain ⟨n, rfl⟩ := pre_n hn
    unfold f_X3_doorsBetween_L39 dst
    rw [C.2.1, if_pos (nI_le (by omega) (by omega))]
    rfl
  | succ k ih =>
    intro s n R hR hs hn
    obtain ⟨n, rfl⟩ := pre_n hn
    unfold f_X3_doorsBetween_L39 dst
    rw [C.2.1, if_neg (nI_ge (by omega) (by omega))]
    by_cases hc : R.testBit b = true
    · rw [if_pos ((mb_t (by omega) (by omega)).mpr hc), if_pos hc]
      rfl
    · rw [if_neg (fun q => hc ((mb_t (by omega) (by omega)).mp q)), if_neg hc, c_bdo V C (by omega), Option.bind_some, fa_and, fa_or, nI_1]
      exact ih (s + 1) n (gr e w R) (gr_lt hR hw) (by omega) (by omega)
theorem m_door_L {e : En} (M : ME P e) (V : VE e) (K : Int32 → Option (Int32 × PH)) {w R : Nat} (hR : R < 2 ^ 7) (x2 x5 : Int32) : ∀ k j n acc, j + k = e_nr e → k < n → f_X10_dinner_L100 K P 47 x2 (nI w) (nI R) x5 n (nI acc) (nI j) = K (nI (acc ||| (nb (e_door e) R k j &&& w))) := by
  have hnr := V.2.1
  intro k
  induction k with
  | zero =>
    intro j n acc hj hn
    obtain ⟨n, rfl⟩ := pre_n hn
    unfold f_X10_dinner_L100 nb
    rw [M.2.2.1, if_pos (nI_le (by omega) (by omega)), Nat.zero_and, Nat.or_zero]
  | succ k ih =>
    intro j n acc hj hn
    obtain ⟨n, rfl⟩ := pre_n hn
    unfold f_X10_dinner_L100 nb
    rw [M.2.2.1, if_neg (nI_ge (by omega) (by omega)), m_has (by omega) (by omega), Option.bind_some, if_b2i, mr_door M.1, nI_1, Nat.and_or_distrib_right, ← Nat.or_assoc]
    by_cases hb : R.testBit j = true
    · rw [if_pos hb, gd (by omega) (by decide), nI_clamp (by omega), M.2.2.2.2.2.1 j (by omega), fa_and, fa_or, if_pos hb, ih _ _ _ (by omega) (by omega)]
    · rw [if_neg hb, or_0, if_neg hb, Nat.zero_and, Nat.or_zero, ih _ _ _ (by omega) (by omega)]
theorem m_dist_L {e : En} (M : ME P e) (V : VE e) (K0 : Int32 → Option (Int32 × PH)) (K1 : Option (Int32 × PH)) {b w : Nat} (hb : b < e_nr e) (hw : w < 2 ^ 7) : ∀ k s n R, R < 2 ^ 7 → s + k = e_nr e + 1 → k < n → f_X10_dinner_L72 K0 K1 P 47 (nI b) (nI w) n (nI R) (nI s) = (dst e w b k s R).elim K1 (fun v => K0 (nI v)) := by
  have hnr := V.2.1
  intro k
  induction k with
  | zero =>
    intro s n R hR hs hn
    obtain ⟨n, rfl⟩ := pre_n hn
    unfold f_X10_dinner_L72 dst
    rw [M.2.2.1, if_pos ((nI_ltI (by omega) (by omega)).mpr (by omega))]
    rfl
  | succ k ih =>
    intro s n R hR hs hn
    obtain ⟨n, rfl⟩ := pre_n hn
    unfold f_X10_dinner_L72 dst
    rw [M.2.2.1, if_neg (fun q => by have := (nI_ltI (by omega) (by omega)).mp q; omega), m_has (by omega) (by omega), Option.bind_some, if_b2i]
    by_cases hc : R.testBit b = true
    · rw [if_pos hc, if_pos hc]
      rfl
    · rw [if_neg hc, if_neg hc, show (0 : Int32) = nI 0 from rfl, m_door_L M V _ hR _ _ (e_nr e) 0 1000 R (by omega) (by omega), nI_1]
      exact ih (s + 1) n (gr e w R) (gr_lt hR hw) (by omega) (by omega)
theorem c_open_L {h : Nat} {e : En} (V : VE e) (C : CE0 P h e) (O : COK P h (P.1 (P.2.2 h 5) 0) 0 e) (ha : P.1 (P.2.2 h 5) 1 = nI (e_al e)) (K : Int32 → Option Int32) (x1 x2 : Int32) : ∀ k j n acc, acc < 2 ^ e_nr e → j + k = e_np e → k < n → ∃ w, f_X3_doorsBetween_L5 K P h x1 x2 n (nI acc) (nI j) = K (nI w) ∧ w < 2 ^ e_nr e ∧ ∀ r, r < e_nr e → (w.testBit r = true ↔ acc.testBit r = true ∨ ∃ p, j ≤ p ∧ p < e_np e ∧ may e p r = true) := by
  have hnp := V.1
  intro k
  induction k with
  | zero =>
    intro j n acc hacc hj hn
    obtain ⟨n, rfl⟩ := pre_n hn
    unfold f_X3_doorsBetween_L5
    rw [C.1, if_pos (nI_le (by omega) (by omega))]
    refine ⟨acc, rfl, hacc, fun r hr => ⟨Or.inl, ?_⟩⟩
    rintro (h1 | ⟨p, h1, h2, -⟩)
    · exact h1
    · omega
  | succ k ih =>
    intro j n acc hacc hj hn
    obtain ⟨n, rfl⟩ := pre_n hn
    unfold f_X3_doorsBetween_L5
    rw [C.1, if_neg (nI_ge (by omega) (by omega)), c_mayNow V C O ha (by omega), Option.bind_some, fa_or, nI_1]
    obtain ⟨w, h1, h2, h3⟩ := ih (j + 1) n (acc ||| mayS e j) (Nat.or_lt_two_pow hacc (mayS_lt e j)) (by omega) (by omega)
    refine ⟨w, h1, h2, fun r hr => ?_⟩
    rw [h3 r hr, Nat.testBit_or, Bool.or_eq_true]
    have hb : (mayS e j).testBit r = may e j r := by
      unfold mayS
      rw [bs_bit, decide_eq_true hr]
      rfl
    rw [hb]
    constructor
    · rintro ((h4 | h4) | ⟨p, h4, h5, h6⟩)
      · exact Or.inl h4
      · exact Or.inr ⟨j, Nat.le_refl j, by omega, h4⟩
      · exact Or.inr ⟨p, by omega, h5, h6⟩
    · rintro (h4 | ⟨p, h4, h5, h6⟩)
      · exact Or.inl (Or.inl h4)
      · by_cases hpj : p = j
        · subst hpj
          exact Or.inl (Or.inr h6)
        · exact Or.inr ⟨p, by omega, h5, h6⟩
def opn (e : En) : Nat := bs (e_nr e) (fun r => !(who e r == 0))
theorem who_0 (e : En) (r : Nat) : (!(who e r == 0)) = true ↔ ∃ p, p < e_np e ∧ may e p r = true := by
  rw [Bool.not_eq_true', beq_eq_false_iff_ne]
  constructor
  · intro h
    apply Classical.byContradiction
    intro hn
    apply h
    apply Nat.eq_of_testBit_eq
    intro i
    unfold who
    rw [bs_bit, Nat.zero_testBit]
    by_cases hi : i < e_np e
    · cases hm : may e i r
      · simp
      · exact absurd ⟨i, hi, hm⟩ hn
    · rw [decide_eq_false hi]; rfl
  · rintro ⟨p, h1, h2⟩ h3
    have h4 : (who e r).testBit p = true := by
      unfold who
      rw [bs_bit, decide_eq_true h1, h2]
      rfl
    rw [h3, Nat.zero_testBit] at h4
    cases h4
theorem c_open {h : Nat} {e : En} (V : VE e) (C : CE0 P h e) (O : COK P h (P.1 (P.2.2 h 5) 0) 0 e) (ha : P.1 (P.2.2 h 5) 1 = nI (e_al e)) (K : Int32 → Option Int32) (x1 x2 : Int32) : f_X3_doorsBetween_L5 K P h x1 x2 1000 (0 : Int32) (0 : Int32) = K (nI (opn e)) := by
  have hnp := V.1
  obtain ⟨w, h1, h2, h3⟩ := c_open_L V C O ha K x1 x2 (e_np e) 0 1000 0 (Nat.two_pow_pos _) (by omega) (by omega)
  have e1 : w = opn e := eq_bs h2 (fun r hr => by
    apply Bool.eq_iff_iff.mpr
    rw [h3 r hr, who_0]
    constructor
    · rintro (h4 | ⟨p, -, h5, h6⟩)
      · rw [Nat.zero_testBit] at h4; cases h4
      · exact ⟨p, h5, h6⟩
    · rintro ⟨p, h5, h6⟩
      exact Or.inr ⟨p, Nat.zero_le p, h5, h6⟩)
  rw [← e1]
  exact h1
theorem m_open_L {e : En} (V : VE e) (K : PH → Int32 → Option (Int32 × PH)) (x1 x2 : Int32) : ∀ k j n acc (R : PH), ME R e → j + k = e_nr e → k < n → ∃ R', f_X10_dinner_L27 K 47 x1 x2 n R (nI acc) (nI j) = K R' (nI (acc ||| br (fun r => !(who e r == 0)) k j)) ∧ Eqc R R' := by
  have hnr := V.2.1
  have hnp := V.1
  intro k
  induction k with
  | zero =>
    intro j n acc R M hj hn
    obtain ⟨n, rfl⟩ := pre_n hn
    unfold f_X10_dinner_L27 br
    rw [M.2.2.1, if_pos (nI_le (by omega) (by omega)), Nat.or_zero]
    exact ⟨R, rfl, Eqc.rf R⟩
  | succ k ih =>
    intro j n acc R M hj hn
    obtain ⟨n, rfl⟩ := pre_n hn
    obtain ⟨R1, b1, b2⟩ := m_whoMay M V (show j < e_nr e by omega)
    have M1 := b2.me M
    unfold f_X10_dinner_L27
    rw [M.2.2.1, if_neg (nI_ge (by omega) (by omega)), b1, Option.bind_some, ← br_or, nI_1, mb_sh (by omega), fa_or, or_0]
    show ∃ R', (if nI (who e j) = 0 then _ else _) = _ ∧ _
    have hw : who e j < 2 ^ 31 := Nat.lt_of_lt_of_le (bs_lt _ _) (pow_b (by omega))
    by_cases hz : who e j = 0
    · rw [if_pos (by rw [hz]; rfl), if_neg (by rw [hz]; decide)]
      obtain ⟨R', c1, c2⟩ := ih (j + 1) n acc R1 M1 (by omega) (by omega)
      exact ⟨R', c1, b2.tr c2⟩
    · rw [if_neg (fun q : nI _ = 0 => hz ((nI_eq (b := 0) hw (by decide)).mp q)), if_pos (by simpa using hz)]
      obtain ⟨R', c1, c2⟩ := ih (j + 1) n (acc ||| 2 ^ j) R1 M1 (by omega) (by omega)
      exact ⟨R', c1, b2.tr c2⟩
theorem q_dinner (h : SRx P sw g d hist m sn tl) (x y : Int32) : QOK P sw (f_X9_dinner P 0 x y) (f_X10_dinner P 47 x y) := by
  have hnp := h.np
  have hnr := h.nr
  unfold f_X9_dinner f_X10_dinner
  rw [h.cR, h.mR, Option.bind_some, Option.bind_some, if_b2i, if_b2i, h.cR, h.mR, Option.bind_some, Option.bind_some, if_b2i, if_b2i]
  by_cases hx : ¬ x < 0 ∧ x < nI (g_nr g)
  · rw [if_pos (decide_eq_true hx), if_pos (decide_eq_true hx)]
    by_cases hy : ¬ y < 0 ∧ y < nI (g_nr g)
    · rw [if_pos (decide_eq_true hy), if_pos (decide_eq_true hy)]
      obtain ⟨a, ha, rfl⟩ := isP_c (by omega) hx
      obtain ⟨b, hb, rfl⟩ := isP_c (by omega) hy
      have V := h.ve
      have h7 : 2 ^ g_nr g ≤ 2 ^ 7 := pow_b hnr
      have ho : opn (ENV g d) < 2 ^ e_nr (ENV g d) := bs_lt _ _
      have ho7 : opn (ENV g d) < 2 ^ 7 := Nat.lt_of_lt_of_le ho h7
      have hR : 2 ^ a &&& opn (ENV g d) < 2 ^ e_nr (ENV g d) := Nat.and_lt_two_pow _ ho
      have hR7 : 2 ^ a &&& opn (ENV g d) < 2 ^ 7 := Nat.lt_of_lt_of_le hR h7
      obtain ⟨R', b1, b2⟩ := m_open_L V (fun P10 v9 => f_X10_dinner_L72 (fun v11 => some (v11, P10)) (some ((-9 : Int32), P10)) P10 47 (nI b) v9 1000 (v9 &&& ((1 : Int32) <<< (nI a &&& 31))) (0 : Int32)) (nI a) (nI b) (e_nr (ENV g d)) 0 1000 0 (asI P) h.me (by omega) (by show g_nr g < 1000; omega)
      rw [Nat.zero_or] at b1
      have hC := c_open V h.ce h.cok h.al (fun v3 => f_X3_doorsBetween_L39 (fun v4 => some v4) (some (-9 : Int32)) P (hs sw) (nI b) v3 1000 (((1 : Int32) <<< (nI a &&& 31)) &&& v3) (0 : Int32)) (nI a) (nI b)
      rw [bind_id, asI_eq h.mr, Option.bind_some]
      unfold f_X3_doorsBetween
      rw [h.house, hC]
      have hd := dst_last (b := b) ho hR (show 0 < g_nr g by omega)
      refine ⟨bedI (dst (ENV g d) (opn (ENV g d)) b (e_nr (ENV g d)) 0 (2 ^ a &&& opn (ENV g d))), R', ?_, ?_, (asI_ag sw P).tr (b2.ag sw)⟩
      · show f_X3_doorsBetween_L39 (fun v4 => some v4) (some (-9 : Int32)) P (hs sw) (nI b) (nI (opn (ENV g d))) 1000 (((1 : Int32) <<< (nI a &&& 31)) &&& nI (opn (ENV g d))) (nI 0) = _
        rw [mb_sh (by omega), fa_and, c_dist_L V h.ce _ _ hb ho7 (e_nr (ENV g d)) 0 1000 _ hR7 (by omega) (by show g_nr g < 1000; omega)]
        cases dst (ENV g d) (opn (ENV g d)) b (e_nr (ENV g d)) 0 (2 ^ a &&& opn (ENV g d)) <;> rfl
      · refine b1.trans ?_
        show f_X10_dinner_L72 (fun v11 => some (v11, R')) (some ((-9 : Int32), R')) R' 47 (nI b) (nI (opn (ENV g d))) 1000 (nI (opn (ENV g d)) &&& ((1 : Int32) <<< (nI a &&& 31))) (nI 0) = _
        rw [mb_sh (by omega), fa_and, Nat.and_comm (opn (ENV g d)), m_dist_L (b2.me h.me) V _ _ hb ho7 (e_nr (ENV g d) + 1) 0 1000 _ hR7 (by omega) (by show g_nr g + 1 < 1000; omega), hd]
        cases dst (ENV g d) (opn (ENV g d)) b (e_nr (ENV g d)) 0 (2 ^ a &&& opn (ENV g d)) <;> rfl
    · rw [if_neg (by rw [decide_eq_false hy]; decide), if_neg (by rw [decide_eq_false hy]; decide)]
      exact ⟨_, _, rfl, rfl, Ag.rf sw P⟩
  · rw [if_neg (by rw [decide_eq_false hx]; decide), if_neg (by rw [decide_eq_false hx]; decide)]
    exact ⟨_, _, rfl, rfl, Ag.rf sw P⟩
end SETS
