/-! the house as numbers: people, rooms, bed, wants, doors, heirs, left, alive, rights: how many, whose, where, whether it holds -/
def En : Type := Nat × Nat × (Nat → Option Nat) × (Nat → Nat) × (Nat → Nat) × (Nat → Nat) × (Nat → Nat) × Nat × Nat × (Nat → Nat) × (Nat → Nat) × (Nat → Bool)
def e_np (e : En) : Nat := e.1
def e_nr (e : En) : Nat := e.2.1
def e_bed (e : En) : Nat → Option Nat := e.2.2.1
def e_want (e : En) : Nat → Nat := e.2.2.2.1
def e_door (e : En) : Nat → Nat := e.2.2.2.2.1
def e_heir (e : En) : Nat → Nat := e.2.2.2.2.2.1
def e_left (e : En) : Nat → Nat := e.2.2.2.2.2.2.1
def e_al (e : En) : Nat := e.2.2.2.2.2.2.2.1
def e_k (e : En) : Nat := e.2.2.2.2.2.2.2.2.1
def e_ho (e : En) : Nat → Nat := e.2.2.2.2.2.2.2.2.2.1
def e_pl (e : En) : Nat → Nat := e.2.2.2.2.2.2.2.2.2.2.1
def e_ok (e : En) : Nat → Bool := e.2.2.2.2.2.2.2.2.2.2.2
def VE (e : En) : Prop := e_np e ≤ 6 ∧ e_nr e ≤ 7 ∧ e_al e < 2 ^ e_np e ∧ e_k e ≤ 10 ∧ (∀ p, p < e_np e → e_heir e p < 10) ∧ (∀ r, r < e_nr e → e_left e r < 10) ∧ (∀ p, p < e_np e → ∀ b, e_bed e p = some b → b < e_nr e) ∧ (∀ p, p < e_np e → e_want e p < 2 ^ e_nr e) ∧ (∀ r, r < e_nr e → e_door e r < 2 ^ e_nr e) ∧ (∀ i, i < e_k e → e_ho e i < e_np e ∧ e_pl e i < e_nr e)
theorem pow_b {n m : Nat} (h : n ≤ m) : 2 ^ n ≤ 2 ^ m := Nat.pow_le_pow_right (by decide) h
theorem VE.al {e : En} (V : VE e) : e_al e < 2 ^ 31 := Nat.lt_of_lt_of_le V.2.2.1 (pow_b (by have := V.1; omega))
theorem lt31 {a n : Nat} (h : a < 2 ^ n) (hn : n ≤ 7) : a < 2 ^ 31 := Nat.lt_of_lt_of_le h (pow_b (by omega))
theorem gd {α : Type} {A : Option α} {c N : Nat} (h : c < N) (hN : N < 2 ^ 31) : (if (nI c < 0 ∨ N ≤ (nI c).toNatClampNeg) then none else A) = A := if_neg (nI_in h hN)
theorem gd2 {α : Type} {A : Option α} {c N : Nat} (h : c < N) (hN : N < 2 ^ 31) : (if (nI c < 0 ∨ N ≤ c) then none else A) = A := if_neg (fun q => q.elim (nI_pos (by omega)) (fun q => by omega))
theorem pre_n {n m : Nat} (h : m < n) : ∃ n', n = n' + 1 := ⟨n - 1, by omega⟩
def own1 (e : En) : Nat → Nat → Nat → Option (Nat × Nat)
  | 0, _, _ => none
  | n + 1, w, s => if w < e_np e then (if (e_al e).testBit w then some (w, s) else own1 e n (e_heir e w) (s + 1)) else none
def own (e : En) (r : Nat) : Option (Nat × Nat) := own1 e (e_np e) (e_left e r) 0
def optI (o : Option (Nat × Nat)) : Int32 := o.elim (-9) (fun q => nI q.1)
def optS (o : Option (Nat × Nat)) : Int32 := o.elim (-9) (fun q => nI q.2)
def bedI (o : Option Nat) : Int32 := o.elim (-9) nI
theorem bed_s {b : Nat} (hb : b < 2 ^ 31) : ¬ bedI (some b) = -9 := fun q => by
  have h2 := congrArg Int32.toInt (show nI b = -9 from q)
  rw [nI_toInt hb] at h2
  have : (-9 : Int32).toInt = -9 := rfl
  omega
def anyN (f : Nat → Bool) : Nat → Bool
  | 0 => false
  | n + 1 => anyN f n || f n
theorem anyN_iff (f : Nat → Bool) : ∀ n, anyN f n = true ↔ ∃ i, i < n ∧ f i = true
  | 0 => by simp [anyN]
  | n + 1 => by
    unfold anyN
    rw [Bool.or_eq_true, anyN_iff f n]
    constructor
    · rintro (⟨i, h1, h2⟩ | h)
      · exact ⟨i, by omega, h2⟩
      · exact ⟨n, by omega, h⟩
    · rintro ⟨i, h1, h2⟩
      by_cases h : i = n
      · subst h; exact Or.inr h2
      · exact Or.inl ⟨i, by omega, h2⟩
def rgt (e : En) (p r : Nat) : Bool := anyN (fun i => e_ho e i == p && (e_pl e i == r && e_ok e i)) (e_k e)
def may (e : En) (p r : Nat) : Bool := (e_al e).testBit p && (((own e r).map Prod.fst == some p || e_bed e p == some r) || rgt e p r)
def mayS (e : En) (p : Nat) : Nat := bs (e_nr e) (may e p)
def who (e : En) (r : Nat) : Nat := bs (e_np e) (fun p => may e p r)
def nb (door : Nat → Nat) (R : Nat) : Nat → Nat → Nat
  | 0, _ => 0
  | m + 1, j => (if R.testBit j then door j else 0) ||| nb door R m (j + 1)
def nbr (e : En) (R : Nat) : Nat := nb (e_door e) R (e_nr e) 0
def gr (e : En) (m R : Nat) : Nat := R ||| (nbr e R &&& m)
def gri (e : En) (m : Nat) : Nat → Nat → Nat
  | 0, R => R
  | n + 1, R => gri e m n (gr e m R)
def st0 (e : En) (p m : Nat) : Nat := (e_bed e p).elim 0 (fun b => 2 ^ b &&& m)
def rch (e : En) (p m : Nat) : Nat := gri e m (e_nr e) (st0 e p m)
def lck (e : En) (p m : Nat) : Bool := !(nd (e_want e p) (rch e p m) == 0)
def cutB (e : En) (p : Nat) : Bool := (e_al e).testBit p && lck e p (mayS e p)
def cut (e : En) : Nat := bs (e_np e) (cutB e)
/-! the class's house holds them -/
def CE0 (P : PH) (h : Nat) (e : En) : Prop :=
  P.1 h 0 = nI (e_np e) ∧ P.1 h 1 = nI (e_nr e) ∧ (∀ p, p < e_np e → P.1 (P.2.2 h 3) p = bedI (e_bed e p)) ∧ (∀ p, p < e_np e → P.1 (P.2.2 h 4) p = nI (e_want e p)) ∧ (∀ r, r < e_nr e → P.1 (P.2.2 h 2) r = nI (e_door e r)) ∧
  (∀ p, p < e_np e → P.1 (P.2.2 (P.2.2 h 5) 3) p = nI (e_heir e p)) ∧ (∀ r, r < e_nr e → P.1 (P.2.2 (P.2.2 h 5) 4) r = nI (e_left e r)) ∧ P.1 (P.2.2 h 5) 2 = nI (e_k e) ∧ (∀ i, i < e_k e → P.1 (P.2.2 (P.2.2 h 5) 5) i = nI (e_ho e i) ∧ P.1 (P.2.2 (P.2.2 h 5) 6) i = nI (e_pl e i))
def COK (P : PH) (h : Nat) (day : Int32) (sil : Nat) (e : En) : Prop := ∀ i, i < e_k e → (e_ok e i = true ↔ day ≤ P.1 (P.2.2 (P.2.2 h 5) 7) i ∧ sil.testBit (e_pl e i) = false)
section CLS
variable {P : PH} {h : Nat} {e : En}
theorem c_isPerson (V : VE e) (C : CE0 P h e) (x : Int32) : f_X2_isPerson P h x = some (decide (¬ x < 0 ∧ x < nI (e_np e))) := by
  unfold f_X2_isPerson
  rw [C.1]
  by_cases h1 : x < 0
  · rw [if_pos h1, decide_eq_false (fun q => q.1 h1)]
  · rw [if_neg h1]
    by_cases h2 : nI (e_np e) ≤ x
    · rw [if_pos h2, decide_eq_false (fun q => absurd q.2 (Int32.not_lt.mpr h2))]
    · rw [if_neg h2, decide_eq_true ⟨h1, Int32.not_le.mp h2⟩]
theorem c_isRoom (V : VE e) (C : CE0 P h e) (x : Int32) : f_X2_isRoom P h x = some (decide (¬ x < 0 ∧ x < nI (e_nr e))) := by
  unfold f_X2_isRoom
  rw [C.2.1]
  by_cases h1 : x < 0
  · rw [if_pos h1, decide_eq_false (fun q => q.1 h1)]
  · rw [if_neg h1]
    by_cases h2 : nI (e_nr e) ≤ x
    · rw [if_pos h2, decide_eq_false (fun q => absurd q.2 (Int32.not_lt.mpr h2))]
    · rw [if_neg h2, decide_eq_true ⟨h1, Int32.not_le.mp h2⟩]
theorem c_owner_L (V : VE e) (C : CE0 P h e) (K0 : Int32 → Option Int32) (K1 : Option Int32) : ∀ m s w n, s + m = e_np e → m < n → w < 10 → f_X2_owner_L13 K0 K1 P h (nI (e_al e)) n (nI w) (nI s) = (own1 e m w s).elim K1 (fun q => K0 (nI q.1)) := by
  have hnp := V.1
  intro m
  induction m with
  | zero =>
    intro s w n hs hn hw
    obtain ⟨n, rfl⟩ := pre_n hn
    unfold f_X2_owner_L13
    rw [C.1, if_pos (nI_le (by omega) (by omega))]
    rfl
  | succ m ih =>
    intro s w n hs hn hw
    obtain ⟨n, rfl⟩ := pre_n hn
    unfold f_X2_owner_L13 own1
    rw [C.1, if_neg (nI_ge (by omega) (by omega)), if_neg (nI_pos (by omega))]
    by_cases h1 : w < e_np e
    · rw [if_neg (nI_ge h1 (by omega)), if_pos h1]
      by_cases hb : (e_al e).testBit w = true
      · rw [if_pos ((mb_t V.al (by omega)).mpr hb), if_pos hb]
        rfl
      · rw [if_neg (fun q => hb ((mb_t V.al (by omega)).mp q)), if_neg hb, gd (by omega) (by decide), nI_clamp (by omega), C.2.2.2.2.2.1 w h1, nI_1]
        exact ih (s + 1) (e_heir e w) n (by omega) (by omega) (V.2.2.2.2.1 w h1)
    · rw [if_pos (nI_le (by omega) (by omega)), if_neg h1]
      rfl
theorem c_owner (V : VE e) (C : CE0 P h e) {r : Nat} (hr : r < e_nr e) : f_X2_owner P h (nI r) (nI (e_al e)) = some (optI (own e r)) := by
  have hnr := V.2.1
  have hnp := V.1
  unfold f_X2_owner
  rw [gd (by omega) (by decide), nI_clamp (by omega), C.2.2.2.2.2.2.1 r hr, show (0 : Int32) = nI 0 from rfl, c_owner_L V C _ _ (e_np e) 0 (e_left e r) 1000 (by omega) (by omega) (V.2.2.2.2.2.1 r hr)]
  unfold own optI
  cases own1 e (e_np e) (e_left e r) 0 <;> rfl
theorem c_chain_L (V : VE e) (C : CE0 P h e) (ha : P.1 (P.2.2 h 5) 1 = nI (e_al e)) (K0 : Int32 → Option Int32) (K1 : Option Int32) : ∀ m s w n, s + m = e_np e → m < n → w < 10 → f_X2_chain_L20 K0 K1 P h n (nI w) (nI s) = (own1 e m w s).elim K1 (fun q => K0 (nI q.2)) := by
  have hnp := V.1
  intro m
  induction m with
  | zero =>
    intro s w n hs hn hw
    obtain ⟨n, rfl⟩ := pre_n hn
    unfold f_X2_chain_L20
    rw [C.1, if_pos (nI_le (by omega) (by omega))]
    rfl
  | succ m ih =>
    intro s w n hs hn hw
    obtain ⟨n, rfl⟩ := pre_n hn
    unfold f_X2_chain_L20 own1
    rw [C.1, ha, if_neg (nI_ge (by omega) (by omega)), if_neg (nI_pos (by omega))]
    by_cases h1 : w < e_np e
    · rw [if_neg (nI_ge h1 (by omega)), if_pos h1]
      by_cases hb : (e_al e).testBit w = true
      · rw [if_pos ((mb_t V.al (by omega)).mpr hb), if_pos hb]
        rfl
      · rw [if_neg (fun q => hb ((mb_t V.al (by omega)).mp q)), if_neg hb, gd (by omega) (by decide), nI_clamp (by omega), C.2.2.2.2.2.1 w h1, nI_1]
        exact ih (s + 1) (e_heir e w) n (by omega) (by omega) (V.2.2.2.2.1 w h1)
    · rw [if_pos (nI_le (by omega) (by omega)), if_neg h1]
      rfl
theorem c_chain (V : VE e) (C : CE0 P h e) (ha : P.1 (P.2.2 h 5) 1 = nI (e_al e)) {r : Nat} (hr : r < e_nr e) : f_X2_chain P h (nI r) = some (if e_left e r = 9 then 0 else optS (own e r)) := by
  have hnr := V.2.1
  have hnp := V.1
  have hl := V.2.2.2.2.2.1 r hr
  unfold f_X2_chain
  rw [gd (by omega) (by decide), nI_clamp (by omega), C.2.2.2.2.2.2.1 r hr]
  by_cases h9 : e_left e r = 9
  · rw [if_pos (by rw [h9]; rfl), if_pos h9]
  · rw [if_neg (fun q : nI (e_left e r) = 9 => h9 ((nI_eq (b := 9) (by omega) (by omega)).mp q)), if_neg h9, show (0 : Int32) = nI 0 from rfl, c_chain_L V C ha _ _ (e_np e) 0 (e_left e r) 1000 (by omega) (by omega) hl]
    unfold own optS
    cases own1 e (e_np e) (e_left e r) 0 <;> rfl
theorem own1_fst (e : En) : ∀ m w s q, own1 e m w s = some q → q.1 < e_np e ∧ (e_al e).testBit q.1 = true := by
  intro m
  induction m with
  | zero => intro w s q hq; cases hq
  | succ m ih =>
    intro w s q hq
    unfold own1 at hq
    by_cases h1 : w < e_np e
    · rw [if_pos h1] at hq
      by_cases hb : (e_al e).testBit w = true
      · rw [if_pos hb] at hq
        cases hq
        exact ⟨h1, hb⟩
      · rw [if_neg hb] at hq
        exact ih _ _ _ hq
    · rw [if_neg h1] at hq
      cases hq
theorem optI_eq {e : En} (V : VE e) {r p : Nat} (hp : p < 10) : optI (own e r) = nI p ↔ ((own e r).map Prod.fst == some p) = true := by
  have hnp := V.1
  unfold optI
  cases ho : own e r with
  | none =>
    simp
    intro h
    have h2 := congrArg Int32.toInt h
    rw [nI_toInt (by omega)] at h2
    have : (-9 : Int32).toInt = -9 := rfl
    omega
  | some q =>
    have h1 := (own1_fst e _ _ _ _ ho).1
    simp
    exact nI_eq (by omega) (by omega)
theorem c_owned_L (V : VE e) (C : CE0 P h e) (K : Int32 → Option Int32) {p : Nat} (hp : p < 10) : ∀ m j n acc, j + m = e_nr e → m < n → f_X2_owned_L5 K P h (nI p) (nI (e_al e)) n (nI acc) (nI j) = K (nI (acc ||| br (fun r => (own e r).map Prod.fst == some p) m j)) := by
  have hnr := V.2.1
  intro m
  induction m with
  | zero =>
    intro j n acc hj hn
    obtain ⟨n, rfl⟩ := pre_n hn
    unfold f_X2_owned_L5 br
    rw [C.2.1, if_pos (nI_le (by omega) (by omega)), Nat.or_zero]
  | succ m ih =>
    intro j n acc hj hn
    obtain ⟨n, rfl⟩ := pre_n hn
    unfold f_X2_owned_L5
    rw [C.2.1, if_neg (nI_ge (by omega) (by omega)), c_owner V C (by omega), ← br_or]
    show (if optI (own e j) = nI p then _ else _) = _
    by_cases hc : ((own e j).map Prod.fst == some p) = true
    · rw [if_pos ((optI_eq V hp).mpr hc), if_pos hc, mb_sh (by omega), fa_or, nI_1, ih _ _ _ (by omega) (by omega)]
    · rw [if_neg (fun q => hc ((optI_eq V hp).mp q)), if_neg hc, nI_1, ih _ _ _ (by omega) (by omega)]
theorem c_owned (V : VE e) (C : CE0 P h e) {p : Nat} (hp : p < 10) : f_X2_owned P h (nI p) (nI (e_al e)) = some (nI (bs (e_nr e) (fun r => (own e r).map Prod.fst == some p))) := by
  have hnr := V.2.1
  unfold f_X2_owned
  have h1 := c_owned_L V C (fun v => some v) hp (e_nr e) 0 1000 0 (by omega) (by omega)
  rw [Nat.zero_or] at h1
  exact h1
def ro (c : Nat → Bool) (pl : Nat → Nat) : Nat → Nat → Nat
  | 0, _ => 0
  | m + 1, j => (if c j then 2 ^ pl j else 0) ||| ro c pl m (j + 1)
theorem ro_bit (c : Nat → Bool) (pl : Nat → Nat) (r : Nat) : ∀ m j, (ro c pl m j).testBit r = true ↔ ∃ i, j ≤ i ∧ i < j + m ∧ c i = true ∧ pl i = r := by
  intro m
  induction m with
  | zero =>
    intro j
    unfold ro
    rw [Nat.zero_testBit]
    constructor
    · intro h; cases h
    · rintro ⟨i, h1, h2, -⟩; omega
  | succ m ih =>
    intro j
    unfold ro
    rw [Nat.testBit_or, Bool.or_eq_true, ih (j + 1)]
    have e1 : (if c j = true then 2 ^ pl j else 0).testBit r = true ↔ c j = true ∧ pl j = r := by
      cases h : c j
      · simp
      · simp only [if_true, Nat.testBit_two_pow, decide_eq_true_eq, true_and]
    rw [e1]
    constructor
    · rintro (⟨h1, h2⟩ | ⟨i, h1, h2, h3⟩)
      · exact ⟨j, Nat.le_refl j, by omega, h1, h2⟩
      · exact ⟨i, by omega, by omega, h3⟩
    · rintro ⟨i, h1, h2, h3, h4⟩
      by_cases hij : i = j
      · subst hij; exact Or.inl ⟨h3, h4⟩
      · exact Or.inr ⟨i, by omega, by omega, h3, h4⟩
theorem c_rbr_L (V : VE e) (C : CE0 P h e) (K : Int32 → Option Int32) {p : Nat} (hp : p < 10) (day : Int32) : ∀ m j n acc, j + m = e_k e → m < n → f_X4_roomsByRight_L5 K P (P.2.2 h 5) (nI p) day n (nI acc) (nI j) = K (nI (acc ||| ro (fun i => e_ho e i == p && decide (day ≤ P.1 (P.2.2 (P.2.2 h 5) 7) i)) (e_pl e) m j)) := by
  have hnr := V.2.1
  have hnp := V.1
  have hk := V.2.2.2.1
  intro m
  induction m with
  | zero =>
    intro j n acc hj hn
    obtain ⟨n, rfl⟩ := pre_n hn
    unfold f_X4_roomsByRight_L5 ro
    rw [C.2.2.2.2.2.2.2.1, if_pos (nI_le (by omega) (by omega)), Nat.or_zero]
  | succ m ih =>
    intro j n acc hj hn
    obtain ⟨n, rfl⟩ := pre_n hn
    have hV := V.2.2.2.2.2.2.2.2.2 j (by omega)
    unfold f_X4_roomsByRight_L5
    rw [C.2.2.2.2.2.2.2.1, if_neg (nI_ge (by omega) (by omega)), gd (by omega) (by decide), gd (by omega) (by decide), gd (by omega) (by decide), nI_clamp (by omega), (C.2.2.2.2.2.2.2.2 j (by omega)).1, (C.2.2.2.2.2.2.2.2 j (by omega)).2]
    show _ = K (nI (acc ||| ((if _ then 2 ^ e_pl e j else 0) ||| ro _ (e_pl e) m (j + 1))))
    by_cases h1 : e_ho e j = p
    · rw [if_pos (by rw [h1])]
      by_cases h2 : day ≤ P.1 (P.2.2 (P.2.2 h 5) 7) j
      · rw [if_neg (Int32.not_lt.mpr h2), mb_sh (by omega), fa_or, Option.bind_some, nI_1, ih _ _ _ (by omega) (by omega), if_pos (by simp [h1, h2]), Nat.or_assoc]
      · rw [if_pos (Int32.not_le.mp h2), nI_1, ih _ _ _ (by omega) (by omega), if_neg (by simp [h2]), Nat.zero_or]
    · rw [if_neg (fun q => h1 ((nI_eq (by omega) (by omega)).mp q)), nI_1, ih _ _ _ (by omega) (by omega), if_neg (by simp [h1]), Nat.zero_or]

theorem c_rbr (V : VE e) (C : CE0 P h e) {p : Nat} (hp : p < 10) (day : Int32) : f_X4_roomsByRight P (P.2.2 h 5) (nI p) day = some (nI (ro (fun i => e_ho e i == p && decide (day ≤ P.1 (P.2.2 (P.2.2 h 5) 7) i)) (e_pl e) (e_k e) 0)) := by
  have hk := V.2.2.2.1
  unfold f_X4_roomsByRight
  have h1 := c_rbr_L V C (fun v => some v) hp day (e_k e) 0 1000 0 (by omega) (by omega)
  rw [Nat.zero_or] at h1
  exact h1
theorem c_may (V : VE e) (C : CE0 P h e) {day : Int32} {sil : Nat} (O : COK P h day sil e) {p : Nat} (hp : p < e_np e) : f_X2_may P h (nI p) (nI (e_al e)) day (nI sil) = some (nI (mayS e p)) := by
  have hnr := V.2.1
  have hnp := V.1
  have key : ∀ s0 : Nat, (∀ r, r < e_nr e → s0.testBit r = (e_bed e p == some r)) → s0 < 2 ^ e_nr e → (e_al e).testBit p = true → f_X2_may_J33 P h (nI p) (nI (e_al e)) day (nI sil) (nI s0) = some (nI (mayS e p)) := by
    intro s0 hs hs2 hb
    unfold f_X2_may_J33
    rw [c_owned V C (by omega), Option.bind_some, c_rbr V C (by omega) day, Option.bind_some, fa_or, mb_not, fa_or]
    congr 2
    refine eq_bs ?_ ?_
    · refine Nat.or_lt_two_pow (Nat.or_lt_two_pow (bs_lt _ _) hs2) (lt_of_bits fun i hi => ?_)
      rw [nd_bit]
      cases hz : (ro (fun i => e_ho e i == p && decide (day ≤ P.1 (P.2.2 (P.2.2 h 5) 7) i)) (e_pl e) (e_k e) 0).testBit i
      · rfl
      · obtain ⟨j, -, h2, -, h4⟩ := (ro_bit _ _ _ _ _).mp hz
        have := (V.2.2.2.2.2.2.2.2.2 j (by omega)).2
        omega
    · intro r hr
      rw [Nat.testBit_or, Nat.testBit_or, bs_bit, decide_eq_true hr, hs r hr, nd_bit]
      unfold may
      rw [hb]
      simp only [Bool.true_and]
      congr 1
      apply Bool.eq_iff_iff.mpr
      rw [Bool.and_eq_true, ro_bit]
      unfold rgt
      rw [anyN_iff]
      constructor
      · rintro ⟨⟨i, -, h2, h3, h4⟩, h5⟩
        refine ⟨i, by omega, ?_⟩
        simp only [Bool.and_eq_true, beq_iff_eq, decide_eq_true_eq] at h3 ⊢
        refine ⟨h3.1, h4, (O i (by omega)).mpr ⟨h3.2, ?_⟩⟩
        rw [h4]
        simpa using h5
      · rintro ⟨i, h1, h2⟩
        simp only [Bool.and_eq_true, beq_iff_eq] at h2
        obtain ⟨h3, h4, h5⟩ := h2
        obtain ⟨h6, h7⟩ := (O i h1).mp h5
        refine ⟨⟨i, Nat.zero_le i, by omega, ?_, h4⟩, ?_⟩
        · simp [h3, h6]
        · rw [h4] at h7
          simp [h7]
  unfold f_X2_may
  by_cases hb : (e_al e).testBit p = true
  · rw [if_neg (fun q => by rw [(mb_f V.al (by omega)).mp q] at hb; cases hb), gd (by omega) (by decide), nI_clamp (by omega), C.2.2.1 p hp]
    cases hbd : e_bed e p with
    | none =>
      rw [if_pos (show bedI none = -9 from rfl)]
      exact key 0 (fun r hr => by rw [hbd, Nat.zero_testBit]; rfl) (Nat.two_pow_pos _) hb
    | some b =>
      have hbb := V.2.2.2.2.2.2.1 p hp b hbd
      rw [if_neg (bed_s (by omega)), gd2 (by omega) (by decide)]
      show f_X2_may_J33 P h (nI p) (nI (e_al e)) day (nI sil) ((1 : Int32) <<< (nI b &&& 31)) = _
      rw [mb_sh (by omega)]
      refine key (2 ^ b) (fun r hr => ?_) (Nat.pow_lt_pow_right (by decide) hbb) hb
      rw [hbd, Nat.testBit_two_pow]
      by_cases hbr : b = r
      · subst hbr; simp
      · simp [hbr]
  · have hb' : (e_al e).testBit p = false := by simpa using hb
    rw [if_pos ((mb_f V.al (by omega)).mpr hb')]
    show some (nI 0) = _
    congr 2
    refine eq_bs (Nat.two_pow_pos _) (fun r hr => ?_)
    unfold may
    rw [hb', Nat.zero_testBit]
    rfl
theorem mayS_lt (e : En) (p : Nat) : mayS e p < 2 ^ e_nr e := bs_lt _ _
theorem c_mayNow (V : VE e) (C : CE0 P h e) (O : COK P h (P.1 (P.2.2 h 5) 0) 0 e) (ha : P.1 (P.2.2 h 5) 1 = nI (e_al e)) {p : Nat} (hp : p < e_np e) : f_X2_mayNow P h (nI p) = some (nI (mayS e p)) := by
  unfold f_X2_mayNow
  rw [ha, show (0 : Int32) = nI 0 from rfl, c_may V C O hp]
  rfl
theorem c_whoMay_L (V : VE e) (C : CE0 P h e) (O : COK P h (P.1 (P.2.2 h 5) 0) 0 e) (ha : P.1 (P.2.2 h 5) 1 = nI (e_al e)) (K : Int32 → Option Int32) {r : Nat} (hr : r < e_nr e) : ∀ m j n acc, j + m = e_np e → m < n → f_X2_whoMay_L4 K P h (nI r) n (nI acc) (nI j) = K (nI (acc ||| br (fun p => may e p r) m j)) := by
  have hnr := V.2.1
  have hnp := V.1
  intro m
  induction m with
  | zero =>
    intro j n acc hj hn
    obtain ⟨n, rfl⟩ := pre_n hn
    unfold f_X2_whoMay_L4 br
    rw [C.1, if_pos (nI_le (by omega) (by omega)), Nat.or_zero]
  | succ m ih =>
    intro j n acc hj hn
    obtain ⟨n, rfl⟩ := pre_n hn
    unfold f_X2_whoMay_L4
    rw [C.1, if_neg (nI_ge (by omega) (by omega)), ha, show (0 : Int32) = nI 0 from rfl, c_may V C O (by omega), Option.bind_some, Option.bind_some, mb_bit (lt31 (mayS_lt e j) hnr) (by omega), ← br_or]
    have hb : (mayS e j).testBit r = may e j r := by
      unfold mayS
      rw [bs_bit, decide_eq_true hr]
      rfl
    rw [hb]
    cases may e j r
    · have e1 : (nI (false.toNat) <<< (nI j &&& 31)) = nI 0 := by
        have h1 := pk_shlN (n := 0) (nI j &&& 31) j (s_l j (by omega)) (by rw [Nat.zero_mul]; decide)
        rw [Nat.zero_mul] at h1
        exact h1
      rw [e1, fa_or, Nat.or_zero, nI_1, ih _ _ _ (by omega) (by omega)]
      rfl
    · have e1 : (nI (true.toNat) <<< (nI j &&& 31)) = nI (2 ^ j) := mb_sh (by omega)
      rw [e1, fa_or, nI_1, ih _ _ _ (by omega) (by omega)]
      rfl
theorem c_whoMay (V : VE e) (C : CE0 P h e) (O : COK P h (P.1 (P.2.2 h 5) 0) 0 e) (ha : P.1 (P.2.2 h 5) 1 = nI (e_al e)) {r : Nat} (hr : r < e_nr e) : f_X2_whoMay P h (nI r) = some (nI (who e r)) := by
  have hnp := V.1
  unfold f_X2_whoMay
  have h1 := c_whoMay_L V C O ha (fun v => some v) hr (e_np e) 0 1000 0 (by omega) (by omega)
  rw [Nat.zero_or] at h1
  exact h1
theorem c_bdo_L (V : VE e) (C : CE0 P h e) (K : Int32 → Option Int32) {R : Nat} (hR : R < 2 ^ 31) : ∀ m j n acc, j + m = e_nr e → m < n → f_X2_behindDoorsOf_L4 K P h (nI R) n (nI acc) (nI j) = K (nI (acc ||| nb (e_door e) R m j)) := by
  have hnr := V.2.1
  intro m
  induction m with
  | zero =>
    intro j n acc hj hn
    obtain ⟨n, rfl⟩ := pre_n hn
    unfold f_X2_behindDoorsOf_L4 nb
    rw [C.2.1, if_pos (nI_le (by omega) (by omega)), Nat.or_zero]
  | succ m ih =>
    intro j n acc hj hn
    obtain ⟨n, rfl⟩ := pre_n hn
    unfold f_X2_behindDoorsOf_L4 nb
    rw [C.2.1, if_neg (nI_ge (by omega) (by omega))]
    by_cases hb : R.testBit j = true
    · rw [if_pos ((mb_t hR (by omega)).mpr hb), gd (by omega) (by decide), nI_clamp (by omega), C.2.2.2.2.1 j (by omega), fa_or, nI_1, ih _ _ _ (by omega) (by omega), if_pos hb, Nat.or_assoc]
    · rw [if_neg (fun q => hb ((mb_t hR (by omega)).mp q)), nI_1, ih _ _ _ (by omega) (by omega), if_neg hb, Nat.zero_or]
theorem c_bdo (V : VE e) (C : CE0 P h e) {R : Nat} (hR : R < 2 ^ 31) : f_X2_behindDoorsOf P h (nI R) = some (nI (nbr e R)) := by
  have hnr := V.2.1
  unfold f_X2_behindDoorsOf
  have h1 := c_bdo_L V C (fun v => some v) hR (e_nr e) 0 1000 0 (by omega) (by omega)
  rw [Nat.zero_or] at h1
  exact h1
theorem gr_lt {m R n : Nat} (hR : R < 2 ^ n) (hm : m < 2 ^ n) : gr e m R < 2 ^ n := Nat.or_lt_two_pow hR (Nat.and_lt_two_pow _ hm)
theorem gri_lt {m n : Nat} (hm : m < 2 ^ n) : ∀ i R, R < 2 ^ n → gri e m i R < 2 ^ n
  | 0, _, h => h
  | i + 1, _, h => gri_lt hm i _ (gr_lt h hm)
theorem c_reach_L (V : VE e) (C : CE0 P h e) (K : Int32 → Option Int32) {w : Nat} (hw : w < 2 ^ 7) : ∀ m j n R, R < 2 ^ 7 → j + m = e_nr e → m < n → f_X2_reach_L29 K P h (nI w) n (nI R) (nI j) = K (nI (gri e w m R)) := by
  have hnr := V.2.1
  intro m
  induction m with
  | zero =>
    intro j n R hR hj hn
    obtain ⟨n, rfl⟩ := pre_n hn
    unfold f_X2_reach_L29 gri
    rw [C.2.1, if_pos (nI_le (by omega) (by omega))]
  | succ m ih =>
    intro j n R hR hj hn
    obtain ⟨n, rfl⟩ := pre_n hn
    unfold f_X2_reach_L29 gri
    rw [C.2.1, if_neg (nI_ge (by omega) (by omega)), c_bdo V C (by omega), Option.bind_some, fa_and, fa_or, nI_1]
    exact ih (j + 1) n _ (gr_lt hR hw) (by omega) (by omega)
theorem st0_lt {p m : Nat} (hm : m < 2 ^ 7) : st0 e p m < 2 ^ 7 := by
  unfold st0
  cases e_bed e p with
  | none => exact Nat.two_pow_pos 7
  | some b => exact Nat.and_lt_two_pow _ hm
theorem c_reach (V : VE e) (C : CE0 P h e) {p w : Nat} (hp : p < e_np e) (hw : w < 2 ^ 7) : f_X2_reach P h (nI p) (nI w) = some (nI (rch e p w)) := by
  have hnr := V.2.1
  have hnp := V.1
  have hst := st0_lt (e := e) (p := p) hw
  unfold f_X2_reach
  rw [gd (by omega) (by decide), nI_clamp (by omega), C.2.2.1 p hp]
  unfold rch
  cases hbd : e_bed e p with
  | none =>
    rw [if_pos (show bedI none = -9 from rfl)]
    have e0 : st0 e p w = 0 := by unfold st0; rw [hbd]; rfl
    rw [e0]
    exact c_reach_L V C (fun v => some v) hw (e_nr e) 0 1000 0 (by omega) (by omega) (by omega)
  | some b =>
    have hbb := V.2.2.2.2.2.2.1 p hp b hbd
    have e0 : st0 e p w = 2 ^ b &&& w := by unfold st0; rw [hbd]; rfl
    rw [if_neg (bed_s (by omega)), gd2 (by omega) (by decide)]
    show ((some (((1 : Int32) <<< (nI b &&& 31)) &&& nI w)).bind fun u5 => f_X2_reach_L29 (fun v6 => some v6) P h (nI w) 1000 u5 (0 : Int32)) = _
    rw [mb_sh (by omega), fa_and, Option.bind_some, ← e0]
    exact c_reach_L V C (fun v => some v) hw (e_nr e) 0 1000 _ hst (by omega) (by omega)
theorem rch_lt {p m : Nat} (hm : m < 2 ^ 7) : rch e p m < 2 ^ 7 := gri_lt hm _ _ (st0_lt hm)
theorem nd_le (a b : Nat) {n : Nat} (ha : a < 2 ^ n) : nd a b < 2 ^ n := lt_of_bits fun i hi => by rw [nd_bit, bit_lt ha hi]; rfl
theorem z_cond {a : Nat} (ha : a < 2 ^ 31) : (nI a = 0) = (a = 0) := propext (nI_eq (b := 0) ha (by decide))
theorem c_lacks (V : VE e) (C : CE0 P h e) {p w : Nat} (hp : p < e_np e) (hw : w < 2 ^ 7) : f_X2_lacks P h (nI p) (nI w) = some (lck e p w) := by
  have hnr := V.2.1
  have hnp := V.1
  have h1 := lt31 (nd_le (e_want e p) (rch e p w) (V.2.2.2.2.2.2.2.1 p hp)) hnr
  unfold f_X2_lacks
  rw [gd (by omega) (by decide), c_reach V C hp hw, Option.bind_some, nI_clamp (by omega), C.2.2.2.1 p hp, mb_not]
  unfold lck
  by_cases hz : nd (e_want e p) (rch e p w) = 0
  · rw [if_pos (by rw [hz]; rfl), hz]
    rfl
  · rw [if_neg (fun q : nI _ = 0 => hz ((nI_eq (b := 0) h1 (by decide)).mp q))]
    simp [hz]
theorem b2i_0 (b : Bool) : (b2i b = 0) ↔ b = false := by cases b <;> decide
theorem if_b2i {α : Type} (b : Bool) (A B : α) : (if b2i b = 0 then A else B) = if b = true then B else A := by cases b <;> rfl
theorem mayS7 (V : VE e) (p : Nat) : mayS e p < 2 ^ 7 := Nat.lt_of_lt_of_le (mayS_lt e p) (pow_b V.2.1)
theorem c_isCutOff (V : VE e) (C : CE0 P h e) {day : Int32} {sil : Nat} (O : COK P h day sil e) {p : Nat} (hp : p < e_np e) : f_X2_isCutOff P h (nI p) (nI (e_al e)) day (nI sil) = some (cutB e p) := by
  have hnp := V.1
  unfold f_X2_isCutOff cutB
  by_cases hb : (e_al e).testBit p = true
  · rw [if_pos ((mb_t V.al (by omega)).mpr hb), c_may V C O hp, Option.bind_some, c_lacks V C hp (mayS7 V p), Option.bind_some, hb, if_b2i]
    cases lck e p (mayS e p) <;> rfl
  · rw [if_neg (fun q => hb ((mb_t V.al (by omega)).mp q))]
    simp [hb]
theorem c_cutOff_L (V : VE e) (C : CE0 P h e) {sil : Nat} (O : COK P h (P.1 (P.2.2 h 5) 0) sil e) (ha : P.1 (P.2.2 h 5) 1 = nI (e_al e)) (K : Int32 → Option Int32) : ∀ m j n acc, j + m = e_np e → m < n → f_X2_cutOff_L4 K P h (nI sil) n (nI acc) (nI j) = K (nI (acc ||| br (cutB e) m j)) := by
  have hnp := V.1
  intro m
  induction m with
  | zero =>
    intro j n acc hj hn
    obtain ⟨n, rfl⟩ := pre_n hn
    unfold f_X2_cutOff_L4 br
    rw [C.1, if_pos (nI_le (by omega) (by omega)), Nat.or_zero]
  | succ m ih =>
    intro j n acc hj hn
    obtain ⟨n, rfl⟩ := pre_n hn
    unfold f_X2_cutOff_L4
    rw [C.1, if_neg (nI_ge (by omega) (by omega)), ha, c_isCutOff V C O (by omega), Option.bind_some, if_b2i, ← br_or, nI_1]
    cases cutB e j
    · rw [if_neg (by decide), if_neg (by decide), ih _ _ _ (by omega) (by omega)]
    · rw [if_pos rfl, if_pos rfl, mb_sh (by omega), fa_or, ih _ _ _ (by omega) (by omega)]
theorem c_cutOff (V : VE e) (C : CE0 P h e) {sil : Nat} (O : COK P h (P.1 (P.2.2 h 5) 0) sil e) (ha : P.1 (P.2.2 h 5) 1 = nI (e_al e)) : f_X2_cutOff P h (nI sil) = some (nI (cut e)) := by
  have hnp := V.1
  unfold f_X2_cutOff
  have h1 := c_cutOff_L V C O ha (fun v => some v) (e_np e) 0 1000 0 (by omega) (by omega)
  rw [Nat.zero_or] at h1
  exact h1
end CLS
