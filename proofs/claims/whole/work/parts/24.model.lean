/-! heirs of heirs: at most as many steps as people -/
def itr (e : En) : Nat → Nat → Nat
  | 0, w => w
  | k + 1, w => itr e k (e_heir e w)
theorem itr_add (e : En) : ∀ i d w, itr e (i + d) w = itr e d (itr e i w)
  | 0, d, w => by rw [Nat.zero_add]; rfl
  | i + 1, d, w => by
    rw [Nat.succ_add]
    exact itr_add e i d (e_heir e w)
theorem php : ∀ (n m : Nat) (f : Nat → Nat), (∀ i, i < m → f i < n) → (∀ i j, i < j → j < m → f i ≠ f j) → m ≤ n := by
  intro n
  induction n with
  | zero =>
    intro m f h1 _
    rcases Nat.eq_zero_or_pos m with h | h
    · omega
    · have := h1 0 h
      omega
  | succ n ih =>
    intro m f h1 h2
    by_cases hx : ∃ i, i < m ∧ f i = n
    · obtain ⟨i0, hi0, hf0⟩ := hx
      have h3 := ih (m - 1) (fun i => if i < i0 then f i else f (i + 1)) (fun i hi => by
        by_cases h : i < i0
        · simp only [if_pos h]
          have a1 := h1 i (by omega)
          have a2 := h2 i i0 h hi0
          omega
        · simp only [if_neg h]
          have a1 := h1 (i + 1) (by omega)
          have a2 := h2 i0 (i + 1) (by omega) (by omega)
          omega) (fun i j hij hj => by
        by_cases hi : i < i0
        · by_cases hjj : j < i0
          · simp only [if_pos hi, if_pos hjj]
            exact h2 i j hij (by omega)
          · simp only [if_pos hi, if_neg hjj]
            exact h2 i (j + 1) (by omega) (by omega)
        · by_cases hjj : j < i0
          · omega
          · simp only [if_neg hi, if_neg hjj]
            exact h2 (i + 1) (j + 1) (by omega) (by omega))
      omega
    · have h3 := ih m f (fun i hi => by
        have a1 := h1 i hi
        have a2 : f i ≠ n := fun h => hx ⟨i, hi, h⟩
        omega) h2
      omega
theorem own1_some (e : En) : ∀ n w s q, own1 e n w s = some q → ∃ k, k < n ∧ q = (itr e k w, s + k) ∧ (∀ j, j < k → itr e j w < e_np e ∧ (e_al e).testBit (itr e j w) = false) ∧ itr e k w < e_np e ∧ (e_al e).testBit (itr e k w) = true := by
  intro n
  induction n with
  | zero => intro w s q h; cases h
  | succ n ih =>
    intro w s q h
    unfold own1 at h
    by_cases h1 : w < e_np e
    · rw [if_pos h1] at h
      by_cases hb : (e_al e).testBit w = true
      · rw [if_pos hb] at h
        cases h
        exact ⟨0, by omega, rfl, fun j hj => by omega, h1, hb⟩
      · rw [if_neg hb] at h
        obtain ⟨k, a1, a2, a3, a4⟩ := ih _ _ _ h
        refine ⟨k + 1, by omega, ?_, fun j hj => ?_, a4⟩
        · rw [a2]
          show (itr e k (e_heir e w), s + 1 + k) = (itr e k (e_heir e w), s + (k + 1))
          congr 1
          omega
        · cases j with
          | zero => exact ⟨h1, (by simpa using hb : (e_al e).testBit w = false)⟩
          | succ j => exact a3 j (by omega)
    · rw [if_neg h1] at h
      cases h
theorem own1_of (e : En) : ∀ n w s k, k < n → (∀ j, j < k → itr e j w < e_np e ∧ (e_al e).testBit (itr e j w) = false) → itr e k w < e_np e → (e_al e).testBit (itr e k w) = true → own1 e n w s = some (itr e k w, s + k) := by
  intro n
  induction n with
  | zero => intro w s k hk; omega
  | succ n ih =>
    intro w s k hk h1 h2 h3
    unfold own1
    cases k with
    | zero =>
      rw [if_pos (show w < e_np e from h2), if_pos (show (e_al e).testBit w = true from h3)]
      rfl
    | succ k =>
      have h0 : w < e_np e ∧ (e_al e).testBit w = false := h1 0 (by omega)
      rw [if_pos h0.1, if_neg (by rw [h0.2]; decide)]
      rw [ih (e_heir e w) (s + 1) k (by omega) (fun j hj => h1 (j + 1) (by omega)) h2 h3]
      show some (itr e k (e_heir e w), s + 1 + k) = some (itr e k (e_heir e w), s + (k + 1))
      congr 2
      omega
theorem own1_stable (e : En) {n : Nat} (hn : e_np e ≤ n) (w s : Nat) : own1 e n w s = own1 e (e_np e) w s := by
  cases ho : own1 e n w s with
  | some q =>
    obtain ⟨k, a1, a2, a3, a4, a5⟩ := own1_some e n w s q ho
    have hk : k + 1 ≤ e_np e := php (e_np e) (k + 1) (fun i => itr e i w) (fun i hi => by
      by_cases h : i = k
      · subst h; exact a4
      · exact (a3 i (by omega)).1) (fun i j hij hj heq => by
      have h1 : itr e (j + (k - j)) w = itr e (i + (k - j)) w := by
        rw [itr_add, itr_add, heq]
      have h2 : j + (k - j) = k := by omega
      rw [h2] at h1
      have h3 := (a3 (i + (k - j)) (by omega)).2
      rw [← h1, a5] at h3
      cases h3)
    rw [own1_of e (e_np e) w s k (by omega) a3 a4 a5, a2]
  | none =>
    cases ho2 : own1 e (e_np e) w s with
    | none => rfl
    | some q =>
      obtain ⟨k, a1, a2, a3, a4, a5⟩ := own1_some e _ w s q ho2
      rw [own1_of e n w s k (by omega) a3 a4 a5] at ho
      cases ho
/-! the model's queries -/
def MR (P : PH) : Prop := P.2.2 47 = rho0 47
def NE (N : Nat → Int32) (e : En) : Prop :=
  N 1 = nI (e_al e) ∧ (∀ p, p < e_np e → N (2 + p) = nI (e_heir e p)) ∧ (∀ r, r < e_nr e → N (8 + r) = nI (e_left e r)) ∧ N 15 = nI (e_k e) ∧ (∀ i, i < e_k e → N (16 + 3 * i) = nI (e_ho e i) ∧ N (17 + 3 * i) = nI (e_pl e i) ∧ (e_ok e i = true ↔ N 0 ≤ N (18 + 3 * i)))
def ME (P : PH) (e : En) : Prop :=
  MR P ∧ P.1 47 0 = nI (e_np e) ∧ P.1 47 1 = nI (e_nr e) ∧ (∀ p, p < e_np e → P.1 48 p = bedI (e_bed e p)) ∧ (∀ p, p < e_np e → P.1 49 p = nI (e_want e p)) ∧ (∀ r, r < e_nr e → P.1 50 r = nI (e_door e r)) ∧ NE (P.1 61) e
def Eqc (P P' : PH) : Prop := P'.2 = P.2 ∧ (∀ c, c ≠ 47 → P'.1 c = P.1 c) ∧ (∀ j, j ≠ 27 → P'.1 47 j = P.1 47 j)
theorem Eqc.rf (P : PH) : Eqc P P := ⟨rfl, fun _ _ => rfl, fun _ _ => rfl⟩
theorem Eqc.tr {P P1 P2 : PH} (a : Eqc P P1) (b : Eqc P1 P2) : Eqc P P2 := ⟨b.1.trans a.1, fun c hc => (b.2.1 c hc).trans (a.2.1 c hc), fun j hj => (b.2.2 j hj).trans (a.2.2 j hj)⟩
theorem Eqc.ch (P : PH) (v : Int32) : Eqc P (sI P 47 27 v) := ⟨rfl, fun c hc => sA_ne hc, fun j hj => by unfold sI; rw [sA_eq]; simp [upd, hj]⟩
theorem Eqc.mr {P P' : PH} (a : Eqc P P') (h : MR P) : MR P' := by
  unfold MR
  rw [a.1]
  exact h
theorem Eqc.me {P P' : PH} {e : En} (a : Eqc P P') (h : ME P e) : ME P' e := by
  obtain ⟨h1, h2, h3, h4, h5, h6, h7⟩ := h
  refine ⟨a.mr h1, by rw [a.2.2 0 (by decide)]; exact h2, by rw [a.2.2 1 (by decide)]; exact h3, ?_, ?_, ?_, ?_⟩
  · rw [a.2.1 48 (by decide)]; exact h4
  · rw [a.2.1 49 (by decide)]; exact h5
  · rw [a.2.1 50 (by decide)]; exact h6
  · rw [a.2.1 61 (by decide)]; exact h7
section MDL
variable {P : PH} {e : En}
theorem mr_bed (h : MR P) : P.2.2 47 2 = 48 := by rw [h]; rfl
theorem mr_want (h : MR P) : P.2.2 47 3 = 49 := by rw [h]; rfl
theorem mr_door (h : MR P) : P.2.2 47 4 = 50 := by rw [h]; rfl
theorem mr_st (h : MR P) : P.2.2 47 5 = 51 := by rw [h]; rfl
theorem mr_now (h : MR P) : P.2.2 47 26 = 61 := by rw [h]; rfl
theorem m_in (x a b : Int32) : f_X10_in P x a b = some (decide (¬ x < a ∧ ¬ b < x)) := by
  unfold f_X10_in
  by_cases h1 : x < a
  · rw [if_pos h1, decide_eq_false (fun q => q.1 h1)]
  · rw [if_neg h1]
    by_cases h2 : b < x
    · rw [if_pos h2, decide_eq_false (fun q => q.2 h2)]
    · rw [if_neg h2, decide_eq_true ⟨h1, h2⟩]
theorem lt_pred {x : Int32} {n : Nat} (hn : n < 2 ^ 31) (hx : ¬ x < 0) : ¬ (nI n - 1 < x) ↔ x < nI n := by
  obtain ⟨j, hj, rfl⟩ := nI_of hx
  rw [nI_ltI hj hn]
  cases n with
  | zero =>
    have h1 : nI 0 - 1 < nI j := by
      rw [Int32.lt_iff_toInt_lt, nI_toInt hj]
      have : (nI 0 - 1).toInt = -1 := rfl
      omega
    constructor
    · intro h; exact absurd h1 h
    · intro h; omega
  | succ n =>
    rw [nI_pred, nI_ltI (by omega) hj]
    omega
theorem m_isPerson (M : ME P e) (V : VE e) (x : Int32) : f_X10_isPerson P 47 x = some (decide (¬ x < 0 ∧ x < nI (e_np e))) := by
  have := V.1
  unfold f_X10_isPerson
  rw [m_in, Option.bind_some, M.2.1]
  congr 1
  apply Bool.eq_iff_iff.mpr
  simp only [decide_eq_true_eq]
  constructor
  · rintro ⟨a, b⟩; exact ⟨a, (lt_pred (by omega) a).mp b⟩
  · rintro ⟨a, b⟩; exact ⟨a, (lt_pred (by omega) a).mpr b⟩
theorem m_isRoom (M : ME P e) (V : VE e) (x : Int32) : f_X10_isRoom P 47 x = some (decide (¬ x < 0 ∧ x < nI (e_nr e))) := by
  have := V.2.1
  unfold f_X10_isRoom
  rw [m_in, Option.bind_some, M.2.2.1]
  congr 1
  apply Bool.eq_iff_iff.mpr
  simp only [decide_eq_true_eq]
  constructor
  · rintro ⟨a, b⟩; exact ⟨a, (lt_pred (by omega) a).mp b⟩
  · rintro ⟨a, b⟩; exact ⟨a, (lt_pred (by omega) a).mpr b⟩
theorem m_has {a k : Nat} (ha : a < 2 ^ 31) (hk : k < 31) : f_X10_has P (nI a) (nI k) = some (a.testBit k) := by
  unfold f_X10_has
  by_cases hb : a.testBit k = true
  · rw [if_pos ((mb_t ha hk).mpr hb), hb]
  · rw [if_neg (fun q => hb ((mb_t ha hk).mp q))]
    simp [hb]
theorem isP_nI {w n : Nat} (hw : w < 2 ^ 31) (hn : n < 2 ^ 31) : decide (¬ nI w < 0 ∧ nI w < nI n) = decide (w < n) := by
  congr 1
  exact propext ⟨fun h => (nI_ltI hw hn).mp h.2, fun h => ⟨nI_pos hw, (nI_ltI hw hn).mpr h⟩⟩
theorem gdL {α : Type} {A : Option α} (c N : Nat) (h : c < N := by decide) (hN : N < 2 ^ 31 := by decide) : (if (nI c < 0 ∨ N ≤ (nI c).toNatClampNeg) then none else A) = A := if_neg (nI_in h hN)
theorem m_isAlive (M : ME P e) (V : VE e) {w : Nat} (hw : w < 31) : f_X10_isAlive P 47 (nI w) = some (decide (w < e_np e) && (e_al e).testBit w) := by
  have := V.1
  unfold f_X10_isAlive
  rw [m_isPerson M V, Option.bind_some, isP_nI (by omega) (by omega), if_b2i, mr_now M.1]
  by_cases h1 : w < e_np e
  · rw [if_pos (decide_eq_true h1), decide_eq_true h1]
    show (if (nI 1 < 0 ∨ 46 ≤ (nI 1).toNatClampNeg) then none else _) = _
    rw [gd (by decide) (by decide)]
    show ((f_X10_has P (P.1 61 1) (nI w)).bind _) = _
    rw [M.2.2.2.2.2.2.1, m_has V.al (by omega), Option.bind_some, if_b2i]
    cases (e_al e).testBit w <;> rfl
  · rw [if_neg (by simp [h1])]
    simp [h1]
theorem m_owner_L (V : VE e) (K : PH → Int32 → Option (Int32 × PH)) : ∀ m s w n (P : PH), ME P e → s + m = 8 → 0 < m → m < n → w < 10 → P.1 47 27 = nI s → ∃ P' w', f_X10_ownerOf_L15 K 47 n P (nI w) = K P' (nI w') ∧ Eqc P P' ∧ w' < 10 ∧ (own1 e m w s).elim (¬ (w' < e_np e ∧ (e_al e).testBit w' = true)) (fun q => w' = q.1 ∧ P'.1 47 27 = nI q.2) := by
  have hnp := V.1
  intro m
  induction m with
  | zero => intro s w n P _ _ h0; omega
  | succ m ih =>
    intro s w n P M hs _ hn hw hc
    obtain ⟨n, rfl⟩ := pre_n hn
    unfold f_X10_ownerOf_L15 own1
    rw [m_isPerson M V, Option.bind_some, isP_nI (by omega) (by omega), if_b2i, mr_now M.1]
    by_cases h1 : w < e_np e
    · rw [if_pos (decide_eq_true h1), if_pos h1]
      show ∃ P' w', (if (nI 1 < 0 ∨ 46 ≤ (nI 1).toNatClampNeg) then none else _) = K P' (nI w') ∧ _
      rw [gd (by decide) (by decide)]
      show ∃ P' w', ((f_X10_has P (P.1 61 1) (nI w)).bind _) = K P' (nI w') ∧ _
      rw [M.2.2.2.2.2.2.1, m_has V.al (by omega), Option.bind_some, if_b2i]
      by_cases hb : (e_al e).testBit w = true
      · rw [if_pos hb, if_pos hb]
        exact ⟨P, w, rfl, Eqc.rf P, hw, rfl, hc⟩
      · rw [if_neg hb, if_neg hb, hc, show (6 : Int32) = nI 6 from rfl]
        by_cases h6 : m = 0
        · subst h6
          rw [if_pos ((nI_ltI (by omega) (by omega)).mpr (by omega))]
          exact ⟨P, w, rfl, Eqc.rf P, hw, fun q => hb q.2⟩
        · rw [if_neg (fun q => by have := (nI_ltI (by omega) (by omega)).mp q; omega), show (2 : Int32) = nI 2 from rfl, nI_add, gd (by omega) (by decide), nI_clamp (by omega), M.2.2.2.2.2.2.2.1 w h1, nI_1]
          have E1 := Eqc.ch P (nI (s + 1))
          obtain ⟨P', w', a1, a2, a3, a4⟩ := ih (s + 1) (e_heir e w) n (sI P 47 27 (nI (s + 1))) (E1.me M) (by omega) (by omega) (by omega) (V.2.2.2.2.1 w h1) (by unfold sI; rw [sA_eq]; simp [upd])
          exact ⟨P', w', a1, E1.tr a2, a3, a4⟩
    · rw [if_neg (by simp [h1]), if_neg h1]
      exact ⟨P, w, rfl, Eqc.rf P, hw, fun q => h1 q.1⟩
theorem m_ownerOf (M : ME P e) (V : VE e) {r : Nat} (hr : r < e_nr e) : ∃ P', f_X10_ownerOf P 47 (nI r) = some (optI (own e r), P') ∧ Eqc P P' ∧ (∀ q, own e r = some q → P'.1 47 27 = nI q.2) := by
  have hnr := V.2.1
  have hnp := V.1
  unfold f_X10_ownerOf
  rw [show (8 : Int32) = nI 8 from rfl, nI_add, gd (by omega) (by decide), nI_clamp (by omega), mr_now M.1, M.2.2.2.2.2.2.2.2.1 r hr]
  have E1 := Eqc.ch P 0
  obtain ⟨P', w', a1, a2, a3, a4⟩ := m_owner_L V (fun P7 v6 => ((f_X10_isAlive P7 47 v6).bind fun q8 => (if (b2i q8) = 0 then some ((-9 : Int32), P7) else some (v6, P7)))) 8 0 (e_left e r) 1000 (sI P 47 27 0) (E1.me M) (by omega) (by omega) (by omega) (V.2.2.2.2.2.1 r hr) (by unfold sI; rw [sA_eq]; simp [upd]; rfl)
  have E2 := E1.tr a2
  rw [a1, m_isAlive (E2.me M) V (by omega), Option.bind_some, if_b2i]
  rw [own1_stable e (by omega)] at a4
  change (own e r).elim _ _ at a4
  cases ho : own e r with
  | none =>
    rw [ho] at a4
    rw [if_neg (by
      intro q
      rw [Bool.and_eq_true, decide_eq_true_eq] at q
      exact a4 q)]
    exact ⟨P', rfl, E2, fun q hq => by cases hq⟩
  | some q =>
    rw [ho] at a4
    obtain ⟨b1, b2⟩ := own1_fst e _ _ _ q ho
    obtain ⟨rfl, hc⟩ := a4
    rw [if_pos (by rw [b2, decide_eq_true b1]; rfl)]
    exact ⟨P', rfl, E2, fun q' hq' => by cases hq'; exact hc⟩
def anyR (f : Nat → Bool) : Nat → Nat → Bool
  | 0, _ => false
  | m + 1, j => f j || anyR f m (j + 1)
theorem anyR_iff (f : Nat → Bool) : ∀ m j, anyR f m j = true ↔ ∃ i, j ≤ i ∧ i < j + m ∧ f i = true
  | 0, j => by
    unfold anyR
    constructor
    · intro h; cases h
    · rintro ⟨i, h1, h2, -⟩; omega
  | m + 1, j => by
    unfold anyR
    rw [Bool.or_eq_true, anyR_iff f m (j + 1)]
    constructor
    · rintro (h | ⟨i, h1, h2, h3⟩)
      · exact ⟨j, Nat.le_refl j, by omega, h⟩
      · exact ⟨i, by omega, by omega, h3⟩
    · rintro ⟨i, h1, h2, h3⟩
      by_cases hij : i = j
      · subst hij; exact Or.inl h3
      · exact Or.inr ⟨i, by omega, by omega, h3⟩
theorem anyR_N (f : Nat → Bool) (n : Nat) : anyR f n 0 = anyN f n := by
  apply Bool.eq_iff_iff.mpr
  rw [anyR_iff, anyN_iff]
  constructor
  · rintro ⟨i, -, h2, h3⟩; exact ⟨i, by omega, h3⟩
  · rintro ⟨i, h2, h3⟩; exact ⟨i, Nat.zero_le i, by omega, h3⟩
theorem m_mayBe_L (M : ME P e) (V : VE e) (K : Bool → Option (Bool × PH)) {p r : Nat} (hp : p < 10) (hr : r < 10) : ∀ m j n b, j + m = e_k e → m < n → f_X10_mayBe_L38 K P 47 (nI p) (nI r) n b (nI j) = K (b || anyR (fun i => e_ho e i == p && (e_pl e i == r && e_ok e i)) m j) := by
  have hk := V.2.2.2.1
  have hnp := V.1
  have hnr := V.2.1
  have hN := M.2.2.2.2.2.2
  intro m
  induction m with
  | zero =>
    intro j n b hj hn
    obtain ⟨n, rfl⟩ := pre_n hn
    unfold f_X10_mayBe_L38 anyR
    rw [mr_now M.1]
    show (if (nI 15 < 0 ∨ 46 ≤ (nI 15).toNatClampNeg) then none else (if P.1 61 15 ≤ nI j then K b else _)) = _
    rw [gd (by decide) (by decide), hN.2.2.2.1, if_pos (nI_le (by omega) (by omega)), Bool.or_false]
  | succ m ih =>
    intro j n b hj hn
    obtain ⟨n, rfl⟩ := pre_n hn
    have hV := V.2.2.2.2.2.2.2.2.2 j (by omega)
    obtain ⟨n1, n2, n3⟩ := hN.2.2.2.2 j (by omega)
    unfold f_X10_mayBe_L38 anyR
    rw [mr_now M.1, show (16 : Int32) = nI 16 from rfl, show (3 : Int32) = nI 3 from rfl, pk_mul, nI_add, nI_1 (16 + 3 * j), nI_1 j, show (2 : Int32) = nI 2 from rfl, nI_add]
    show (if (nI 15 < 0 ∨ 46 ≤ (nI 15).toNatClampNeg) then none else (if P.1 61 15 ≤ nI j then K b else _)) = _
    rw [gd (by decide) (by decide), hN.2.2.2.1, if_neg (nI_ge (by omega) (by omega)), if_b2i]
    cases b
    · rw [if_neg (by decide), gd (by omega) (by decide), nI_clamp (by omega), n1, Bool.false_or]
      by_cases h1 : e_ho e j = p
      · rw [if_pos (by rw [h1]), gd (by omega) (by decide), nI_clamp (by omega), show 16 + 3 * j + 1 = 17 + 3 * j by omega, n2]
        by_cases h2 : e_pl e j = r
        · rw [if_pos (by rw [h2]), gd (by omega) (by decide), nI_clamp (by omega), show 16 + 3 * j + 2 = 18 + 3 * j by omega]
          show (if (nI 0 < 0 ∨ 46 ≤ (nI 0).toNatClampNeg) then none else (if P.1 61 (18 + 3 * j) < P.1 61 0 then _ else _)) = _
          rw [gd (by decide) (by decide)]
          by_cases h3 : P.1 61 0 ≤ P.1 61 (18 + 3 * j)
          · rw [if_neg (Int32.not_lt.mpr h3), ih _ _ _ (by omega) (by omega), n3.mpr h3]
            simp [h1, h2]
          · rw [if_pos (Int32.not_le.mp h3), ih _ _ _ (by omega) (by omega)]
            have : e_ok e j = false := by
              cases ho : e_ok e j
              · rfl
              · exact absurd (n3.mp ho) h3
            simp [this]
        · rw [if_neg (fun q => h2 ((nI_eq (by omega) (by omega)).mp q)), ih _ _ _ (by omega) (by omega), beq_false_of_ne h2]
          simp
      · rw [if_neg (fun q => h1 ((nI_eq (by omega) (by omega)).mp q)), ih _ _ _ (by omega) (by omega), beq_false_of_ne h1]
        simp
    · rw [if_pos rfl, ih _ _ _ (by omega) (by omega)]
      simp
theorem m_mayBe (M : ME P e) (V : VE e) {p r : Nat} (hp : p < e_np e) (hr : r < e_nr e) : ∃ P', f_X10_mayBe P 47 (nI p) (nI r) = some (may e p r, P') ∧ Eqc P P' := by
  have hk := V.2.2.2.1
  have hnp := V.1
  have hnr := V.2.1
  unfold f_X10_mayBe
  rw [m_isAlive M V (by omega), Option.bind_some, if_b2i, decide_eq_true hp, Bool.true_and]
  by_cases ha : (e_al e).testBit p = true
  · obtain ⟨P', h1, h2, -⟩ := m_ownerOf M V hr
    have M' := h2.me M
    have hmay : may e p r = (((own e r).map Prod.fst == some p || e_bed e p == some r) || rgt e p r) := by unfold may; rw [ha]; rfl
    have hL : ∀ b, f_X10_mayBe_L38 (fun v => some (v, P')) P' 47 (nI p) (nI r) 1000 b (0 : Int32) = some (b || rgt e p r, P') := by
      intro b
      rw [show (0 : Int32) = nI 0 from rfl, m_mayBe_L M' V _ (by omega) (by omega) (e_k e) 0 1000 b (by omega) (by omega), anyR_N]
      rfl
    rw [if_pos ha, h1, Option.bind_some]
    show ∃ P'', (if optI (own e r) = nI p then f_X10_mayBe_L38 (fun v => some (v, P')) P' 47 (nI p) (nI r) 1000 true (0 : Int32) else (if (nI p < 0 ∨ 6 ≤ (nI p).toNatClampNeg) then none else (if P'.1 (P'.2.2 47 2) (nI p).toNatClampNeg = nI r then f_X10_mayBe_L38 (fun v => some (v, P')) P' 47 (nI p) (nI r) 1000 true (0 : Int32) else f_X10_mayBe_L38 (fun v => some (v, P')) P' 47 (nI p) (nI r) 1000 false (0 : Int32)))) = some (may e p r, P'') ∧ _
    rw [hL, hL, mr_bed M'.1, nI_clamp (by omega), M'.2.2.2.1 p hp, hmay, gd2 (by omega) (by decide)]
    refine ⟨P', ?_, h2⟩
    by_cases h3 : ((own e r).map Prod.fst == some p) = true
    · rw [if_pos ((optI_eq V (by omega)).mpr h3), h3]
      rfl
    · rw [if_neg (fun q => h3 ((optI_eq V (by omega)).mp q))]
      have h3' : ((own e r).map Prod.fst == some p) = false := by simpa using h3
      rw [h3']
      by_cases h4 : e_bed e p = some r
      · rw [h4, if_pos (show bedI (some r) = nI r from rfl)]
        simp
      · have h5 : (e_bed e p == some r) = false := by simpa using h4
        rw [h5, if_neg]
        · rfl
        · intro q
          cases hb : e_bed e p with
          | none =>
            rw [hb] at q
            exact bed_s (b := r) (by omega) q.symm
          | some b =>
            rw [hb] at q
            have hbb := V.2.2.2.2.2.2.1 p hp b hb
            have : b = r := (nI_eq (by omega) (by omega)).mp q
            exact h4 (by rw [hb, this])
  · rw [if_neg ha]
    refine ⟨P, ?_, Eqc.rf P⟩
    unfold may
    rw [(by simpa using ha : (e_al e).testBit p = false)]
    rfl
theorem or_0 (a : Nat) : nI a ||| (0 : Int32) = nI a := by
  show nI a ||| nI 0 = nI a
  rw [fa_or, Nat.or_zero]
theorem m_mayIn_L (V : VE e) (K : PH → Int32 → Option (Int32 × PH)) {p : Nat} (hp : p < e_np e) : ∀ m j n acc (P : PH), ME P e → j + m = e_nr e → m < n → ∃ P', f_X10_mayIn_L4 K 47 (nI p) n P (nI acc) (nI j) = K P' (nI (acc ||| br (may e p) m j)) ∧ Eqc P P' := by
  have hnr := V.2.1
  intro m
  induction m with
  | zero =>
    intro j n acc P M hj hn
    obtain ⟨n, rfl⟩ := pre_n hn
    unfold f_X10_mayIn_L4 br
    rw [M.2.2.1, if_pos (nI_le (by omega) (by omega)), Nat.or_zero]
    exact ⟨P, rfl, Eqc.rf P⟩
  | succ m ih =>
    intro j n acc P M hj hn
    obtain ⟨n, rfl⟩ := pre_n hn
    obtain ⟨P1, h1, h2⟩ := m_mayBe M V hp (show j < e_nr e by omega)
    unfold f_X10_mayIn_L4
    rw [M.2.2.1, if_neg (nI_ge (by omega) (by omega)), h1, Option.bind_some, if_b2i, ← br_or, nI_1, mb_sh (by omega), fa_or, or_0]
    have M1 := h2.me M
    cases may e p j
    · obtain ⟨P', a1, a2⟩ := ih (j + 1) n acc P1 M1 (by omega) (by omega)
      exact ⟨P', a1, h2.tr a2⟩
    · obtain ⟨P', a1, a2⟩ := ih (j + 1) n (acc ||| 2 ^ j) P1 M1 (by omega) (by omega)
      exact ⟨P', a1, h2.tr a2⟩
theorem m_mayIn (M : ME P e) (V : VE e) {p : Nat} (hp : p < e_np e) : ∃ P', f_X10_mayIn P 47 (nI p) = some (nI (mayS e p), P') ∧ Eqc P P' := by
  have hnr := V.2.1
  obtain ⟨P', h1, h2⟩ := m_mayIn_L V (fun P3 v2 => some (v2, P3)) hp (e_nr e) 0 1000 0 P M (by omega) (by omega)
  rw [Nat.zero_or] at h1
  exact ⟨P', h1, h2⟩
theorem m_whoMay_L (V : VE e) (K : PH → Int32 → Option (Int32 × PH)) {r : Nat} (hr : r < e_nr e) : ∀ m j n acc (P : PH), ME P e → j + m = e_np e → m < n → ∃ P', f_X10_whoMay_L4 K 47 (nI r) n P (nI acc) (nI j) = K P' (nI (acc ||| br (fun p => may e p r) m j)) ∧ Eqc P P' := by
  have hnp := V.1
  intro m
  induction m with
  | zero =>
    intro j n acc P M hj hn
    obtain ⟨n, rfl⟩ := pre_n hn
    unfold f_X10_whoMay_L4 br
    rw [M.2.1, if_pos (nI_le (by omega) (by omega)), Nat.or_zero]
    exact ⟨P, rfl, Eqc.rf P⟩
  | succ m ih =>
    intro j n acc P M hj hn
    obtain ⟨n, rfl⟩ := pre_n hn
    obtain ⟨P1, h1, h2⟩ := m_mayBe M V (show j < e_np e by omega) hr
    unfold f_X10_whoMay_L4
    rw [M.2.1, if_neg (nI_ge (by omega) (by omega)), h1, Option.bind_some, if_b2i, ← br_or, nI_1, mb_sh (by omega), fa_or, or_0]
    have M1 := h2.me M
    cases may e j r
    · obtain ⟨P', a1, a2⟩ := ih (j + 1) n acc P1 M1 (by omega) (by omega)
      exact ⟨P', a1, h2.tr a2⟩
    · obtain ⟨P', a1, a2⟩ := ih (j + 1) n (acc ||| 2 ^ j) P1 M1 (by omega) (by omega)
      exact ⟨P', a1, h2.tr a2⟩
theorem m_whoMay (M : ME P e) (V : VE e) {r : Nat} (hr : r < e_nr e) : ∃ P', f_X10_whoMay P 47 (nI r) = some (nI (who e r), P') ∧ Eqc P P' := by
  have hnp := V.1
  obtain ⟨P', h1, h2⟩ := m_whoMay_L V (fun P3 v2 => some (v2, P3)) hr (e_np e) 0 1000 0 P M (by omega) (by omega)
  rw [Nat.zero_or] at h1
  exact ⟨P', h1, h2⟩
theorem m_goes_L (M : ME P e) (V : VE e) (K : Int32 → Option Int32) {w : Nat} (hw : w < 2 ^ 7) (x4 : Int32) : ∀ m j n S, S < 2 ^ 7 → j + m = e_nr e → m < n → f_X10_goesBy_L43 K P 47 (nI w) x4 n (nI S) (nI j) = K (nI (gs e w m j S)) := by
  have hnr := V.2.1
  intro m
  induction m with
  | zero =>
    intro j n S hS hj hn
    obtain ⟨n, rfl⟩ := pre_n hn
    unfold f_X10_goesBy_L43 gs
    rw [M.2.2.1, if_pos (nI_le (by omega) (by omega))]
  | succ m ih =>
    intro j n S hS hj hn
    obtain ⟨n, rfl⟩ := pre_n hn
    unfold f_X10_goesBy_L43 gs
    rw [M.2.2.1, if_neg (nI_ge (by omega) (by omega)), m_has (by omega) (by omega), Option.bind_some, if_b2i, mr_door M.1]
    by_cases hb : S.testBit j = true
    · rw [if_pos hb, gd (by omega) (by decide), nI_clamp (by omega), M.2.2.2.2.2.1 j (by omega), fa_and, fa_or, nI_1, if_pos hb, ih _ _ _ (Nat.or_lt_two_pow hS (Nat.and_lt_two_pow _ hw)) (by omega) (by omega)]
    · rw [if_neg hb, or_0, nI_1, if_neg hb, Nat.or_zero, ih _ _ _ hS (by omega) (by omega)]
theorem m_goes_O (M : ME P e) (V : VE e) (K : Int32 → Option Int32) {w : Nat} (hw : w < 2 ^ 7) : ∀ m j n S, S < 2 ^ 7 → j + m = e_nr e → m < n → f_X10_goesBy_L31 K P 47 (nI w) n (nI S) (nI j) = K (nI (gsi e w m S)) := by
  have hnr := V.2.1
  intro m
  induction m with
  | zero =>
    intro j n S hS hj hn
    obtain ⟨n, rfl⟩ := pre_n hn
    unfold f_X10_goesBy_L31 gsi
    rw [M.2.2.1, if_pos (nI_le (by omega) (by omega))]
  | succ m ih =>
    intro j n S hS hj hn
    obtain ⟨n, rfl⟩ := pre_n hn
    unfold f_X10_goesBy_L31 gsi
    rw [M.2.2.1, if_neg (nI_ge (by omega) (by omega)), show (0 : Int32) = nI 0 from rfl, m_goes_L M V _ hw _ (e_nr e) 0 1000 S hS (by omega) (by omega), nI_1, ih _ _ _ (gs_lt hw _ _ _ hS) (by omega) (by omega)]
theorem m_goesBy (M : ME P e) (V : VE e) {p w : Nat} (hp : p < e_np e) (hw : w < 2 ^ e_nr e) (ha : (e_al e).testBit p = true) (hb : ∀ b, e_bed e p = some b → w.testBit b = true) : f_X10_goesBy P 47 (nI p) (nI w) = some (nI (rch e p w)) := by
  have hnr := V.2.1
  have hnp := V.1
  have hw7 : w < 2 ^ 7 := Nat.lt_of_lt_of_le hw (pow_b hnr)
  unfold f_X10_goesBy
  rw [m_isAlive M V (by omega), Option.bind_some, if_b2i, decide_eq_true hp, ha, if_pos (show (true && true) = true from rfl), gd (by omega) (by decide), nI_clamp (by omega), mr_bed M.1, M.2.2.2.1 p hp]
  unfold rch st0
  cases hbd : e_bed e p with
  | none =>
    rw [if_neg (show ¬ (0 : Int32) ≤ bedI none by decide)]
    show some (nI 0) = some (nI (gri e w (e_nr e) 0))
    have hf : gr e w 0 = 0 := by
      apply sb.eq _ (fun i h => by rw [Nat.zero_testBit] at h; cases h)
      intro i hi
      rw [gr_bit] at hi
      rcases hi with hi | ⟨⟨k, -, h2, -⟩, -⟩
      · exact hi
      · rw [Nat.zero_testBit] at h2
        cases h2
    rw [gri_fix _ 0 hf]
  | some b =>
    have hbb := V.2.2.2.2.2.2.1 p hp b hbd
    rw [if_pos (show (0 : Int32) ≤ bedI (some b) from nI_pos' (by omega)), gd2 (by omega) (by decide)]
    show ((some ((1 : Int32) <<< (nI b &&& 31))).bind fun u7 => f_X10_goesBy_L31 (fun v8 => some v8) P 47 (nI w) 1000 u7 (0 : Int32)) = some (nI (gri e w (e_nr e) (2 ^ b &&& w)))
    have e1 : 2 ^ b &&& w = 2 ^ b := by
      apply Nat.eq_of_testBit_eq
      intro i
      rw [Nat.testBit_and, Nat.testBit_two_pow]
      by_cases hi : b = i
      · subst hi; rw [hb b hbd]; simp
      · simp [hi]
    have hlt : 2 ^ b < 2 ^ e_nr e := Nat.pow_lt_pow_right (by decide) hbb
    rw [mb_sh (by omega), Option.bind_some, show (0 : Int32) = nI 0 from rfl, m_goes_O M V _ hw7 (e_nr e) 0 1000 (2 ^ b) (Nat.lt_of_lt_of_le hlt (pow_b hnr)) (by omega) (by omega), gsi_eq hw hlt, e1]
theorem m_isCutOffBy (M : ME P e) (V : VE e) {p w : Nat} (hp : p < e_np e) (hw : w < 2 ^ e_nr e) (hb : (e_al e).testBit p = true → ∀ b, e_bed e p = some b → w.testBit b = true) : f_X10_isCutOffBy P 47 (nI p) (nI w) = some ((e_al e).testBit p && lck e p w) := by
  have hnr := V.2.1
  have hnp := V.1
  have h1 := lt31 (nd_le (e_want e p) (rch e p w) (V.2.2.2.2.2.2.2.1 p hp)) hnr
  unfold f_X10_isCutOffBy
  rw [m_isAlive M V (by omega), Option.bind_some, if_b2i, decide_eq_true hp]
  by_cases ha : (e_al e).testBit p = true
  · rw [ha, if_pos (show (true && true) = true from rfl), gd (by omega) (by decide), m_goesBy M V hp hw ha (hb ha), Option.bind_some, nI_clamp (by omega), mr_want M.1, M.2.2.2.2.1 p hp, mb_not]
    unfold lck
    by_cases hz : nd (e_want e p) (rch e p w) = 0
    · rw [if_pos (by rw [hz]; rfl), hz]
      rfl
    · rw [if_neg (fun q : nI _ = 0 => hz ((nI_eq (b := 0) h1 (by decide)).mp q))]
      simp [hz]
  · rw [(by simpa using ha : (e_al e).testBit p = false)]
    rfl
theorem may_bed {p b : Nat} (ha : (e_al e).testBit p = true) (hb : e_bed e p = some b) : may e p b = true := by
  unfold may
  rw [ha, hb]
  simp
theorem m_isCutOff (M : ME P e) (V : VE e) {p : Nat} (hp : p < e_np e) : ∃ P', f_X10_isCutOff P 47 (nI p) = some (cutB e p, P') ∧ Eqc P P' := by
  obtain ⟨P', h1, h2⟩ := m_mayIn M V hp
  unfold f_X10_isCutOff
  rw [h1, Option.bind_some, m_isCutOffBy (h2.me M) V hp (mayS_lt e p) (fun ha b hb => by
    unfold mayS
    rw [bs_bit, may_bed ha hb, decide_eq_true (V.2.2.2.2.2.2.1 p hp b hb)]
    rfl)]
  exact ⟨P', rfl, h2⟩
theorem m_cutOff_L (V : VE e) (K : PH → Int32 → Option (Int32 × PH)) : ∀ m j n acc (P : PH), ME P e → j + m = e_np e → m < n → ∃ P', f_X10_cutOff_L4 K 47 n P (nI acc) (nI j) = K P' (nI (acc ||| br (cutB e) m j)) ∧ Eqc P P' := by
  have hnp := V.1
  intro m
  induction m with
  | zero =>
    intro j n acc P M hj hn
    obtain ⟨n, rfl⟩ := pre_n hn
    unfold f_X10_cutOff_L4 br
    rw [M.2.1, if_pos (nI_le (by omega) (by omega)), Nat.or_zero]
    exact ⟨P, rfl, Eqc.rf P⟩
  | succ m ih =>
    intro j n acc P M hj hn
    obtain ⟨n, rfl⟩ := pre_n hn
    obtain ⟨P1, h1, h2⟩ := m_isCutOff M V (show j < e_np e by omega)
    unfold f_X10_cutOff_L4
    rw [M.2.1, if_neg (nI_ge (by omega) (by omega)), h1, Option.bind_some, if_b2i, ← br_or, nI_1, mb_sh (by omega), fa_or, or_0]
    have M1 := h2.me M
    cases cutB e j
    · obtain ⟨P', a1, a2⟩ := ih (j + 1) n acc P1 M1 (by omega) (by omega)
      exact ⟨P', a1, h2.tr a2⟩
    · obtain ⟨P', a1, a2⟩ := ih (j + 1) n (acc ||| 2 ^ j) P1 M1 (by omega) (by omega)
      exact ⟨P', a1, h2.tr a2⟩
theorem m_cutOff (M : ME P e) (V : VE e) : ∃ P', f_X10_cutOff P 47 = some (nI (cut e), P') ∧ Eqc P P' := by
  have hnp := V.1
  obtain ⟨P', h1, h2⟩ := m_cutOff_L V (fun P3 v2 => some (v2, P3)) (e_np e) 0 1000 0 P M (by omega) (by omega)
  rw [Nat.zero_or] at h1
  exact ⟨P', h1, h2⟩
end MDL
