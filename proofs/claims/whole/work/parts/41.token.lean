/-! tokens -/
def dig (c : Nat) : Bool := decide (48 ≤ c) && decide (c ≤ 57)
def skp (T : Nat → Nat) : Nat → Nat → Nat
  | 0, e => e
  | k + 1, e => if T e = 32 then skp T k (e + 1) else e
def nmb (T : Nat → Nat) : Nat → Nat → Nat → Nat × Nat
  | 0, e, v => (e, v)
  | k + 1, e, v => if dig (T e) = true then nmb T k (e + 1) (if v ≤ 99 then v * 10 + T e - 48 else v) else (e, v)
def tst (T : Nat → Nat) (tl e : Nat) : Nat := skp T (tl - e) e
def tnm (T : Nat → Nat) (tl s : Nat) : Nat × Nat := nmb T (tl - s) s 0
def tk1 (T : Nat → Nat) (tl s : Nat) : Nat × Nat × Nat := if s < tl then (if dig (T s) = true then ((if (T s = 48 ∧ s + 1 < (tnm T tl s).1) ∨ 99 < (tnm T tl s).2 then 3 else 2), (tnm T tl s).2, (tnm T tl s).1) else (1, T s, s + 1)) else (0, 0, s)
def mso (so v : Nat) : Nat := if so = 1 then (if v = 112 ∨ v = 114 ∨ v = 100 ∨ v = 98 ∨ v = 119 ∨ v = 120 then 1 else if v = 59 then 3 else 4) else if so = 3 then 4 else so
theorem skp_in (T : Nat → Nat) : ∀ k e, e ≤ skp T k e ∧ skp T k e ≤ e + k := by
  intro k
  induction k with
  | zero => intro e; exact ⟨Nat.le_refl _, Nat.le_refl _⟩
  | succ k ih =>
    intro e
    unfold skp
    split
    · have := ih (e + 1)
      omega
    · omega
theorem nmb_in (T : Nat → Nat) (hT : ∀ i, T i ≤ 255) : ∀ k e v, v < 1000 → e ≤ (nmb T k e v).1 ∧ (nmb T k e v).1 ≤ e + k ∧ (nmb T k e v).2 < 1000 := by
  intro k
  induction k with
  | zero => intro e v hv; exact ⟨Nat.le_refl _, Nat.le_refl _, hv⟩
  | succ k ih =>
    intro e v hv
    unfold nmb
    split
    · rename_i hd
      have hd2 : T e ≤ 57 := by
        unfold dig at hd
        rw [Bool.and_eq_true, decide_eq_true_eq, decide_eq_true_eq] at hd
        exact hd.2
      have := ih (e + 1) (if v ≤ 99 then v * 10 + T e - 48 else v) (by split <;> omega)
      omega
    · exact ⟨Nat.le_refl _, by omega, hv⟩
theorem tk1_in (T : Nat → Nat) (hT : ∀ i, T i ≤ 255) {tl s : Nat} (hs : s ≤ tl) : s ≤ (tk1 T tl s).2.2 ∧ (tk1 T tl s).2.2 ≤ tl ∧ (tk1 T tl s).2.1 < 1000 ∧ (tk1 T tl s).1 ≤ 3 ∧ ((tk1 T tl s).1 = 0 ↔ s = tl) ∧ (s < tl → s < (tk1 T tl s).2.2) := by
  unfold tk1
  by_cases h : s < tl
  · rw [if_pos h]
    by_cases hd : dig (T s) = true
    · rw [if_pos hd]
      have h1 : tnm T tl s = nmb T (tl - s - 1) (s + 1) (if 0 ≤ 99 then 0 * 10 + T s - 48 else 0) := by
        unfold tnm
        obtain ⟨k, hk⟩ : ∃ k, tl - s = k + 1 := ⟨tl - s - 1, by omega⟩
        rw [hk]
        show (if dig (T s) = true then nmb T k (s + 1) (if 0 ≤ 99 then 0 * 10 + T s - 48 else 0) else _) = nmb T k (s + 1) (if 0 ≤ 99 then 0 * 10 + T s - 48 else 0)
        rw [if_pos hd]
      have hd2 : T s ≤ 57 := by
        unfold dig at hd
        rw [Bool.and_eq_true, decide_eq_true_eq, decide_eq_true_eq] at hd
        exact hd.2
      have h2 := nmb_in T hT (tl - s - 1) (s + 1) (if 0 ≤ 99 then 0 * 10 + T s - 48 else 0) (by split <;> omega)
      rw [← h1] at h2
      refine ⟨?_, ?_, h2.2.2, ?_, ?_, fun _ => ?_⟩
      · show s ≤ (tnm T tl s).1; omega
      · show (tnm T tl s).1 ≤ tl; omega
      · show (if _ then 3 else 2) ≤ 3
        split <;> omega
      · show (if _ then 3 else 2) = 0 ↔ _
        split <;> omega
      · show s < (tnm T tl s).1; omega
    · rw [if_neg hd]
      have := hT s
      refine ⟨by show s ≤ s + 1; omega, by show s + 1 ≤ tl; omega, by show T s < 1000; omega, by show 1 ≤ 3; omega, ?_, fun _ => by show s < s + 1; omega⟩
      show 1 = 0 ↔ _
      omega
  · rw [if_neg h]
    refine ⟨Nat.le_refl _, hs, by show 0 < 1000; decide, by show 0 ≤ 3; decide, ?_, fun q => absurd q h⟩
    show 0 = 0 ↔ _
    omega
def TXT (s : PI) (T : Nat → Nat) (tl : Nat) : Prop := tl ≤ 200 ∧ (∀ i, T i ≤ 255) ∧ s 2 1 = nI tl ∧ (∀ i, i < tl → s 3 i = nI (T i)) ∧ s 47 14 = nI tl ∧ ∀ i, i < tl → s 56 i = nI (T i)
/-- the class's text moves -/
def F2 (P P' : PH) : Prop := P'.2 = P.2 ∧ (∀ c, c ≠ 2 → P'.1 c = P.1 c) ∧ ∀ j, j < 2 → P'.1 2 j = P.1 2 j
theorem F2.tr {P P1 P2 : PH} (a : F2 P P1) (b : F2 P1 P2) : F2 P P2 := ⟨b.1.trans a.1, fun c h => (b.2.1 c h).trans (a.2.1 c h), fun j h => (b.2.2 j h).trans (a.2.2 j h)⟩
theorem F2.rf (P : PH) : F2 P P := ⟨rfl, fun _ _ => rfl, fun _ _ => rfl⟩
theorem F2.st (P : PH) {j : Nat} (v : Int32) (h : 2 ≤ j) : F2 P (sI P 2 j v) := ⟨rfl, fun c hc => sI_ne hc, fun i hi => by rw [sI_eq, upd_ne (by omega)]⟩
theorem F2.txt {P P' : PH} {T : Nat → Nat} {tl : Nat} (a : F2 P P') (t : TXT P.1 T tl) : TXT P'.1 T tl := by
  obtain ⟨t1, t2, t3, t4, t5, t6⟩ := t
  exact ⟨t1, t2, (a.2.2 1 (by decide)).trans t3, by rw [a.2.1 3 (by decide)]; exact t4, by rw [a.2.1 47 (by decide)]; exact t5, by rw [a.2.1 56 (by decide)]; exact t6⟩
/-- the model's text moves -/
def F47 (P P' : PH) : Prop := P'.2 = P.2 ∧ (∀ c, c ≠ 47 → P'.1 c = P.1 c) ∧ ∀ j, (j < 15 ∨ 18 < j) → P'.1 47 j = P.1 47 j
theorem F47.tr {P P1 P2 : PH} (a : F47 P P1) (b : F47 P1 P2) : F47 P P2 := ⟨b.1.trans a.1, fun c h => (b.2.1 c h).trans (a.2.1 c h), fun j h => (b.2.2 j h).trans (a.2.2 j h)⟩
theorem F47.rf (P : PH) : F47 P P := ⟨rfl, fun _ _ => rfl, fun _ _ => rfl⟩
theorem F47.st (P : PH) {j : Nat} (v : Int32) (h : 15 ≤ j ∧ j ≤ 18) : F47 P (sI P 47 j v) := ⟨rfl, fun c hc => sI_ne hc, fun i hi => by rw [sI_eq, upd_ne (by omega)]⟩
theorem F47.txt {P P' : PH} {T : Nat → Nat} {tl : Nat} (a : F47 P P') (t : TXT P.1 T tl) : TXT P'.1 T tl := by
  obtain ⟨t1, t2, t3, t4, t5, t6⟩ := t
  exact ⟨t1, t2, by rw [a.2.1 2 (by decide)]; exact t3, by rw [a.2.1 3 (by decide)]; exact t4, (a.2.2 14 (by decide)).trans t5, by rw [a.2.1 56 (by decide)]; exact t6⟩
def TXM (s : PI) (T : Nat → Nat) (tl : Nat) : Prop := tl ≤ 200 ∧ (∀ i, T i ≤ 255) ∧ s 47 14 = nI tl ∧ ∀ i, i < tl → s 56 i = nI (T i)
theorem F47.txm {P P' : PH} {T : Nat → Nat} {tl : Nat} (a : F47 P P') (t : TXM P.1 T tl) : TXM P'.1 T tl := by
  obtain ⟨t1, t2, t5, t6⟩ := t
  exact ⟨t1, t2, (a.2.2 14 (by decide)).trans t5, by rw [a.2.1 56 (by decide)]; exact t6⟩
section TOK
variable {T : Nat → Nat} {tl : Nat}
theorem s2_eq (P : PH) (j : Nat) (v : Int32) : (sI P 2 j v).1 2 j = v := by rw [sI_eq, upd_eq]
theorem s2_ne (P : PH) {j i : Nat} (v : Int32) (h : i ≠ j) : (sI P 2 j v).1 2 i = P.1 2 i := by rw [sI_eq, upd_ne h]
theorem s47_eq (P : PH) (j : Nat) (v : Int32) : (sI P 47 j v).1 47 j = v := by rw [sI_eq, upd_eq]
theorem s47_ne (P : PH) {j i : Nat} (v : Int32) (h : i ≠ j) : (sI P 47 j v).1 47 i = P.1 47 i := by rw [sI_eq, upd_ne h]
theorem c_skip (K : PH → Option PH) : ∀ k e n (P : PH), P.2.2 2 0 = 3 → TXT P.1 T tl → P.1 2 5 = nI e → e + k = tl → k < n → ∃ P', f_X8_next_L0 K 2 n P = K P' ∧ F2 P P' ∧ P'.1 2 5 = nI (skp T k e) := by
  intro k
  induction k with
  | zero =>
    intro e n P hr t h5 he hn
    obtain ⟨n, rfl⟩ := pre_n hn
    have ht := t.1
    unfold f_X8_next_L0 skp
    rw [h5, t.2.2.1, if_pos (nI_le (by omega) (by omega))]
    exact ⟨P, rfl, F2.rf P, h5⟩
  | succ k ih =>
    intro e n P hr t h5 he hn
    obtain ⟨n, rfl⟩ := pre_n hn
    have ht := t.1
    have hTe := t.2.1 e
    unfold f_X8_next_L0 skp
    rw [h5, t.2.2.1, if_neg (nI_ge (by omega) (by omega)), gd (by omega) (by decide), nI_clamp (by omega), hr, t.2.2.2.1 e (by omega), nI_1]
    by_cases hc : T e = 32
    · rw [if_pos (by rw [hc]; rfl), if_pos hc]
      have fs := F2.st P (j := 5) (nI (e + 1)) (by decide)
      obtain ⟨P', a1, a2, a3⟩ := ih (e + 1) n (sI P 2 5 (nI (e + 1))) hr (fs.txt t) (s2_eq P 5 _) (by omega) (by omega)
      exact ⟨P', a1, fs.tr a2, a3⟩
    · rw [if_neg (fun q : nI (T e) = 32 => hc ((nI_eq (b := 32) (by omega) (by omega)).mp q)), if_neg hc]
      exact ⟨P, rfl, F2.rf P, h5⟩
theorem c_dig {P : PH} (hr : P.2.2 2 0 = 3) (t : TXT P.1 T tl) {e : Nat} (he : e < tl) : f_X8_isDigitAt P 2 (nI e) = some (dig (T e)) := by
  have ht := t.1
  have hTe := t.2.1 e
  unfold f_X8_isDigitAt
  rw [gd (by omega) (by decide), gd (by omega) (by decide), nI_clamp (by omega), hr, t.2.2.2.1 e he, show (48 : Int32) = nI 48 from rfl, show (57 : Int32) = nI 57 from rfl]
  unfold dig
  by_cases h1 : T e < 48
  · rw [if_pos ((nI_ltI (by omega) (by omega)).mpr h1), decide_eq_false (by omega)]
    rfl
  · rw [if_neg (fun q => h1 ((nI_ltI (by omega) (by omega)).mp q)), decide_eq_true (by omega : 48 ≤ T e)]
    by_cases h2 : 57 < T e
    · rw [if_pos ((nI_ltI (by omega) (by omega)).mpr h2), decide_eq_false (by omega)]
      rfl
    · rw [if_neg (fun q => h2 ((nI_ltI (by omega) (by omega)).mp q)), decide_eq_true (by omega : T e ≤ 57)]
      rfl
theorem c_num (K : PH → Option PH) : ∀ k e v n (P : PH), P.2.2 2 0 = 3 → TXT P.1 T tl → P.1 2 5 = nI e → P.1 2 4 = nI v → v < 1000 → e + k = tl → k < n → ∃ P', f_X8_takeNumber_L5 K 2 n P = K P' ∧ F2 P P' ∧ P'.1 2 3 = P.1 2 3 ∧ P'.1 2 5 = nI (nmb T k e v).1 ∧ P'.1 2 4 = nI (nmb T k e v).2 := by
  intro k
  induction k with
  | zero =>
    intro e v n P hr t h5 h4 hv he hn
    obtain ⟨n, rfl⟩ := pre_n hn
    have ht := t.1
    unfold f_X8_takeNumber_L5 nmb
    rw [h5, t.2.2.1, if_pos (nI_le (by omega) (by omega))]
    exact ⟨P, rfl, F2.rf P, rfl, h5, h4⟩
  | succ k ih =>
    intro e v n P hr t h5 h4 hv he hn
    obtain ⟨n, rfl⟩ := pre_n hn
    have ht := t.1
    have hTe := t.2.1 e
    unfold f_X8_takeNumber_L5 nmb
    rw [h5, t.2.2.1, if_neg (nI_ge (by omega) (by omega)), c_dig hr t (show e < tl by omega), Option.bind_some, if_b2i]
    by_cases hc : dig (T e) = true
    · have hd : 48 ≤ T e ∧ T e ≤ 57 := by
        unfold dig at hc
        rw [Bool.and_eq_true, decide_eq_true_eq, decide_eq_true_eq] at hc
        exact hc
      rw [if_pos hc, if_pos hc, h4, nI_1]
      by_cases hv2 : v ≤ 99
      · have fa := F2.st P (j := 4) (nI (v * 10 + T e - 48)) (by decide)
        have fb := F2.st (sI P 2 4 (nI (v * 10 + T e - 48))) (j := 5) (nI (e + 1)) (by decide)
        have z5 : (sI P 2 4 (nI (v * 10 + T e - 48))).1 2 5 = nI e := by rw [s2_ne _ _ (by decide)]; exact h5
        rw [if_neg (show ¬ (99 : Int32) < nI v from fun q => by have := (nI_ltI (a := 99) (by omega) (by omega)).mp q; omega), gd (by omega) (by decide), nI_clamp (by omega), hr, t.2.2.2.1 e (by omega), show (10 : Int32) = nI 10 from rfl, pk_mul, nI_add, show (48 : Int32) = nI 48 from rfl, pk_sub (by omega), Option.bind_some, z5, nI_1, if_pos hv2]
        obtain ⟨P', a1, a2, a3, a4, a5⟩ := ih (e + 1) (v * 10 + T e - 48) n (sI (sI P 2 4 (nI (v * 10 + T e - 48))) 2 5 (nI (e + 1))) hr ((fa.tr fb).txt t) (s2_eq _ 5 _) (by rw [s2_ne _ _ (by decide), s2_eq]) (by omega) (by omega) (by omega)
        exact ⟨P', a1, (fa.tr fb).tr a2, by rw [a3, s2_ne _ _ (by decide), s2_ne _ _ (by decide)], a4, a5⟩
      · have fb := F2.st P (j := 5) (nI (e + 1)) (by decide)
        rw [if_pos (show (99 : Int32) < nI v from (nI_ltI (a := 99) (by omega) (by omega)).mpr (by omega)), if_neg hv2]
        obtain ⟨P', a1, a2, a3, a4, a5⟩ := ih (e + 1) v n (sI P 2 5 (nI (e + 1))) hr (fb.txt t) (s2_eq _ 5 _) (by rw [s2_ne _ _ (by decide)]; exact h4) hv (by omega) (by omega)
        exact ⟨P', a1, fb.tr a2, by rw [a3, s2_ne _ _ (by decide)], a4, a5⟩
    · rw [if_neg hc, if_neg hc]
      exact ⟨P, rfl, F2.rf P, rfl, h5, h4⟩
/-- the class's token -/
def CK (s : PI) (st : Nat) (q : Nat × Nat × Nat) : Prop := s 2 2 = nI q.1 ∧ s 2 3 = nI st ∧ (q.1 ≠ 0 → s 2 4 = nI q.2.1) ∧ s 2 5 = nI q.2.2
theorem c_next {P : PH} (hr : P.2.2 2 0 = 3) (t : TXT P.1 T tl) {e : Nat} (h5 : P.1 2 5 = nI e) (he : e ≤ tl) : ∃ P', f_X8_next P 2 = some P' ∧ F2 P P' ∧ CK P'.1 (tst T tl e) (tk1 T tl (tst T tl e)) := by
  have ht := t.1
  obtain ⟨Q, a1, a2, a3⟩ := c_skip (T := T) (fun P8 => f_X8_next_J38 P8 2) (tl - e) e 1000 P hr t h5 (by omega) (by omega)
  have hin := skp_in T (tl - e) e
  have tq := a2.txt t
  have rq : Q.2.2 2 0 = 3 := by rw [a2.1]; exact hr
  change Q.1 2 5 = nI (tst T tl e) at a3
  have hs : tst T tl e ≤ tl := by unfold tst; omega
  generalize tst T tl e = s at a3 hs ⊢
  obtain ⟨S, eS⟩ : ∃ S, S = sI Q 2 3 (nI s) := ⟨_, rfl⟩
  have fS : F2 Q S := by rw [eS]; exact F2.st Q _ (by decide)
  have tS := fS.txt tq
  have rS : S.2.2 2 0 = 3 := by rw [fS.1]; exact rq
  have s3 : S.1 2 3 = nI s := by rw [eS]; exact s2_eq Q 3 _
  have s5 : S.1 2 5 = nI s := by rw [eS, s2_ne _ _ (by decide)]; exact a3
  unfold f_X8_next
  rw [a1]
  unfold f_X8_next_J38
  rw [a3, ← eS, s5, tS.2.2.1]
  by_cases h : s < tl
  · rw [if_pos ((nI_ltI (by omega) (by omega)).mpr h), c_dig rS tS h, Option.bind_some, if_b2i]
    have hTs := t.2.1 s
    by_cases hd : dig (T s) = true
    · rw [if_pos hd]
      have f4 := F2.st S (j := 4) (nI 0) (by decide)
      obtain ⟨N, b1, b2, b3, b4, b5⟩ := c_num (T := T) (fun P5 => f_X8_takeNumber_J73 P5 2) (tl - s) s 0 1000 (sI S 2 4 (nI 0)) rS (f4.txt tS) (by rw [s2_ne _ _ (by decide)]; exact s5) (s2_eq _ 4 _) (by decide) (by omega) (by omega)
      change N.1 2 5 = nI (tnm T tl s).1 at b4
      change N.1 2 4 = nI (tnm T tl s).2 at b5
      have hn := nmb_in T t.2.1 (tl - s) s 0 (by decide)
      change s ≤ (tnm T tl s).1 ∧ (tnm T tl s).1 ≤ s + (tl - s) ∧ (tnm T tl s).2 < 1000 at hn
      have n3 : N.1 2 3 = nI s := by rw [b3, s2_ne _ _ (by decide)]; exact s3
      have fN := f4.tr b2
      have tN := fN.txt tS
      have rN : N.2.2 2 0 = 3 := by rw [fN.1]; exact rS
      have ek : tk1 T tl s = ((if (T s = 48 ∧ s + 1 < (tnm T tl s).1) ∨ 99 < (tnm T tl s).2 then 3 else 2), (tnm T tl s).2, (tnm T tl s).1) := by unfold tk1; rw [if_pos h, if_pos hd]
      have fin : ∀ so : Nat, so = (if (T s = 48 ∧ s + 1 < (tnm T tl s).1) ∨ 99 < (tnm T tl s).2 then 3 else 2) → ∃ P', some (sI N 2 2 (nI so)) = some P' ∧ F2 P P' ∧ CK P'.1 s (tk1 T tl s) := by
        intro so hso
        refine ⟨_, rfl, ((a2.tr fS).tr fN).tr (F2.st N _ (by decide)), ?_⟩
        rw [ek, ← hso]
        exact ⟨s2_eq _ 2 _, by rw [s2_ne _ _ (by decide)]; exact n3, fun _ => by rw [s2_ne _ _ (by decide)]; exact b5, by rw [s2_ne _ _ (by decide)]; exact b4⟩
      unfold f_X8_takeNumber
      rw [show (0 : Int32) = nI 0 from rfl, b1]
      have J105 : ∀ b : Bool, ((b = true ∨ 99 < (tnm T tl s).2) ↔ ((T s = 48 ∧ s + 1 < (tnm T tl s).1) ∨ 99 < (tnm T tl s).2)) → ∃ P', ((f_X8_takeNumber_J105 N 2 b).bind fun q5 => some q5) = some P' ∧ F2 P P' ∧ CK P'.1 s (tk1 T tl s) := by
        intro b hb
        unfold f_X8_takeNumber_J105
        rw [if_b2i, b5, show (99 : Int32) = nI 99 from rfl]
        cases b
        · rw [if_neg (show ¬ false = true by decide)]
          by_cases hv : 99 < (tnm T tl s).2
          · rw [if_neg (nI_ge hv (by omega))]
            exact fin 3 (by rw [if_pos (hb.mp (Or.inr hv))])
          · rw [if_pos (nI_le (by omega) (by omega))]
            exact fin 2 (if_neg (fun q => (hb.mpr q).elim (fun h1 => by cases h1) hv)).symm
        · rw [if_pos (show true = true from rfl)]
          exact fin 3 (by rw [if_pos (hb.mp (Or.inl rfl))])
      unfold f_X8_takeNumber_J73
      rw [n3, gd (by omega) (by decide), nI_clamp (by omega), rN, tN.2.2.2.1 s h, b4, nI_1, show (48 : Int32) = nI 48 from rfl]
      by_cases h48 : T s = 48
      · rw [if_pos (by rw [h48])]
        by_cases hl : s + 1 < (tnm T tl s).1
        · rw [if_neg (nI_ge hl (by omega))]
          exact J105 true (by constructor
                              · intro _; exact Or.inl ⟨h48, hl⟩
                              · intro _; exact Or.inl rfl)
        · rw [if_pos (nI_le (by omega) (by omega))]
          exact J105 false (by constructor
                               · rintro (q | q)
                                 · cases q
                                 · exact Or.inr q
                               · rintro (q | q)
                                 · exact absurd q.2 hl
                                 · exact Or.inr q)
      · rw [if_neg (fun q => h48 ((nI_eq (by omega) (by omega)).mp q))]
        exact J105 false (by constructor
                             · rintro (q | q)
                               · cases q
                               · exact Or.inr q
                             · rintro (q | q)
                               · exact absurd q.1 h48
                               · exact Or.inr q)
    · rw [if_neg hd, Option.bind_some]
      have w5 : (sI S 2 2 1).1 2 5 = nI s := by rw [s2_ne _ _ (by decide)]; exact s5
      have w3 : (sI S 2 2 1).1 3 s = nI (T s) := by rw [sI_ne (by decide)]; exact tS.2.2.2.1 s h
      have wr : (sI S 2 2 1).2.2 2 0 = 3 := rS
      have v5 : (sI (sI S 2 2 1) 2 4 (nI (T s))).1 2 5 = nI s := by rw [s2_ne _ _ (by decide)]; exact w5
      rw [w5, gd (by omega) (by decide), nI_clamp (by omega), wr, w3, Option.bind_some, v5, nI_1]
      refine ⟨_, rfl, ((a2.tr fS).tr (F2.st S _ (by decide))).tr ((F2.st _ _ (by decide)).tr (F2.st _ _ (by decide))), ?_⟩
      have ek : tk1 T tl s = (1, T s, s + 1) := by unfold tk1; rw [if_pos h, if_neg hd]
      rw [ek]
      exact ⟨by rw [s2_ne _ _ (by decide), s2_ne _ _ (by decide), s2_eq]; rfl, by rw [s2_ne _ _ (by decide), s2_ne _ _ (by decide), s2_ne _ _ (by decide)]; exact s3, fun _ => by rw [s2_ne _ _ (by decide), s2_eq], s2_eq _ 5 _⟩
  · rw [if_neg (fun q => h ((nI_ltI (by omega) (by omega)).mp q)), Option.bind_some]
    refine ⟨_, rfl, (a2.tr fS).tr (F2.st S _ (by decide)), ?_⟩
    have ek : tk1 T tl s = (0, 0, s) := by unfold tk1; rw [if_neg h]
    rw [ek]
    exact ⟨s2_eq _ 2 _, by rw [s2_ne _ _ (by decide)]; exact s3, fun q => absurd rfl q, by rw [s2_ne _ _ (by decide)]; exact s5⟩
end TOK
