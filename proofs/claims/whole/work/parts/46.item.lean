/-! an item, both ways -/
def VBB (g : SG) (d : SD) : Prop := VG g ∧ VD (g_np g) (g_nr g) d
section ITM
variable {T : Nat → Nat} {tl : Nat} {P C R : PH} {sw : Bool} {g : SG} {d : SD}
theorem fitsA (C : PH) (hh v : Nat) (hv : v < 1000) : f_X6_fits C 1 112 (nI 0) (nI v) hh = some (fA v) := by
  unfold f_X6_fits
  rw [if_neg (by decide), if_pos rfl, if_pos (show nI 0 = 0 from rfl)]
  unfold fA
  by_cases h : v ≤ 1
  · rw [if_neg (show ¬ (1 : Int32) < nI v from fun q => by have := (nI_ltI (a := 1) (by omega) (by omega)).mp q; omega), decide_eq_true h]
  · rw [if_pos (show (1 : Int32) < nI v from (nI_ltI (a := 1) (by omega) (by omega)).mpr (by omega)), decide_eq_false h]
theorem fitsH (C : PH) (hh v : Nat) (hv : v < 1000) : f_X6_fits C 1 112 (nI 1) (nI v) hh = some (fH v) := by
  unfold f_X6_fits
  rw [if_neg (by decide), if_pos rfl, if_neg (show ¬ nI 1 = 0 by decide), c_heir, Option.bind_some]
  unfold fH
  congr 1
  apply Bool.eq_iff_iff.mpr
  rw [decide_eq_true_eq, Bool.or_eq_true, decide_eq_true_eq, beq_iff_eq, n9 hv, show (6 : Int32) = nI 6 from rfl, nI_leI (by omega) (by omega)]
  have := nI_pos (n := v) (by omega)
  constructor
  · rintro (h | ⟨-, h⟩)
    · exact Or.inr h
    · exact Or.inl (by omega)
  · rintro (h | h)
    · exact Or.inr ⟨this, by omega⟩
    · exact Or.inl h
theorem fitsO (B : CB sw P C g d) (hnp : g_np g ≤ 6) (v : Nat) (hv : v < 1000) : f_X6_fits C 1 114 (nI 0) (nI v) (hs (!sw)) = some (fO (g_np g) v) := by
  unfold f_X6_fits
  rw [if_neg (by decide), if_neg (by decide), if_pos rfl, B.isP hnp hv, Option.bind_some, if_b2i]
  unfold fO
  by_cases h : v = 9
  · rw [if_pos ((n9 hv).mpr h), beq_iff_eq.mpr h, Bool.or_true]
  · rw [if_neg (fun q => h ((n9 hv).mp q)), beq_false_of_ne h, Bool.or_false]
    cases decide (v < g_np g) <;> rfl
theorem fitsD0 (B : CB sw P C g d) (hnr : g_nr g ≤ 7) (v : Nat) (hv : v < 1000) : f_X6_fits C 1 100 (nI 0) (nI v) (hs (!sw)) = some (fL (g_nr g) v) := by
  unfold f_X6_fits fL
  rw [if_pos rfl, B.isR hnr hv, Option.bind_some, if_b2i, if_pos (show nI 0 = 0 from rfl)]
  cases decide (v < g_nr g) <;> rfl
theorem fitsD1 (X : HX P sw T tl) (B : CB sw P C g d) (hnr : g_nr g ≤ 7) {a : Nat} (ha : a < 1000) (h4 : C.1 4 0 = nI a) (v : Nat) (hv : v < 1000) : f_X6_fits C 1 100 (nI 1) (nI v) (hs (!sw)) = some (fD (g_nr g) a v) := by
  have r4 : C.2.2 1 1 = 4 := by rw [B.rf X (by decide)]; rfl
  unfold f_X6_fits fD
  rw [if_pos rfl, B.isR hnr hv, Option.bind_some, if_b2i, if_neg (show ¬ nI 1 = 0 by decide), z30, t_0, r4, h4]
  cases decide (v < g_nr g)
  · rfl
  · rw [if_pos (show true = true from rfl), Bool.true_and]
    by_cases h : v = a
    · rw [if_pos (by rw [h]), beq_iff_eq.mpr h]
      rfl
    · rw [if_neg (fun q => h ((nI_eq (by omega) (by omega)).mp q)), beq_false_of_ne h]
      rfl
theorem fitsG0 (B : CB sw P C g d) (hnp : g_np g ≤ 6) {sign : Int32} (h : sign = 98 ∨ sign = 119 ∨ sign = 120) (v : Nat) (hv : v < 1000) : f_X6_fits C 1 sign (nI 0) (nI v) (hs (!sw)) = some (fL (g_np g) v) := by
  unfold f_X6_fits fL
  rw [if_neg (by rcases h with rfl | rfl | rfl <;> decide), if_neg (by rcases h with rfl | rfl | rfl <;> decide), if_neg (by rcases h with rfl | rfl | rfl <;> decide), if_pos (show nI 0 = 0 from rfl), B.isP hnp hv, Option.bind_some]
theorem fitsG1 (B : CB sw P C g d) (hnr : g_nr g ≤ 7) {sign : Int32} (h : sign = 98 ∨ sign = 119 ∨ sign = 120) (v : Nat) (hv : v < 1000) : f_X6_fits C 1 sign (nI 1) (nI v) (hs (!sw)) = some (fL (g_nr g) v) := by
  unfold f_X6_fits fL
  rw [if_neg (by rcases h with rfl | rfl | rfl <;> decide), if_neg (by rcases h with rfl | rfl | rfl <;> decide), if_neg (by rcases h with rfl | rfl | rfl <;> decide), if_neg (show ¬ nI 1 = 0 by decide), if_pos (show nI 1 = 1 from rfl), B.isR hnr hv, Option.bind_some]
theorem fitsG2 (C : PH) (hh v : Nat) (hv : v < 1000) : f_X6_fits C 1 120 (nI 2) (nI v) hh = some (fU v) := by
  unfold f_X6_fits fU
  rw [if_neg (by decide), if_neg (by decide), if_neg (by decide), if_neg (show ¬ nI 2 = 0 by decide), if_neg (show ¬ nI 2 = 1 by decide)]
  by_cases h : v ≤ 99
  · rw [if_neg (show ¬ (99 : Int32) < nI v from fun q => by have := (nI_ltI (a := 99) (by omega) (by omega)).mp q; omega), decide_eq_true h]
  · rw [if_pos (show (99 : Int32) < nI v from (nI_ltI (a := 99) (by omega) (by omega)).mpr (by omega)), decide_eq_false h]
theorem tst_le (T : Nat → Nat) {tl e : Nat} (he : e ≤ tl) : e ≤ tst T tl e ∧ tst T tl e ≤ tl := by
  have := skp_in T (tl - e) e
  unfold tst
  omega
theorem vl_lt (X : HX P sw T tl) {e : Nat} (he : e ≤ tl) : vlT T tl e < 1000 := (tk1_in T X.2.2.1 (tst_le T he).2).2.2.1
/-- what numbers come to, both ways -/
def NUM (T : Nat → Nat) (tl : Nat) (sw : Bool) (P : PH) (g : SG) (d : SD) (e : Nat) (sign : Int32) (cnt : Nat) (rd : PH → Option PH) : Prop :=
  ∃ (b : Bool) (y : Nat) (g' : SG) (d' : SD), y ≤ tl ∧ (b = true → VBB g' d' ∧ e ≤ y) ∧
    (∀ C n K0 K1, CB sw P C g d → C.1 2 5 = nI e → 4 ≤ n →
      (b = true → ∃ C2, f_X6_readItem_L43 K0 K1 1 (hs (!sw)) sign (nI cnt) n C (nI 0) = K1 C2 ∧ CB sw P C2 g d ∧ C2.1 2 5 = nI y ∧ ∀ C3, CB sw P C3 g d → C3.1 4 = C2.1 4 → ∃ C', f_X6_tell C3 1 sign (hs (!sw)) = some C' ∧ CB sw P C' g' d' ∧ C'.1 2 = C3.1 2) ∧
      (b = false → ∃ C1, f_X6_readItem_L43 K0 K1 1 (hs (!sw)) sign (nI cnt) n C (nI 0) = K0 C1 ∧ Ag sw P C1 ∧ C1.1 2 3 = nI y)) ∧
    (∀ P' sw' R, HXM P' sw' T tl → RB sw' P' R g d → TK T tl R e → R.1 47 19 = 0 → ∃ R', rd R = some R' ∧ (b = true → MOT T tl sw' P' R' g' d' y) ∧ (b = false → MF sw' P' R' y))
theorem L43_end (K0 K1 : PH → Option (Bool × PH)) (sign : Int32) (hh cnt n : Nat) (C : PH) (hc : cnt < 1000) (hn : 0 < n) : f_X6_readItem_L43 K0 K1 1 hh sign (nI cnt) n C (nI cnt) = K1 C := by
  obtain ⟨n, rfl⟩ := pre_n hn
  unfold f_X6_readItem_L43
  rw [if_pos (nI_le (Nat.le_refl _) (by omega))]
theorem num_1 (X : HX P sw T tl) {e : Nat} (he : e ≤ tl) {sign : Int32} {f0 : Nat → Bool} {g' : SG} {d' : SD} {rd : PH → Option PH}
    (hf0 : ∀ C, CB sw P C g d → ∀ v, v < 1000 → f_X6_fits C 1 sign (nI 0) (nI v) (hs (!sw)) = some (f0 v))
    (ht : okT T tl f0 e → ∀ C, CB sw P C g d → C.1 4 0 = nI (vlT T tl e) → ∃ C', f_X6_tell C 1 sign (hs (!sw)) = some C' ∧ CB sw P C' g' d' ∧ C'.1 2 = C.1 2)
    (hV : okT T tl f0 e → VBB g' d')
    (hm : ∀ P' sw' R, HXM P' sw' T tl → RB sw' P' R g d → TK T tl R e → R.1 47 19 = 0 → (okT T tl f0 e → ∃ R', rd R = some R' ∧ MOT T tl sw' P' R' g' d' (nxT T tl e)) ∧ (¬ okT T tl f0 e → ∃ R', rd R = some R' ∧ MF sw' P' R' (tst T tl e))) : NUM T tl sw P g d e sign 1 rd := by
  have h1 := nxT_le X.2.2.1 he
  by_cases o0 : okT T tl f0 e
  · refine ⟨true, nxT T tl e, g', d', h1.2, fun _ => ⟨hV o0, h1.1⟩, fun C n K0 K1 B h5 hn => ⟨fun _ => ?_, fun q => by cases q⟩, fun P' sw' R X' B k h19 => ?_⟩
    · obtain ⟨n, rfl⟩ := pre_n (show 0 < n by omega)
      obtain ⟨C2, a1, a2, a3, a4, a5⟩ := (c_rn X K0 K1 B h5 he (i := 0) (cnt := 1) (n := n) (by decide) (by decide) (sign := sign) (fp := f0) (fun C1 B1 _ v hv => hf0 C1 B1 v hv)).1 o0
      refine ⟨C2, a1.trans (L43_end K0 K1 sign _ 1 n C2 (by decide) (by omega)), a2, a3, fun C3 B3 e4 => ht o0 C3 B3 (by rw [e4]; exact a4)⟩
    · obtain ⟨R', b1, b2⟩ := (hm P' sw' R X' B k h19).1 o0
      exact ⟨R', b1, fun _ => b2, fun q => by cases q⟩
  · refine ⟨false, tst T tl e, g', d', (tst_le T he).2, (fun q => by cases q), fun C n K0 K1 B h5 hn => ⟨(fun q => by cases q), fun _ => ?_⟩, fun P' sw' R X' B k h19 => ?_⟩
    · obtain ⟨n, rfl⟩ := pre_n (show 0 < n by omega)
      exact (c_rn X K0 K1 B h5 he (i := 0) (cnt := 1) (n := n) (by decide) (by decide) (sign := sign) (fp := f0) (fun C1 B1 _ v hv => hf0 C1 B1 v hv)).2 o0
    · obtain ⟨R', b1, b2⟩ := (hm P' sw' R X' B k h19).2 o0
      exact ⟨R', b1, (fun q => by cases q), fun _ => b2⟩
theorem num_2 (X : HX P sw T tl) {e : Nat} (he : e ≤ tl) {sign : Int32} {f0 : Nat → Bool} {f1 : Nat → Nat → Bool} {g' : SG} {d' : SD} {rd : PH → Option PH}
    (hf0 : ∀ C, CB sw P C g d → ∀ v, v < 1000 → f_X6_fits C 1 sign (nI 0) (nI v) (hs (!sw)) = some (f0 v))
    (hf1 : ∀ C, CB sw P C g d → C.1 4 0 = nI (vlT T tl e) → ∀ v, v < 1000 → f_X6_fits C 1 sign (nI 1) (nI v) (hs (!sw)) = some (f1 (vlT T tl e) v))
    (ht : okT T tl f0 e → okT T tl (f1 (vlT T tl e)) (nxT T tl e) → ∀ C, CB sw P C g d → C.1 4 0 = nI (vlT T tl e) → C.1 4 1 = nI (vlT T tl (nxT T tl e)) → ∃ C', f_X6_tell C 1 sign (hs (!sw)) = some C' ∧ CB sw P C' g' d' ∧ C'.1 2 = C.1 2)
    (hV : okT T tl f0 e → okT T tl (f1 (vlT T tl e)) (nxT T tl e) → VBB g' d')
    (hm : ∀ P' sw' R, HXM P' sw' T tl → RB sw' P' R g d → TK T tl R e → R.1 47 19 = 0 → (okT T tl f0 e ∧ okT T tl (f1 (vlT T tl e)) (nxT T tl e) → ∃ R', rd R = some R' ∧ MOT T tl sw' P' R' g' d' (nxT T tl (nxT T tl e))) ∧ (okT T tl f0 e ∧ ¬ okT T tl (f1 (vlT T tl e)) (nxT T tl e) → ∃ R', rd R = some R' ∧ MF sw' P' R' (tst T tl (nxT T tl e))) ∧ (¬ okT T tl f0 e → ∃ R', rd R = some R' ∧ MF sw' P' R' (tst T tl e))) : NUM T tl sw P g d e sign 2 rd := by
  have h1 := nxT_le X.2.2.1 he
  have h2 := nxT_le X.2.2.1 h1.2
  by_cases o0 : okT T tl f0 e
  · have st0 : ∀ C n K0 K1, CB sw P C g d → C.1 2 5 = nI e → ∃ C2, f_X6_readItem_L43 K0 K1 1 (hs (!sw)) sign (nI 2) (n + 1) C (nI 0) = f_X6_readItem_L43 K0 K1 1 (hs (!sw)) sign (nI 2) n C2 (nI 1) ∧ CB sw P C2 g d ∧ C2.1 2 5 = nI (nxT T tl e) ∧ C2.1 4 0 = nI (vlT T tl e) := fun C n K0 K1 B h5 => by
      obtain ⟨C2, a1, a2, a3, a4, a5⟩ := (c_rn X K0 K1 B h5 he (i := 0) (cnt := 2) (n := n) (by decide) (by decide) (sign := sign) (fp := f0) (fun C1 B1 _ v hv => hf0 C1 B1 v hv)).1 o0
      exact ⟨C2, a1, a2, a3, a4⟩
    by_cases o1 : okT T tl (f1 (vlT T tl e)) (nxT T tl e)
    · refine ⟨true, nxT T tl (nxT T tl e), g', d', h2.2, fun _ => ⟨hV o0 o1, by omega⟩, fun C n K0 K1 B h5 hn => ⟨fun _ => ?_, fun q => by cases q⟩, fun P' sw' R X' B k h19 => ?_⟩
      · obtain ⟨n, rfl⟩ := pre_n (show 0 < n by omega)
        obtain ⟨n, rfl⟩ := pre_n (show 0 < n by omega)
        obtain ⟨C2, a1, a2, a3, a4⟩ := st0 C (n + 1) K0 K1 B h5
        obtain ⟨C3, b1, b2, b3, b4, b5⟩ := (c_rn X K0 K1 a2 a3 h1.2 (i := 1) (cnt := 2) (n := n) (by decide) (by decide) (sign := sign) (fp := f1 (vlT T tl e)) (fun C1 B1 e4 v hv => hf1 C1 B1 (by rw [e4]; exact a4) v hv)).1 o1
        refine ⟨C3, a1.trans (b1.trans (L43_end K0 K1 sign _ 2 n C3 (by decide) (by omega))), b2, b3, fun C4 B4 e4 => ht o0 o1 C4 B4 ?_ ?_⟩
        · rw [e4, b5 0 (by decide)]; exact a4
        · rw [e4]; exact b4
      · obtain ⟨R', b1, b2⟩ := (hm P' sw' R X' B k h19).1 ⟨o0, o1⟩
        exact ⟨R', b1, fun _ => b2, fun q => by cases q⟩
    · refine ⟨false, tst T tl (nxT T tl e), g', d', (tst_le T h1.2).2, (fun q => by cases q), fun C n K0 K1 B h5 hn => ⟨(fun q => by cases q), fun _ => ?_⟩, fun P' sw' R X' B k h19 => ?_⟩
      · obtain ⟨n, rfl⟩ := pre_n (show 0 < n by omega)
        obtain ⟨n, rfl⟩ := pre_n (show 0 < n by omega)
        obtain ⟨C2, a1, a2, a3, a4⟩ := st0 C (n + 1) K0 K1 B h5
        obtain ⟨C1, b1, b2, b3⟩ := (c_rn X K0 K1 a2 a3 h1.2 (i := 1) (cnt := 2) (n := n) (by decide) (by decide) (sign := sign) (fp := f1 (vlT T tl e)) (fun C1 B1 e4 v hv => hf1 C1 B1 (by rw [e4]; exact a4) v hv)).2 o1
        exact ⟨C1, a1.trans b1, b2, b3⟩
      · obtain ⟨R', b1, b2⟩ := (hm P' sw' R X' B k h19).2.1 ⟨o0, o1⟩
        exact ⟨R', b1, (fun q => by cases q), fun _ => b2⟩
  · refine ⟨false, tst T tl e, g', d', (tst_le T he).2, (fun q => by cases q), fun C n K0 K1 B h5 hn => ⟨(fun q => by cases q), fun _ => ?_⟩, fun P' sw' R X' B k h19 => ?_⟩
    · obtain ⟨n, rfl⟩ := pre_n (show 0 < n by omega)
      exact (c_rn X K0 K1 B h5 he (i := 0) (cnt := 2) (n := n) (by decide) (by decide) (sign := sign) (fp := f0) (fun C1 B1 _ v hv => hf0 C1 B1 v hv)).2 o0
    · obtain ⟨R', b1, b2⟩ := (hm P' sw' R X' B k h19).2.2 o0
      exact ⟨R', b1, (fun q => by cases q), fun _ => b2⟩
/-! validity -/
theorem up_lt {f : Nat → Nat} {p v n B : Nat} (h : ∀ q, q < n → f q < B) (hv : v < B) : ∀ q, q < n → upN f p v q < B := fun q hq => by
  unfold upN
  split
  · exact hv
  · exact h q hq
theorem vP (V : VBB g d) (hnp : g_np g < 6) {a v : Nat} (hv : fH v = true) : VBB (gP g) (dP g d a v) := by
  obtain ⟨⟨v1, v2, v3, v4, v5⟩, w1, w2, w3, w4, w5, w6⟩ := V
  have hh : v < 6 ∨ v = 9 := by
    unfold fH at hv
    rw [Bool.or_eq_true, decide_eq_true_eq, beq_iff_eq] at hv
    exact hv
  refine ⟨⟨by show g_np g + 1 ≤ 6; omega, v2, fun p hp b hb => ?_, fun p hp => ?_, v5⟩, w1, ?_, w3, fun p hp => ?_, fun r hr => ?_, fun i hi => ?_⟩
  · have hp' : p < g_np g + 1 := hp
    change upB (g_bed g) (g_np g) none p = some b at hb
    unfold upB at hb
    by_cases h : p = g_np g
    · rw [if_pos h] at hb; cases hb
    · rw [if_neg h] at hb; exact v3 p (by omega) b hb
  · have hp' : p < g_np g + 1 := hp
    show upN (g_want g) (g_np g) 0 p < 2 ^ g_nr g
    unfold upN
    by_cases h : p = g_np g
    · rw [if_pos h]; exact Nat.two_pow_pos _
    · rw [if_neg h]; exact v4 p (by omega)
  · show d_al d ||| (if a = 1 then 2 ^ g_np g else 0) < 2 ^ (g_np g + 1)
    refine Nat.or_lt_two_pow (Nat.lt_of_lt_of_le w2 (pow_b (by omega))) ?_
    split
    · exact Nat.pow_lt_pow_right (by decide) (by omega)
    · exact Nat.two_pow_pos _
  · have hp' : p < g_np g + 1 := hp
    show upN (d_heir d) (g_np g) v p < 6 ∨ upN (d_heir d) (g_np g) v p = 9
    unfold upN
    by_cases h : p = g_np g
    · rw [if_pos h]; exact hh
    · rw [if_neg h]; exact w4 p (by omega)
  · show d_left d r < g_np g + 1 ∨ d_left d r = 9
    have := w5 r hr
    omega
  · have := w6 i hi
    show d_ho d i < g_np g + 1 ∧ d_pl d i < g_nr g ∧ d_ti d i ≤ 99
    omega
theorem vR (V : VBB g d) (hnr : g_nr g < 7) {o : Nat} (ho : fO (g_np g) o = true) : VBB (gR g) (dR g d o) := by
  obtain ⟨⟨v1, v2, v3, v4, v5⟩, w1, w2, w3, w4, w5, w6⟩ := V
  have hh : o < g_np g ∨ o = 9 := by
    unfold fO at ho
    rw [Bool.or_eq_true, decide_eq_true_eq, beq_iff_eq] at ho
    exact ho
  have p2 : 2 ^ g_nr g ≤ 2 ^ (g_nr g + 1) := pow_b (by omega)
  refine ⟨⟨v1, by show g_nr g + 1 ≤ 7; omega, fun p hp b hb => ?_, fun p hp => Nat.lt_of_lt_of_le (v4 p hp) p2, fun r hr => ?_⟩, w1, w2, w3, w4, fun r hr => ?_, fun i hi => ?_⟩
  · have := v3 p hp b hb
    show b < g_nr g + 1
    omega
  · have hr' : r < g_nr g + 1 := hr
    show upN (g_door g) (g_nr g) 0 r < 2 ^ (g_nr g + 1)
    unfold upN
    by_cases h : r = g_nr g
    · rw [if_pos h]; exact Nat.two_pow_pos _
    · rw [if_neg h]; exact Nat.lt_of_lt_of_le (v5 r (by omega)) p2
  · have hr' : r < g_nr g + 1 := hr
    show upN (d_left d) (g_nr g) o r < g_np g ∨ upN (d_left d) (g_nr g) o r = 9
    unfold upN
    by_cases h : r = g_nr g
    · rw [if_pos h]; exact hh
    · rw [if_neg h]; exact w5 r (by omega)
  · have := w6 i hi
    show d_ho d i < g_np g ∧ d_pl d i < g_nr g + 1 ∧ d_ti d i ≤ 99
    omega
theorem vD (V : VBB g d) {a b : Nat} (ha : a < g_nr g) (hb : b < g_nr g) : VBB (gD g a b) d := by
  obtain ⟨⟨v1, v2, v3, v4, v5⟩, w⟩ := V
  exact ⟨⟨v1, v2, v3, v4, up_lt (up_lt v5 (Nat.or_lt_two_pow (v5 a ha) (Nat.pow_lt_pow_right (by decide) hb))) (Nat.or_lt_two_pow (v5 b hb) (Nat.pow_lt_pow_right (by decide) ha))⟩, w⟩
theorem vB (V : VBB g d) {p r : Nat} (hr : r < g_nr g) : VBB (gB g p r) d := by
  obtain ⟨⟨v1, v2, v3, v4, v5⟩, w⟩ := V
  refine ⟨⟨v1, v2, fun q hq b hb => ?_, v4, v5⟩, w⟩
  change upB (g_bed g) p (some r) q = some b at hb
  unfold upB at hb
  by_cases h : q = p
  · rw [if_pos h] at hb; cases hb; exact hr
  · rw [if_neg h] at hb; exact v3 q hq b hb
theorem vW (V : VBB g d) {p r : Nat} (hp : p < g_np g) (hr : r < g_nr g) : VBB (gW g p r) d := by
  obtain ⟨⟨v1, v2, v3, v4, v5⟩, w⟩ := V
  exact ⟨⟨v1, v2, v3, up_lt v4 (Nat.or_lt_two_pow (v4 p hp) (Nat.pow_lt_pow_right (by decide) hr)), v5⟩, w⟩
/-! the six -/
theorem numP (X : HX P sw T tl) {e : Nat} (he : e ≤ tl) (V : VBB g d) (hnp : g_np g < 6) : NUM T tl sw P g d e 112 2 (fun R => f_X10_readPerson R 47) :=
  num_2 X he (f0 := fA) (f1 := fun _ => fH) (g' := gP g) (d' := dP g d (vlT T tl e) (vlT T tl (nxT T tl e))) (fun C _ v hv => fitsA C _ v hv) (fun C _ _ v hv => fitsH C _ v hv) (fun o0 _ C B n0 n1 => c_tellP X B hnp (of_decide_eq_true (vl_fp o0)) n0 n1) (fun _ o1 => vP V hnp (vl_fp o1)) (fun _ _ _ X' B k h19 => m_readPerson X' B k h19 he hnp V.1.2.1 V.2.2.2.1)
theorem numR (X : HX P sw T tl) {e : Nat} (he : e ≤ tl) (V : VBB g d) (hnr : g_nr g < 7) : NUM T tl sw P g d e 114 1 (fun R => f_X10_readRoom R 47) :=
  num_1 X he (f0 := fO (g_np g)) (g' := gR g) (d' := dR g d (vlT T tl e)) (fun C B v hv => fitsO B V.1.1 v hv) (fun _ C B n0 => c_tellR X B hnr n0) (fun o => vR V hnr (vl_fp o)) (fun _ _ _ X' B k h19 => m_readRoom X' B k h19 he V.1.1 hnr V.2.2.2.1)
theorem numD (X : HX P sw T tl) {e : Nat} (he : e ≤ tl) (V : VBB g d) : NUM T tl sw P g d e 100 2 (fun R => f_X10_readDoor R 47) :=
  num_2 X he (f0 := fL (g_nr g)) (f1 := fun a => fD (g_nr g) a) (g' := gD g (vlT T tl e) (vlT T tl (nxT T tl e))) (d' := d) (fun C B v hv => fitsD0 B V.1.2.1 v hv) (fun C B h4 v hv => fitsD1 X B V.1.2.1 (vl_lt X he) h4 v hv) (fun o0 o1 C B n0 n1 => c_tellD X B V.1.2.1 (of_decide_eq_true (vl_fp o0)) (of_decide_eq_true (vl_fp (okT_D.mp o1).1)) (Ne.symm (okT_D.mp o1).2) n0 n1) (fun o0 o1 => vD V (of_decide_eq_true (vl_fp o0)) (of_decide_eq_true (vl_fp (okT_D.mp o1).1))) (fun _ _ _ X' B k h19 => m_readDoor X' B k h19 he V.1.2.1)
theorem numB (X : HX P sw T tl) {e : Nat} (he : e ≤ tl) (V : VBB g d) : NUM T tl sw P g d e 98 2 (fun R => f_X10_readPlace R 47 98) :=
  num_2 X he (f0 := fL (g_np g)) (f1 := fun _ => fL (g_nr g)) (g' := gB g (vlT T tl e) (vlT T tl (nxT T tl e))) (d' := d) (fun C B v hv => fitsG0 B V.1.1 (Or.inl rfl) v hv) (fun C B _ v hv => fitsG1 B V.1.2.1 (Or.inl rfl) v hv) (fun o0 _ C B n0 n1 => c_tellB X B V.1.1 (of_decide_eq_true (vl_fp o0)) n0 n1) (fun _ o1 => vB V (of_decide_eq_true (vl_fp o1))) (fun _ _ _ X' B k h19 => m_placeB X' B k h19 he V.1.1 V.1.2.1)
theorem numW (X : HX P sw T tl) {e : Nat} (he : e ≤ tl) (V : VBB g d) : NUM T tl sw P g d e 119 2 (fun R => f_X10_readPlace R 47 119) :=
  num_2 X he (f0 := fL (g_np g)) (f1 := fun _ => fL (g_nr g)) (g' := gW g (vlT T tl e) (vlT T tl (nxT T tl e))) (d' := d) (fun C B v hv => fitsG0 B V.1.1 (Or.inr (Or.inl rfl)) v hv) (fun C B _ v hv => fitsG1 B V.1.2.1 (Or.inr (Or.inl rfl)) v hv) (fun o0 o1 C B n0 n1 => c_tellW X B V.1.1 (of_decide_eq_true (vl_fp o0)) (by have h1 : vlT T tl (nxT T tl e) < g_nr g := of_decide_eq_true (vl_fp o1); have := V.1.2.1; omega) n0 n1) (fun o0 o1 => vW V (of_decide_eq_true (vl_fp o0)) (of_decide_eq_true (vl_fp o1))) (fun _ _ _ X' B k h19 => m_placeW X' B k h19 he V.1.1 V.1.2.1)
theorem numX (X : HX P sw T tl) {e : Nat} (he : e ≤ tl) (V : VBB g d) (hk : d_k d < 10) : NUM T tl sw P g d e 120 3 (fun R => f_X10_readPlace R 47 120) := by
  have h1 := nxT_le X.2.2.1 he
  have h2 := nxT_le X.2.2.1 h1.2
  have h3 := nxT_le X.2.2.1 h2.2
  have f0 : ∀ C, CB sw P C g d → ∀ v, v < 1000 → f_X6_fits C 1 120 (nI 0) (nI v) (hs (!sw)) = some (fL (g_np g) v) := fun C B v hv => fitsG0 B V.1.1 (Or.inr (Or.inr rfl)) v hv
  have f1 : ∀ C, CB sw P C g d → ∀ v, v < 1000 → f_X6_fits C 1 120 (nI 1) (nI v) (hs (!sw)) = some (fL (g_nr g) v) := fun C B v hv => fitsG1 B V.1.2.1 (Or.inr (Or.inr rfl)) v hv
  by_cases o0 : okT T tl (fL (g_np g)) e
  · by_cases o1 : okT T tl (fL (g_nr g)) (nxT T tl e)
    · by_cases o2 : okT T tl fU (nxT T tl (nxT T tl e))
      · have hp : vlT T tl e < g_np g := of_decide_eq_true (vl_fp o0)
        have hr : vlT T tl (nxT T tl e) < g_nr g := of_decide_eq_true (vl_fp o1)
        have hu : vlT T tl (nxT T tl (nxT T tl e)) ≤ 99 := of_decide_eq_true (vl_fp o2)
        refine ⟨true, nxT T tl (nxT T tl (nxT T tl e)), g, sGr d (vlT T tl e) (vlT T tl (nxT T tl e)) (vlT T tl (nxT T tl (nxT T tl e))), h3.2, fun _ => ⟨⟨V.1, V.2.gr hk hp hr hu⟩, by omega⟩, fun C n K0 K1 B h5 hn => ⟨fun _ => ?_, fun q => by cases q⟩, fun P' sw' R X' B k h19 => ?_⟩
        · obtain ⟨n, rfl⟩ := pre_n (show 0 < n by omega)
          obtain ⟨n, rfl⟩ := pre_n (show 0 < n by omega)
          obtain ⟨n, rfl⟩ := pre_n (show 0 < n by omega)
          obtain ⟨C2, a1, a2, a3, a4, a5⟩ := (c_rn X K0 K1 B h5 he (i := 0) (cnt := 3) (n := n + 1 + 1) (by decide) (by decide) (sign := 120) (fp := fL (g_np g)) (fun C1 B1 _ v hv => f0 C1 B1 v hv)).1 o0
          obtain ⟨C3, b1, b2, b3, b4, b5⟩ := (c_rn X K0 K1 a2 a3 h1.2 (i := 1) (cnt := 3) (n := n + 1) (by decide) (by decide) (sign := 120) (fp := fL (g_nr g)) (fun C1 B1 _ v hv => f1 C1 B1 v hv)).1 o1
          obtain ⟨C4, c1, c2, c3, c4, c5⟩ := (c_rn X K0 K1 b2 b3 h2.2 (i := 2) (cnt := 3) (n := n) (by decide) (by decide) (sign := 120) (fp := fU) (fun C1 B1 _ v hv => fitsG2 C1 _ v hv)).1 o2
          refine ⟨C4, a1.trans (b1.trans (c1.trans (L43_end K0 K1 120 _ 3 n C4 (by decide) (by omega)))), c2, c3, fun C5 B5 e4 => c_tellX X B5 hk ?_ ?_ ?_⟩
          · rw [e4, c5 0 (by decide), b5 0 (by decide)]; exact a4
          · rw [e4, c5 1 (by decide)]; exact b4
          · rw [e4]; exact c4
        · obtain ⟨R', b1, b2⟩ := (m_placeX X' B k h19 he V.1.1 V.1.2.1 hk).1 ⟨o0, o1, o2⟩
          exact ⟨R', b1, fun _ => b2, fun q => by cases q⟩
      · refine ⟨false, tst T tl (nxT T tl (nxT T tl e)), g, d, (tst_le T h2.2).2, (fun q => by cases q), fun C n K0 K1 B h5 hn => ⟨(fun q => by cases q), fun _ => ?_⟩, fun P' sw' R X' B k h19 => ?_⟩
        · obtain ⟨n, rfl⟩ := pre_n (show 0 < n by omega)
          obtain ⟨n, rfl⟩ := pre_n (show 0 < n by omega)
          obtain ⟨n, rfl⟩ := pre_n (show 0 < n by omega)
          obtain ⟨C2, a1, a2, a3, a4, a5⟩ := (c_rn X K0 K1 B h5 he (i := 0) (cnt := 3) (n := n + 1 + 1) (by decide) (by decide) (sign := 120) (fp := fL (g_np g)) (fun C1 B1 _ v hv => f0 C1 B1 v hv)).1 o0
          obtain ⟨C3, b1, b2, b3, b4, b5⟩ := (c_rn X K0 K1 a2 a3 h1.2 (i := 1) (cnt := 3) (n := n + 1) (by decide) (by decide) (sign := 120) (fp := fL (g_nr g)) (fun C1 B1 _ v hv => f1 C1 B1 v hv)).1 o1
          obtain ⟨C4, c1, c2, c3⟩ := (c_rn X K0 K1 b2 b3 h2.2 (i := 2) (cnt := 3) (n := n) (by decide) (by decide) (sign := 120) (fp := fU) (fun C1 B1 _ v hv => fitsG2 C1 _ v hv)).2 o2
          exact ⟨C4, a1.trans (b1.trans c1), c2, c3⟩
        · obtain ⟨R', b1, b2⟩ := (m_placeX X' B k h19 he V.1.1 V.1.2.1 hk).2.1 ⟨o0, o1, o2⟩
          exact ⟨R', b1, (fun q => by cases q), fun _ => b2⟩
    · refine ⟨false, tst T tl (nxT T tl e), g, d, (tst_le T h1.2).2, (fun q => by cases q), fun C n K0 K1 B h5 hn => ⟨(fun q => by cases q), fun _ => ?_⟩, fun P' sw' R X' B k h19 => ?_⟩
      · obtain ⟨n, rfl⟩ := pre_n (show 0 < n by omega)
        obtain ⟨n, rfl⟩ := pre_n (show 0 < n by omega)
        obtain ⟨C2, a1, a2, a3, a4, a5⟩ := (c_rn X K0 K1 B h5 he (i := 0) (cnt := 3) (n := n + 1) (by decide) (by decide) (sign := 120) (fp := fL (g_np g)) (fun C1 B1 _ v hv => f0 C1 B1 v hv)).1 o0
        obtain ⟨C3, b1, b2, b3⟩ := (c_rn X K0 K1 a2 a3 h1.2 (i := 1) (cnt := 3) (n := n) (by decide) (by decide) (sign := 120) (fp := fL (g_nr g)) (fun C1 B1 _ v hv => f1 C1 B1 v hv)).2 o1
        exact ⟨C3, a1.trans b1, b2, b3⟩
      · obtain ⟨R', b1, b2⟩ := (m_placeX X' B k h19 he V.1.1 V.1.2.1 hk).2.2.1 ⟨o0, o1⟩
        exact ⟨R', b1, (fun q => by cases q), fun _ => b2⟩
  · refine ⟨false, tst T tl e, g, d, (tst_le T he).2, (fun q => by cases q), fun C n K0 K1 B h5 hn => ⟨(fun q => by cases q), fun _ => ?_⟩, fun P' sw' R X' B k h19 => ?_⟩
    · obtain ⟨n, rfl⟩ := pre_n (show 0 < n by omega)
      exact (c_rn X K0 K1 B h5 he (i := 0) (cnt := 3) (n := n) (by decide) (by decide) (sign := 120) (fp := fL (g_np g)) (fun C1 B1 _ v hv => f0 C1 B1 v hv)).2 o0
    · obtain ⟨R', b1, b2⟩ := (m_placeX X' B k h19 he V.1.1 V.1.2.1 hk).2.2.2 o0
      exact ⟨R', b1, (fun q => by cases q), fun _ => b2⟩
end ITM
