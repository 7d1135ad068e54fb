/-! holdsOut -/
section WAYS
variable {P : PH} {sw : Bool} {g : SG} {d : SD} {hist : List (Nat × Nat × Nat)} {m sn tl : Nat}
def ENS (g : SG) (d : SD) (r : Nat) : En := (g_np g, g_nr g, g_bed g, g_want g, g_door g, d_heir d, d_left d, d_al d, d_k d, d_ho d, d_pl d, fun i => decide (d_day d ≤ d_ti d i) && !(d_pl d i == r))
theorem VES_of (hg : VG g) (hd : VD (g_np g) (g_nr g) d) (r : Nat) : VE (ENS g d r) := by
  have h6 := hg.1
  refine ⟨hg.1, hg.2.1, hd.2.1, hd.2.2.1, fun p hp => ?_, fun r hr => ?_, hg.2.2.1, hg.2.2.2.1, hg.2.2.2.2, fun i hi => ⟨(hd.2.2.2.2.2 i hi).1, (hd.2.2.2.2.2 i hi).2.1⟩⟩
  · show d_heir d p < 10
    rcases hd.2.2.2.1 p hp with h | h <;> omega
  · show d_left d r < 10
    rcases hd.2.2.2.2.1 r hr with h | h <;> omega
theorem SRx.ves (h : SRx P sw g d hist m sn tl) (r : Nat) : VE (ENS g d r) := VES_of h.2.1 h.2.2.1 r
theorem SRx.coks (h : SRx P sw g d hist m sn tl) (r : Nat) : COK P (hs sw) (P.1 (P.2.2 (hs sw) 5) 0) (2 ^ r) (ENS g d r) := by
  intro i hi
  have hd := h.2.2.1
  rw [h.day, h.ti i hi]
  show (decide (d_day d ≤ d_ti d i) && !(d_pl d i == r)) = true ↔ nI (d_day d) ≤ nI (d_ti d i) ∧ (2 ^ r).testBit (d_pl d i) = false
  rw [Bool.and_eq_true, decide_eq_true_eq, nI_leI (by have := hd.1; omega) (by have := (hd.2.2.2.2.2 i hi).2.2; omega), Nat.testBit_two_pow, Bool.not_eq_true', beq_eq_false_iff_ne, decide_eq_false_iff_not]
  constructor
  · rintro ⟨a, b⟩; exact ⟨a, fun q => b q.symm⟩
  · rintro ⟨a, b⟩; exact ⟨a, fun q => b q.symm⟩
/-- the till days of the model, those of a room's rights up to the j-th one gone -/
def NS (f : Nat → Int32) (g : SG) (d : SD) (r j : Nat) : Prop := f 0 = nI (d_day d) ∧ f 1 = nI (d_al d) ∧ (∀ p, p < g_np g → f (2 + p) = nI (d_heir d p)) ∧ (∀ r, r < g_nr g → f (8 + r) = nI (d_left d r)) ∧ f 15 = nI (d_k d) ∧ (∀ i, i < d_k d → f (16 + 3 * i) = nI (d_ho d i) ∧ f (17 + 3 * i) = nI (d_pl d i) ∧ f (18 + 3 * i) = (if i < j ∧ d_pl d i = r then (-1 : Int32) else nI (d_ti d i)))
theorem NS.of {f : Nat → Int32} (r : Nat) (h : MD f (g_np g) (g_nr g) d) : NS f g d r 0 := by
  obtain ⟨a1, a2, a3, a4, a5, a6⟩ := h
  refine ⟨a1, a2, a3, a4, a5, fun i hi => ⟨(a6 i hi).1, (a6 i hi).2.1, ?_⟩⟩
  rw [if_neg (by omega)]
  exact (a6 i hi).2.2
theorem NS.me {R : PH} {r : Nat} (hm : MR R) (hg : MG R.1 g) (hd : VD (g_np g) (g_nr g) d) (h : NS (R.1 61) g d r (d_k d)) : ME R (ENS g d r) := by
  obtain ⟨a1, a2, a3, a4, a5, a6⟩ := h
  refine ⟨hm, hg.1, hg.2.1, hg.2.2.1, hg.2.2.2.1, hg.2.2.2.2, a2, a3, a4, a5, fun i hi => ⟨(a6 i hi).1, (a6 i hi).2.1, ?_⟩⟩
  rw [a1, (a6 i hi).2.2]
  show (decide (d_day d ≤ d_ti d i) && !(d_pl d i == r)) = true ↔ _
  have hi' : i < d_k d := hi
  by_cases hr : d_pl d i = r
  · rw [if_pos ⟨hi', hr⟩, beq_iff_eq.mpr hr, Bool.not_true, Bool.and_false]
    constructor
    · intro q; cases q
    · intro q
      exfalso
      have h1 := Int32.le_iff_toInt_le.mp q
      rw [nI_toInt (by have := hd.1; omega)] at h1
      have : (-1 : Int32).toInt = -1 := rfl
      omega
  · rw [if_neg (fun q => hr q.2), beq_false_of_ne hr, Bool.not_false, Bool.and_true, decide_eq_true_eq, nI_leI (by have := hd.1; omega) (by have := (hd.2.2.2.2.2 i hi).2.2; omega)]
theorem mg_sI {R : PH} {j : Nat} {v : Int32} (h : MG R.1 g) : MG (sI R 61 j v).1 g := by
  refine ⟨?_, ?_, ?_, ?_, ?_⟩
  · rw [s61_ne R j v (by decide)]; exact h.1
  · rw [s61_ne R j v (by decide)]; exact h.2.1
  · rw [s61_ne R j v (by decide)]; exact h.2.2.1
  · rw [s61_ne R j v (by decide)]; exact h.2.2.2.1
  · rw [s61_ne R j v (by decide)]; exact h.2.2.2.2
theorem NS.st {f : Nat → Int32} {r j : Nat} {v : Int32} (hnp : g_np g ≤ 6) (hnr : g_nr g ≤ 7) (h : NS f g d r j) (hv : v = (if d_pl d j = r then (-1 : Int32) else nI (d_ti d j))) : NS (upd f (18 + 3 * j) v) g d r (j + 1) := by
  obtain ⟨a1, a2, a3, a4, a5, a6⟩ := h
  refine ⟨(upd_ne (by omega)).trans a1, (upd_ne (by omega)).trans a2, fun p hp => (upd_ne (by omega)).trans (a3 p hp), fun r hr => (upd_ne (by omega)).trans (a4 r hr), (upd_ne (by omega)).trans a5, fun i hi => ⟨(upd_ne (by omega)).trans (a6 i hi).1, (upd_ne (by omega)).trans (a6 i hi).2.1, ?_⟩⟩
  by_cases hij : i = j
  · subst hij
    rw [upd_eq, hv]
    by_cases hr : d_pl d i = r
    · rw [if_pos hr, if_pos ⟨by omega, hr⟩]
    · rw [if_neg hr, if_neg (fun q => hr q.2)]
  · rw [upd_ne (by omega), (a6 i hi).2.2]
    by_cases hr : i < j ∧ d_pl d i = r
    · rw [if_pos hr, if_pos ⟨by omega, hr.2⟩]
    · rw [if_neg hr, if_neg (fun q => hr ⟨by omega, q.2⟩)]
theorem m_ho_in (h : SRx P sw g d hist m sn tl) (K : PH → Option (Int32 × PH)) (x1 x2 : Int32) {r : Nat} (hr : r < g_nr g) : ∀ k j n (R : PH), MR R → MG R.1 g → NS (R.1 61) g d r j → Ag sw P R → j + k = d_k d → k < n → ∃ R', f_X10_holdsOut_L31 K 47 x1 x2 (nI r) n R (nI j) = K R' ∧ MR R' ∧ MG R'.1 g ∧ NS (R'.1 61) g d r (d_k d) ∧ Ag sw P R' := by
  have hnp := h.np
  have hnr := h.nr
  have hk := h.2.2.1.2.2.1
  intro k
  induction k with
  | zero =>
    intro j n R M G N A hj hn
    obtain ⟨n, rfl⟩ := pre_n hn
    unfold f_X10_holdsOut_L31
    rw [g_15, t_15, mr_now M, N.2.2.2.2.1, if_pos (nI_le (by omega) (by omega))]
    rw [show j = d_k d by omega] at N
    exact ⟨R, rfl, M, G, N, A⟩
  | succ k ih =>
    intro j n R M G N A hj hn
    obtain ⟨n, rfl⟩ := pre_n hn
    obtain ⟨n1, n2, n3⟩ := N.2.2.2.2.2 j (by omega)
    have hpl := (h.2.2.1.2.2.2.2.2 j (by omega)).2.1
    unfold f_X10_holdsOut_L31
    rw [g_15, t_15, mr_now M, N.2.2.2.2.1, if_neg (nI_ge (by omega) (by omega)), show (16 : Int32) = nI 16 from rfl, show (3 : Int32) = nI 3 from rfl, show (2 : Int32) = nI 2 from rfl, pk_mul, nI_add, nI_1, nI_add, nI_1, show 16 + 3 * j + 1 = 17 + 3 * j by omega, show 16 + 3 * j + 2 = 18 + 3 * j by omega, gd (by omega) (by decide), gd (by omega) (by decide), gd (by omega) (by decide), gd (by omega) (by decide), nI_clamp (by omega), nI_clamp (by omega), n2, Option.bind_some, Option.bind_some]
    by_cases hc : d_pl d j = r
    · rw [if_pos (by rw [hc])]
      exact ih (j + 1) n (sI R 61 (18 + 3 * j) (-1)) M (mg_sI G) (by rw [s61_eq]; exact N.st hnp hnr (by rw [if_pos hc])) (A.tr (s61_ag sw R _ _)) (by omega) (by omega)
    · rw [if_neg (fun q => hc ((nI_eq (by omega) (by omega)).mp q))]
      refine ih (j + 1) n (sI R 61 (18 + 3 * j) (R.1 61 (18 + 3 * j))) M (mg_sI G) (by rw [s61_eq]; exact N.st hnp hnr (by rw [if_neg hc, n3, if_neg (fun q => hc q.2)])) (A.tr (s61_ag sw R _ _)) (by omega) (by omega)
def hoF (g : SG) (d : SD) (r : Nat) : Bool := decide (pop 7 (cut (ENV g d)) < pop 7 (cut (ENS g d r)))
theorem cut_128 {e : En} (V : VE e) : cut e < 128 := Nat.lt_of_lt_of_le (bs_lt _ _) (pow_b (n := e_np e) (m := 7) (by have := V.1; omega))
theorem c_ho_L (h : SRx P sw g d hist m sn tl) (K : Int32 → Option Int32) : ∀ k j n acc, j + k = g_nr g → k < n → f_X3_roomsHeldByRight_L13 K P (hs sw) (nI (pop 7 (cut (ENV g d)))) n (nI acc) (nI j) = K (nI (acc ||| br (hoF g d) k j)) := by
  have hnr := h.nr
  intro k
  induction k with
  | zero =>
    intro j n acc hj hn
    obtain ⟨n, rfl⟩ := pre_n hn
    unfold f_X3_roomsHeldByRight_L13 br
    rw [h.2.2.2.1.2.1, if_pos (nI_le (by omega) (by omega)), Nat.or_zero]
  | succ k ih =>
    intro j n acc hj hn
    obtain ⟨n, rfl⟩ := pre_n hn
    have p1 := pop_le 7 (cut (ENV g d))
    have p2 := pop_le 7 (cut (ENS g d j))
    have hc := c_cutOff (P := P) (h := hs sw) (e := ENS g d j) (h.ves j) (h.ceg rfl rfl rfl rfl rfl rfl rfl rfl rfl rfl) (h.coks j) h.al
    unfold f_X3_roomsHeldByRight_L13
    rw [h.2.2.2.1.2.1, if_neg (nI_ge (by omega) (by omega)), mb_sh (by omega), hc, Option.bind_some, bitCount_eq P (cut_128 (h.ves j)), Option.bind_some, ← br_or, nI_1, fa_or, show hoF g d j = decide (pop 7 (cut (ENV g d)) < pop 7 (cut (ENS g d j))) from rfl]
    by_cases hl : pop 7 (cut (ENV g d)) < pop 7 (cut (ENS g d j))
    · rw [if_neg (nI_ge hl (by omega)), if_pos (decide_eq_true hl), ih _ _ _ (by omega) (by omega)]
    · rw [if_pos (nI_le (by omega) (by omega)), if_neg (by rw [decide_eq_false hl]; decide), ih _ _ _ (by omega) (by omega)]
theorem m_ho_L (h : SRx P sw g d hist m sn tl) (K : PH → Int32 → Option (Int32 × PH)) : ∀ k j n acc (R : PH), MR R → Ag sw P R → j + k = g_nr g → k < n → ∃ R', f_X10_holdsOut_L16 K 47 (nI (pop 7 (cut (ENV g d)))) n R (nI acc) (nI j) = K R' (nI (acc ||| br (hoF g d) k j)) ∧ Ag sw P R' := by
  have hnr := h.nr
  intro k
  induction k with
  | zero =>
    intro j n acc R M A hj hn
    obtain ⟨n, rfl⟩ := pre_n hn
    unfold f_X10_holdsOut_L16 br
    rw [(h.ag A).2.2.2.2.1.2.1, if_pos (nI_le (by omega) (by omega)), Nat.or_zero]
    exact ⟨R, rfl, A⟩
  | succ k ih =>
    intro j n acc R M A hj hn
    obtain ⟨n, rfl⟩ := pre_n hn
    have p1 := pop_le 7 (cut (ENV g d))
    have p2 := pop_le 7 (cut (ENS g d j))
    have hmm := (h.ag A).mm
    obtain ⟨R1, b1, b2, b3, b4, b5⟩ := m_ho_in h (fun P8 => ((f_X10_cutOff P8 47).bind fun q9 => ((f_X10_bits q9.2 q9.1).bind fun q10 => (if q10 ≤ (nI (pop 7 (cut (ENV g d)))) then f_X10_holdsOut_L16 K 47 (nI (pop 7 (cut (ENV g d)))) n q9.2 ((nI acc) ||| (0 : Int32)) (nI j + (1 : Int32)) else f_X10_holdsOut_L16 K 47 (nI (pop 7 (cut (ENV g d)))) n q9.2 ((nI acc) ||| ((1 : Int32) <<< ((nI j) &&& 31))) (nI j + (1 : Int32)))))) (nI (pop 7 (cut (ENV g d)))) (nI acc) (r := j) (by omega) (d_k d) 0 1000 (asI R) hmm.1 hmm.2.1 (NS.of j hmm.2.2) (A.tr (asI_ag sw R)) (by omega) (by have := h.2.2.1.2.2.1; omega)
    obtain ⟨R2, c1, c2⟩ := m_cutOff (NS.me b2 b3 h.2.2.1 b4) (h.ves j)
    have A2 := b5.tr (c2.ag sw)
    unfold f_X10_holdsOut_L16
    rw [(h.ag A).2.2.2.2.1.2.1, if_neg (nI_ge (by omega) (by omega)), asI_eq M, Option.bind_some, ← br_or, show hoF g d j = decide (pop 7 (cut (ENV g d)) < pop 7 (cut (ENS g d j))) from rfl]
    have e1 : f_X10_bits R2 (nI (cut (ENS g d j))) = some (nI (pop 7 (cut (ENS g d j)))) := bits_eq R2 (cut_128 (h.ves j))
    by_cases hl : pop 7 (cut (ENV g d)) < pop 7 (cut (ENS g d j))
    · obtain ⟨R', d1, d2⟩ := ih (j + 1) n (acc ||| 2 ^ j) R2 (c2.mr b2) A2 (by omega) (by omega)
      rw [if_pos (decide_eq_true hl)]
      refine ⟨R', b1.trans ?_, d2⟩
      rw [c1, Option.bind_some]
      show ((f_X10_bits R2 (nI (cut (ENS g d j)))).bind _) = _
      rw [e1, Option.bind_some, if_neg (nI_ge hl (by omega)), mb_sh (by omega), fa_or, nI_1]
      exact d1
    · obtain ⟨R', d1, d2⟩ := ih (j + 1) n acc R2 (c2.mr b2) A2 (by omega) (by omega)
      rw [if_neg (by rw [decide_eq_false hl]; decide)]
      refine ⟨R', b1.trans ?_, d2⟩
      rw [c1, Option.bind_some]
      show ((f_X10_bits R2 (nI (cut (ENS g d j)))).bind _) = _
      rw [e1, Option.bind_some, if_pos (nI_le (by omega) (by omega)), or_0, nI_1]
      exact d1
theorem q_holdsOut (h : SRx P sw g d hist m sn tl) : QOK P sw (f_X9_holdsOut P 0) (f_X10_holdsOut P 47) := by
  have hnr := h.nr
  have V := h.ve
  obtain ⟨R1, c1, c2⟩ := m_cutOff h.me V
  have A1 := (asI_ag sw P).tr (c2.ag sw)
  obtain ⟨R', d1, d2⟩ := m_ho_L h (fun P15 v14 => some (v14, P15)) (g_nr g) 0 1000 0 R1 (c2.mr h.mr) A1 (by omega) (by omega)
  have hC := c_ho_L h (fun v => some v) (g_nr g) 0 1000 0 (by omega) (by omega)
  have hc := c_cutOff V h.ce h.cok h.al
  unfold f_X9_holdsOut f_X10_holdsOut f_X3_roomsHeldByRight
  rw [bind_id, asI_eq h.mr, Option.bind_some, c1, Option.bind_some, h.house, show (0 : Int32) = nI 0 from rfl, hc, Option.bind_some, bitCount_eq P (cut_128 V), Option.bind_some]
  refine ⟨_, R', hC, ?_, d2⟩
  show ((f_X10_bits R1 (nI (cut (ENV g d)))).bind _) = _
  rw [bits_eq R1 (cut_128 V), Option.bind_some]
  exact d1
end WAYS
