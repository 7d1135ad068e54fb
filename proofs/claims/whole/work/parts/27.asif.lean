/-! as if it were another day, as if others were alive -/
def sDay (d : SD) (t : Nat) : SD := (t, d_al d, d_k d, d_heir d, d_left d, d_ho d, d_pl d, d_ti d)
def sAl (d : SD) (a : Nat) : SD := (d_day d, a, d_k d, d_heir d, d_left d, d_ho d, d_pl d, d_ti d)
def sLeft (d : SD) (f : Nat → Nat) : SD := (d_day d, d_al d, d_k d, d_heir d, f, d_ho d, d_pl d, d_ti d)
def sHeir (d : SD) (f : Nat → Nat) : SD := (d_day d, d_al d, d_k d, f, d_left d, d_ho d, d_pl d, d_ti d)
def MM (P : PH) (g : SG) (d : SD) : Prop := MR P ∧ MG P.1 g ∧ MD (P.1 61) (g_np g) (g_nr g) d
theorem Eqc.mm {P P' : PH} {g : SG} {d : SD} (a : Eqc P P') (h : MM P g d) : MM P' g d := by
  obtain ⟨h1, h2, h3⟩ := h
  refine ⟨a.mr h1, ⟨(a.2.2 0 (by decide)).trans h2.1, (a.2.2 1 (by decide)).trans h2.2.1, ?_, ?_, ?_⟩, ?_⟩
  · rw [a.2.1 48 (by decide)]; exact h2.2.2.1
  · rw [a.2.1 49 (by decide)]; exact h2.2.2.2.1
  · rw [a.2.1 50 (by decide)]; exact h2.2.2.2.2
  · rw [a.2.1 61 (by decide)]; exact h3
theorem mm_me {P : PH} {g : SG} {d : SD} (h : MM P g d) (hday : d_day d < 1000) (hti : ∀ i, i < d_k d → d_ti d i < 1000) : ME P (ENV g d) := by
  obtain ⟨h1, h2, h3⟩ := h
  refine ⟨h1, h2.1, h2.2.1, h2.2.2.1, h2.2.2.2.1, h2.2.2.2.2, h3.2.1, h3.2.2.1, h3.2.2.2.1, h3.2.2.2.2.1, fun i hi => ⟨(h3.2.2.2.2.2 i hi).1, (h3.2.2.2.2.2 i hi).2.1, ?_⟩⟩
  rw [h3.1, (h3.2.2.2.2.2 i hi).2.2]
  show decide (d_day d ≤ d_ti d i) = true ↔ _
  rw [decide_eq_true_eq, nI_leI (by omega) (by have := hti i hi; omega)]
theorem s61_ne (P : PH) (j : Nat) (v : Int32) {c : Nat} (h : c ≠ 61) : (sI P 61 j v).1 c = P.1 c := sA_ne h
theorem s61_eq (P : PH) (j : Nat) (v : Int32) : (sI P 61 j v).1 61 = upd (P.1 61) j v := by unfold sI; exact sA_eq
theorem s61_ag (sw : Bool) (P : PH) (j : Nat) (v : Int32) : Ag sw P (sI P 61 j v) := by
  refine ⟨rfl, fun c k hr => ?_⟩
  by_cases hc : c = 61
  · subst hc
    cases sw <;> cases hr
  · rw [s61_ne P j v hc]
theorem s61_mm {P : PH} {g : SG} {d d' : SD} (j : Nat) (v : Int32) (h : MM P g d) (h' : MD (upd (P.1 61) j v) (g_np g) (g_nr g) d') : MM (sI P 61 j v) g d' := by
  obtain ⟨h1, h2, -⟩ := h
  refine ⟨h1, ⟨?_, ?_, ?_, ?_, ?_⟩, ?_⟩
  · rw [s61_ne P j v (by decide)]; exact h2.1
  · rw [s61_ne P j v (by decide)]; exact h2.2.1
  · rw [s61_ne P j v (by decide)]; exact h2.2.2.1
  · rw [s61_ne P j v (by decide)]; exact h2.2.2.2.1
  · rw [s61_ne P j v (by decide)]; exact h2.2.2.2.2
  · rw [s61_eq]; exact h'
theorem upd_ne {f : Nat → Int32} {k j : Nat} {x : Int32} (h : j ≠ k) : upd f k x j = f j := pk_un h
theorem upd_eq {f : Nat → Int32} {k : Nat} {x : Int32} : upd f k x k = x := pk_us
theorem MD.day {f : Nat → Int32} {np nr : Nat} {d : SD} (h : MD f np nr d) (t : Nat) : MD (upd f 0 (nI t)) np nr (sDay d t) :=
  ⟨upd_eq, (upd_ne (by decide)).trans h.2.1, fun p hp => (upd_ne (by omega)).trans (h.2.2.1 p hp), fun r hr => (upd_ne (by omega)).trans (h.2.2.2.1 r hr), (upd_ne (by decide)).trans h.2.2.2.2.1, fun i hi => ⟨(upd_ne (by omega)).trans (h.2.2.2.2.2 i hi).1, (upd_ne (by omega)).trans (h.2.2.2.2.2 i hi).2.1, (upd_ne (by omega)).trans (h.2.2.2.2.2 i hi).2.2⟩⟩
theorem MD.al {f : Nat → Int32} {np nr : Nat} {d : SD} (h : MD f np nr d) (a : Nat) : MD (upd f 1 (nI a)) np nr (sAl d a) :=
  ⟨(upd_ne (by decide)).trans h.1, upd_eq, fun p hp => (upd_ne (by omega)).trans (h.2.2.1 p hp), fun r hr => (upd_ne (by omega)).trans (h.2.2.2.1 r hr), (upd_ne (by decide)).trans h.2.2.2.2.1, fun i hi => ⟨(upd_ne (by omega)).trans (h.2.2.2.2.2 i hi).1, (upd_ne (by omega)).trans (h.2.2.2.2.2 i hi).2.1, (upd_ne (by omega)).trans (h.2.2.2.2.2 i hi).2.2⟩⟩
section ASIF
variable {P : PH} {sw : Bool} {g : SG} {d : SD} {hist : List (Nat × Nat × Nat)} {m sn tl : Nat}
theorem SRx.mm (h : SRx P sw g d hist m sn tl) : MM (asI P) g d := by
  have hmr := h.mr
  obtain ⟨-, hg, hd, -, h5, -, h7, -⟩ := h
  refine ⟨hmr, ⟨?_, ?_, ?_, ?_, ?_⟩, h7.ag hg.1 hg.2.1 hd.2.2.1 (fun j hj => asI_61 P hj)⟩
  · rw [asI_ne P (by decide)]; exact h5.1
  · rw [asI_ne P (by decide)]; exact h5.2.1
  · rw [asI_ne P (by decide)]; exact h5.2.2.1
  · rw [asI_ne P (by decide)]; exact h5.2.2.2.1
  · rw [asI_ne P (by decide)]; exact h5.2.2.2.2
theorem SRx.ceg (h : SRx P sw g d hist m sn tl) {e : En} (h1 : e_np e = g_np g) (h2 : e_nr e = g_nr g) (h3 : e_bed e = g_bed g) (h4 : e_want e = g_want g) (h5 : e_door e = g_door g) (h6 : e_heir e = d_heir d) (h7 : e_left e = d_left d) (h8 : e_k e = d_k d) (h9 : e_ho e = d_ho d) (h10 : e_pl e = d_pl d) : CE0 P (hs sw) e := by
  obtain ⟨a1, a2, a3, a4, a5, a6, a7, a8, a9⟩ := h.ce
  unfold CE0
  rw [h1, h2, h3, h4, h5, h6, h7, h8, h9, h10]
  exact ⟨a1, a2, a3, a4, a5, a6, a7, a8, a9⟩
theorem SRx.veg (h : SRx P sw g d hist m sn tl) {d' : SD} (h1 : VD (g_np g) (g_nr g) d') : VE (ENV g d') := VE_of h.2.1 h1
theorem SRx.vday (h : SRx P sw g d hist m sn tl) {t : Nat} (ht : t ≤ 99) : VD (g_np g) (g_nr g) (sDay d t) := ⟨ht, h.2.2.1.2.1, h.2.2.1.2.2.1, h.2.2.1.2.2.2.1, h.2.2.1.2.2.2.2.1, h.2.2.1.2.2.2.2.2⟩
theorem SRx.val (h : SRx P sw g d hist m sn tl) {a : Nat} (ha : a < 2 ^ g_np g) : VD (g_np g) (g_nr g) (sAl d a) := ⟨h.2.2.1.1, ha, h.2.2.1.2.2.1, h.2.2.1.2.2.2.1, h.2.2.1.2.2.2.2.1, h.2.2.1.2.2.2.2.2⟩
theorem SRx.til (h : SRx P sw g d hist m sn tl) : ∀ i, i < d_k d → d_ti d i < 1000 := fun i hi => by
  have := (h.2.2.1.2.2.2.2.2 i hi).2.2
  omega
theorem SRx.cokt (h : SRx P sw g d hist m sn tl) {t : Nat} (ht : t < 1000) : COK P (hs sw) (nI t) 0 (ENV g (sDay d t)) := by
  intro i hi
  rw [h.ti i hi]
  show decide (t ≤ d_ti d i) = true ↔ _
  rw [decide_eq_true_eq, nI_leI (by omega) (by have := h.til i hi; omega), Nat.zero_testBit]
  simp
def fwS (g : SG) (d : SD) (p : Nat) : Nat → Nat → Option Nat
  | 0, _ => none
  | n + 1, t => if cutB (ENV g (sDay d t)) p then some t else fwS g d p n (t + 1)
theorem c_fw_L (h : SRx P sw g d hist m sn tl) (K0 : Int32 → Option Int32) (K1 : Option Int32) {p : Nat} (hp : p < g_np g) : ∀ k t n, t + k = 100 → k < n → f_X3_firstDayCutOff_L8 K0 K1 P (hs sw) (nI p) n (nI t) = (fwS g d p k t).elim K1 (fun t => K0 (nI t)) := by
  intro k
  induction k with
  | zero =>
    intro t n ht hn
    obtain ⟨n, rfl⟩ := pre_n hn
    unfold f_X3_firstDayCutOff_L8 fwS
    rw [show t = 100 by omega, if_pos (by decide)]
    rfl
  | succ k ih =>
    intro t n ht hn
    obtain ⟨n, rfl⟩ := pre_n hn
    unfold f_X3_firstDayCutOff_L8 fwS
    have hc := c_isCutOff (P := P) (h := hs sw) (e := ENV g (sDay d t)) (day := nI t) (sil := 0) (h.veg (h.vday (by omega))) (h.ceg rfl rfl rfl rfl rfl rfl rfl rfl rfl rfl) (h.cokt (by omega)) hp
    rw [if_neg (fun q => by
      have := (nI_ltI (a := 99) (b := t) (by omega) (by omega)).mp q
      omega), h.al, show (0 : Int32) = nI 0 from rfl, show f_X2_isCutOff P (hs sw) (nI p) (nI (d_al d)) (nI t) (nI 0) = _ from hc, Option.bind_some]
    show (if b2i (cutB (ENV g (sDay d t)) p) = 0 then _ else _) = _
    rw [if_b2i]
    by_cases hb : cutB (ENV g (sDay d t)) p = true
    · rw [if_pos hb, if_pos hb]
      rfl
    · rw [if_neg hb, if_neg hb, nI_1]
      exact ih (t + 1) n (by omega) (by omega)
theorem m_fw_L (h : SRx P sw g d hist m sn tl) (K0 K1 : PH → Option (Int32 × PH)) {p : Nat} (hp : p < g_np g) : ∀ k t n (R : PH), MM R g (sDay d t) → Ag sw P R → t + k = 100 → k < n → ∃ R', f_X10_fromWhen_L14 K0 K1 47 (nI p) n R = (fwS g d p k t).elim (K1 R') (fun _ => K0 R') ∧ Ag sw P R' ∧ MR R' ∧ (∀ t', fwS g d p k t = some t' → R'.1 61 0 = nI t') := by
  intro k
  induction k with
  | zero =>
    intro t n R M A ht hn
    obtain ⟨n, rfl⟩ := pre_n hn
    unfold f_X10_fromWhen_L14 fwS
    rw [g_0, t_0, mr_now M.1, M.2.2.1, show d_day (sDay d t) = 100 from (by show t = 100; omega), if_pos (by decide)]
    exact ⟨R, rfl, A, M.1, fun t' ht' => by cases ht'⟩
  | succ k ih =>
    intro t n R M A ht hn
    obtain ⟨n, rfl⟩ := pre_n hn
    unfold f_X10_fromWhen_L14 fwS
    obtain ⟨R1, b1, b2⟩ := m_isCutOff (mm_me M (by show t < 1000; omega) h.til) (h.veg (h.vday (by omega))) hp
    have M1 := b2.mm M
    have A1 := A.tr (b2.ag sw)
    rw [g_0, t_0, mr_now M.1, M.2.2.1, if_neg (fun q => by
      have := (nI_ltI (a := 99) (b := t) (by omega) (by omega)).mp q
      omega), b1, Option.bind_some, if_b2i]
    by_cases hb : cutB (ENV g (sDay d t)) p = true
    · rw [if_pos hb, if_pos hb]
      exact ⟨R1, rfl, A1, M1.1, fun t' ht' => by cases ht'; exact M1.2.2.1⟩
    · rw [if_neg hb, if_neg hb]
      show ∃ R', (if ((0 : Int32) < 0 ∨ 46 ≤ (0 : Int32).toNatClampNeg) then none else (if ((0 : Int32) < 0 ∨ 46 ≤ (0 : Int32).toNatClampNeg) then none else ((some (sI R1 (R1.2.2 47 26) (0 : Int32).toNatClampNeg ((R1.1 (R1.2.2 47 26) (0 : Int32).toNatClampNeg) + (1 : Int32)))).bind fun P4 => f_X10_fromWhen_L14 K0 K1 47 (nI p) n P4))) = _ ∧ _
      rw [g_0, g_0, t_0, Option.bind_some, mr_now M1.1, M1.2.2.1]
      obtain ⟨R', c1, c2, c3, c4⟩ := ih (t + 1) n (sI R1 61 0 (nI t + 1)) (by
        rw [nI_1]
        exact s61_mm 0 _ M1 (M1.2.2.day (t + 1))) (A1.tr (s61_ag sw R1 0 _)) (by omega) (by omega)
      exact ⟨R', c1, c2, c3, c4⟩
theorem q_fromWhen (h : SRx P sw g d hist m sn tl) (x : Int32) : QOK P sw (f_X9_fromWhen P 0 x) (f_X10_fromWhen P 47 x) := by
  have hnp := h.np
  have hd := h.2.2.1.1
  unfold f_X9_fromWhen f_X10_fromWhen
  rw [h.cP, h.mP, Option.bind_some, Option.bind_some, if_b2i, if_b2i]
  by_cases hx : ¬ x < 0 ∧ x < nI (g_np g)
  · obtain ⟨p, hp, rfl⟩ := isP_c (by omega) hx
    obtain ⟨R', c1, c2, c3, c4⟩ := m_fw_L h (fun P7 => (if ((0 : Int32) < 0 ∨ 46 ≤ (0 : Int32).toNatClampNeg) then none else some ((P7.1 (P7.2.2 47 26) (0 : Int32).toNatClampNeg), P7))) (fun P9 => some ((-9 : Int32), P9)) hp (100 - d_day d) (d_day d) 1000 (asI P) h.mm (asI_ag sw P) (by omega) (by omega)
    rw [if_pos (decide_eq_true hx), if_pos (decide_eq_true hx), asI_eq h.mr, Option.bind_some, c1]
    unfold f_X3_firstDayCutOff
    rw [h.house, h.day, c_fw_L h _ _ hp (100 - d_day d) (d_day d) 1000 (by omega) (by omega)]
    cases hf : fwS g d p (100 - d_day d) (d_day d) with
    | none => exact ⟨_, R', rfl, rfl, c2⟩
    | some t =>
      refine ⟨nI t, R', rfl, ?_, c2⟩
      show (if ((0 : Int32) < 0 ∨ 46 ≤ (0 : Int32).toNatClampNeg) then none else some ((R'.1 (R'.2.2 47 26) (0 : Int32).toNatClampNeg), R')) = _
      rw [g_0, t_0, mr_now c3, c4 t hf]
  · rw [if_neg (by rw [decide_eq_false hx]; decide), if_neg (by rw [decide_eq_false hx]; decide)]
    exact ⟨_, _, rfl, rfl, Ag.rf sw P⟩
/-! refusals of those who are dead -/
def rfI (g : SG) (d : SD) (x : Int32) : Int32 := if ¬ x < 0 ∧ x < nI (g_np g) then (if (d_al d).testBit x.toNatClampNeg then 0 else -2) else -1
theorem c_unless (h : SRx P sw g d hist m sn tl) (x : Int32) : f_X9_unlessAlive P 0 x = some (rfI g d x) := by
  have hnp := h.np
  unfold f_X9_unlessAlive rfI
  rw [h.cP, Option.bind_some, if_b2i]
  by_cases hx : ¬ x < 0 ∧ x < nI (g_np g)
  · obtain ⟨p, hp, rfl⟩ := isP_c (by omega) hx
    rw [if_pos (decide_eq_true hx), if_pos hx, c_lives h hp, Option.bind_some, if_b2i, nI_clamp (by omega)]
    cases (d_al d).testBit p <;> rfl
  · rw [if_neg (by rw [decide_eq_false hx]; decide), if_neg hx]
theorem m_refused (h : SRx P sw g d hist m sn tl) (x good : Int32) : f_X10_refused P 47 x good = some (if ¬ x < 0 ∧ x < nI (g_np g) then (if good = 0 then -1 else rfI g d x) else -1) := by
  have hnp := h.np
  unfold f_X10_refused
  rw [h.mP, Option.bind_some, if_b2i]
  by_cases hx : ¬ x < 0 ∧ x < nI (g_np g)
  · obtain ⟨p, hp, rfl⟩ := isP_c (by omega) hx
    rw [if_pos (decide_eq_true hx), if_pos hx]
    by_cases hg : good = 0
    · rw [if_pos hg, if_pos hg]
    · rw [if_neg hg, if_neg hg, g_1, t_1, h.mst, h.2.2.2.2.2.2.1.2.1, m_has h.alt (by omega), Option.bind_some, if_b2i]
      unfold rfI
      rw [if_pos hx, nI_clamp (by omega)]
      cases (d_al d).testBit p <;> rfl
  · rw [if_neg (by rw [decide_eq_false hx]; decide), if_neg hx]
theorem m_refused1 (h : SRx P sw g d hist m sn tl) (x : Int32) : f_X10_refused P 47 x 1 = some (rfI g d x) := by
  rw [m_refused h]
  by_cases hx : ¬ x < 0 ∧ x < nI (g_np g)
  · rw [if_pos hx, if_neg (by decide)]
  · rw [if_neg hx]
    unfold rfI
    rw [if_neg hx]
theorem rfI_0 {x : Int32} (h : rfI g d x = 0) (hnp : g_np g ≤ 6) : ∃ p, p < g_np g ∧ x = nI p ∧ (d_al d).testBit p = true := by
  unfold rfI at h
  by_cases hx : ¬ x < 0 ∧ x < nI (g_np g)
  · obtain ⟨p, hp, rfl⟩ := isP_c (by omega) hx
    rw [if_pos hx, nI_clamp (by omega)] at h
    refine ⟨p, hp, rfl, ?_⟩
    by_cases hb : (d_al d).testBit p = true
    · exact hb
    · rw [if_neg hb] at h
      cases h
  · rw [if_neg hx] at h
    cases h
theorem rfI_or (g : SG) (d : SD) (x : Int32) : rfI g d x = 0 ∨ (rfI g d x < 0 ∧ ¬ rfI g d x = 0) := by
  unfold rfI
  split
  · split
    · left; rfl
    · right; decide
  · right; decide
end ASIF
