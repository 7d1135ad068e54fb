/-! exchange, said: the class turns its own state and turns it back -/
def CSx (P : PH) (sw : Bool) (g : SG) (d : SD) : Prop := P.2.2 = rhoS sw ∧ VG g ∧ VD (g_np g) (g_nr g) d ∧ HG P.1 (hs sw) g ∧ NDc P.1 (ns sw) (g_np g) (g_nr g) d
theorem HG.fr {s s' : PI} {h : Nat} {g : SG} (H : HG s h g) (a : ∀ c, (c = h ∨ c = rho0 h 2 ∨ c = rho0 h 3 ∨ c = rho0 h 4) → s' c = s c) : HG s' h g := by
  obtain ⟨a1, a2, a3, a4, a5⟩ := H
  refine ⟨?_, ?_, ?_, ?_, ?_⟩
  · rw [a h (Or.inl rfl)]; exact a1
  · rw [a h (Or.inl rfl)]; exact a2
  · rw [a _ (Or.inr (Or.inr (Or.inl rfl)))]; exact a3
  · rw [a _ (Or.inr (Or.inr (Or.inr rfl)))]; exact a4
  · rw [a _ (Or.inr (Or.inl rfl))]; exact a5
def lc (sw : Bool) : Nat := rho0 (ns sw) 4
def hc (sw : Bool) : Nat := rho0 (ns sw) 3
def swF (f : Nat → Nat) (a b r : Nat) : Nat := if r = a then f b else if r = b then f a else f r
def upN (f : Nat → Nat) (p v q : Nat) : Nat := if q = p then v else f q
def swp (P : PH) (c a b : Nat) : PH := sI (sI P c a (P.1 c b)) c b (P.1 c a)
theorem sI_ne {P : PH} {c c' i : Nat} {v : Int32} (h : c' ≠ c) : (sI P c i v).1 c' = P.1 c' := sA_ne h
theorem sI_eq (P : PH) (c i : Nat) (v : Int32) : (sI P c i v).1 c = upd (P.1 c) i v := by unfold sI; exact sA_eq
theorem swp_ne {P : PH} {c c' a b : Nat} (h : c' ≠ c) : (swp P c a b).1 c' = P.1 c' := by unfold swp; rw [sI_ne h, sI_ne h]
theorem swp_eq (P : PH) (c a b j : Nat) : (swp P c a b).1 c j = if j = b then P.1 c a else if j = a then P.1 c b else P.1 c j := by
  unfold swp
  rw [sI_eq, sI_eq]
  unfold upd
  rfl
theorem PH_ext {P Q : PH} (h2 : P.2 = Q.2) (h1 : ∀ c j, P.1 c j = Q.1 c j) : P = Q := Prod.ext (funext fun c => funext fun j => h1 c j) h2
theorem swp_swp (P : PH) (c a b : Nat) : swp (swp P c a b) c a b = P := by
  refine PH_ext rfl (fun c' j => ?_)
  by_cases hc : c' = c
  · subst hc
    rw [swp_eq, swp_eq, swp_eq, swp_eq]
    by_cases hb : j = b
    · subst hb
      by_cases ha : a = j
      · subst ha; simp
      · rw [if_pos rfl, if_neg ha, if_pos rfl]
    · by_cases ha : j = a
      · subst ha
        rw [if_neg hb, if_pos rfl, if_pos rfl]
      · rw [if_neg hb, if_neg ha, if_neg hb, if_neg ha]
  · rw [swp_ne hc, swp_ne hc]
theorem sI_sI (P : PH) (c i : Nat) (v w : Int32) : sI (sI P c i w) c i v = sI P c i v := by
  refine PH_ext rfl (fun c' j => ?_)
  by_cases hc : c' = c
  · subst hc
    rw [sI_eq, sI_eq, sI_eq]
    unfold upd
    by_cases hj : j = i
    · rw [if_pos hj, if_pos hj]
    · rw [if_neg hj, if_neg hj, if_neg hj]
  · rw [sI_ne hc, sI_ne hc, sI_ne hc]
theorem sI_id (P : PH) (c i : Nat) : sI P c i (P.1 c i) = P := by
  refine PH_ext rfl (fun c' j => ?_)
  by_cases hc : c' = c
  · subst hc
    rw [sI_eq]
    unfold upd
    by_cases hj : j = i
    · rw [if_pos hj, hj]
    · rw [if_neg hj]
  · rw [sI_ne hc]
section CS
variable {P : PH} {sw : Bool} {g : SG} {d : SD}
theorem CSx.now (h : CSx P sw g d) : P.2.2 (hs sw) 5 = ns sw := by rw [h.1]; cases sw <;> rfl
theorem CSx.rf (h : CSx P sw g d) {c : Nat} (hc : c ≠ 0) (j : Nat) : P.2.2 c j = rho0 c j := by rw [h.1]; unfold rhoS; rw [if_neg hc]
theorem ns_0 (sw : Bool) : ns sw ≠ 0 := by cases sw <;> decide
theorem hs_0 (sw : Bool) : hs sw ≠ 0 := by cases sw <;> decide
theorem CSx.ceg (h : CSx P sw g d) {e : En} (h1 : e_np e = g_np g) (h2 : e_nr e = g_nr g) (h3 : e_bed e = g_bed g) (h4 : e_want e = g_want g) (h5 : e_door e = g_door g) (h6 : e_heir e = d_heir d) (h7 : e_left e = d_left d) (h8 : e_k e = d_k d) (h9 : e_ho e = d_ho d) (h10 : e_pl e = d_pl d) : CE0 P (hs sw) e := by
  have e5 := h.now
  have z1 := hs_0 sw
  have z2 := ns_0 sw
  have e := fun c j hc => h.rf (c := c) hc j
  obtain ⟨-, -, -, b4, b6⟩ := h
  unfold CE0
  rw [h1, h2, h3, h4, h5, h6, h7, h8, h9, h10]
  refine ⟨b4.1, b4.2.1, ?_, ?_, ?_, ?_, ?_, ?_, ?_⟩
  · rw [e _ _ z1]; exact b4.2.2.1
  · rw [e _ _ z1]; exact b4.2.2.2.1
  · rw [e _ _ z1]; exact b4.2.2.2.2
  · rw [e5, e _ _ z2]; exact b6.2.2.2.1
  · rw [e5, e _ _ z2]; exact b6.2.2.2.2.1
  · rw [e5]; exact b6.2.2.1
  · rw [e5, e _ _ z2, e _ _ z2]; exact fun i hi => ⟨(b6.2.2.2.2.2 i hi).1, (b6.2.2.2.2.2 i hi).2.1⟩
theorem CSx.day (h : CSx P sw g d) : P.1 (P.2.2 (hs sw) 5) 0 = nI (d_day d) := by rw [h.now]; exact h.2.2.2.2.1
theorem CSx.al (h : CSx P sw g d) : P.1 (P.2.2 (hs sw) 5) 1 = nI (d_al d) := by rw [h.now]; exact h.2.2.2.2.2.1
theorem CSx.ve (h : CSx P sw g d) : VE (ENV g d) := VE_of h.2.1 h.2.2.1
theorem CSx.ce (h : CSx P sw g d) : CE0 P (hs sw) (ENV g d) := h.ceg rfl rfl rfl rfl rfl rfl rfl rfl rfl rfl
theorem CSx.cok (h : CSx P sw g d) : COK P (hs sw) (P.1 (P.2.2 (hs sw) 5) 0) 0 (ENV g d) := by
  intro i hi
  have hd := h.2.2.1
  rw [h.day, h.now, h.rf (ns_0 sw), (h.2.2.2.2.2.2.2.2.2 i hi).2.2]
  show decide (d_day d ≤ d_ti d i) = true ↔ _
  rw [decide_eq_true_eq, nI_leI (by have := hd.1; omega) (by have := (hd.2.2.2.2.2 i hi).2.2; omega), Nat.zero_testBit]
  simp
theorem CSx.np (h : CSx P sw g d) : g_np g ≤ 6 := h.2.1.1
theorem CSx.nr (h : CSx P sw g d) : g_nr g ≤ 7 := h.2.1.2.1
theorem VD.left (h : VD (g_np g) (g_nr g) d) {f : Nat → Nat} (hf : ∀ r, r < g_nr g → f r < g_np g ∨ f r = 9) : VD (g_np g) (g_nr g) (sLeft d f) := ⟨h.1, h.2.1, h.2.2.1, h.2.2.2.1, hf, h.2.2.2.2.2⟩
theorem VD.heir (h : VD (g_np g) (g_nr g) d) {f : Nat → Nat} (hf : ∀ p, p < g_np g → f p < 6 ∨ f p = 9) : VD (g_np g) (g_nr g) (sHeir d f) := ⟨h.1, h.2.1, h.2.2.1, hf, h.2.2.2.2.1, h.2.2.2.2.2⟩
theorem VD.swap (h : VD (g_np g) (g_nr g) d) {a b : Nat} (ha : a < g_nr g) (hb : b < g_nr g) : VD (g_np g) (g_nr g) (sLeft d (swF (d_left d) a b)) := h.left (fun r hr => by
  unfold swF
  by_cases h1 : r = a
  · rw [if_pos h1]; exact h.2.2.2.2.1 b hb
  · rw [if_neg h1]
    by_cases h2 : r = b
    · rw [if_pos h2]; exact h.2.2.2.2.1 a ha
    · rw [if_neg h2]; exact h.2.2.2.2.1 r hr)
theorem VD.will (h : VD (g_np g) (g_nr g) d) {p v : Nat} (hv : v < 6 ∨ v = 9) : VD (g_np g) (g_nr g) (sHeir d (upN (d_heir d) p v)) := h.heir (fun r hr => by
  unfold upN
  by_cases h1 : r = p
  · rw [if_pos h1]; exact hv
  · rw [if_neg h1]; exact h.2.2.2.1 r hr)
theorem hg_ns {s s' : PI} (H : HG s (hs sw) g) (a : ∀ c, c ≠ ns sw → (∀ f, 3 ≤ f → f < 8 → c ≠ rho0 (ns sw) f) → s' c = s c) : HG s' (hs sw) g := by
  refine H.fr (fun c hc => a c ?_ (fun f h1 h2 => ?_))
  · cases sw <;> rcases hc with rfl | rfl | rfl | rfl <;> decide
  · have hf : f = 3 ∨ f = 4 ∨ f = 5 ∨ f = 6 ∨ f = 7 := by omega
    cases sw <;> rcases hc with rfl | rfl | rfl | rfl <;> rcases hf with rfl | rfl | rfl | rfl | rfl <;> decide
theorem ns_f (sw : Bool) {f : Nat} (h1 : 3 ≤ f) (h2 : f < 8) : ns sw ≠ rho0 (ns sw) f := by
  have hf : f = 3 ∨ f = 4 ∨ f = 5 ∨ f = 6 ∨ f = 7 := by omega
  cases sw <;> rcases hf with rfl | rfl | rfl | rfl | rfl <;> decide
theorem ns_ff (sw : Bool) {f f' : Nat} (h1 : 3 ≤ f) (h2 : f < 8) (h3 : 3 ≤ f') (h4 : f' < 8) (hn : f ≠ f') : rho0 (ns sw) f ≠ rho0 (ns sw) f' := by
  have hf : f = 3 ∨ f = 4 ∨ f = 5 ∨ f = 6 ∨ f = 7 := by omega
  have hf' : f' = 3 ∨ f' = 4 ∨ f' = 5 ∨ f' = 6 ∨ f' = 7 := by omega
  cases sw <;> rcases hf with rfl | rfl | rfl | rfl | rfl <;> rcases hf' with rfl | rfl | rfl | rfl | rfl <;> first | exact absurd rfl hn | decide
theorem NDc.left {s s' : PI} {np nr : Nat} {d : SD} (N : NDc s (ns sw) np nr d) {f : Nat → Nat} (a : ∀ c, c ≠ lc sw → s' c = s c) (hf : ∀ r, r < nr → s' (lc sw) r = nI (f r)) : NDc s' (ns sw) np nr (sLeft d f) := by
  have n0 := a (ns sw) (ns_f sw (by decide) (by decide))
  refine ⟨by rw [n0]; exact N.1, by rw [n0]; exact N.2.1, by rw [n0]; exact N.2.2.1, ?_, hf, ?_⟩
  · rw [a _ (ns_ff sw (by decide) (by decide) (by decide) (by decide) (by decide))]; exact N.2.2.2.1
  · rw [a (rho0 (ns sw) 5) (ns_ff sw (by decide) (by decide) (by decide) (by decide) (by decide)), a (rho0 (ns sw) 6) (ns_ff sw (by decide) (by decide) (by decide) (by decide) (by decide)), a (rho0 (ns sw) 7) (ns_ff sw (by decide) (by decide) (by decide) (by decide) (by decide))]
    exact N.2.2.2.2.2
theorem NDc.heir {s s' : PI} {np nr : Nat} {d : SD} (N : NDc s (ns sw) np nr d) {f : Nat → Nat} (a : ∀ c, c ≠ hc sw → s' c = s c) (hf : ∀ p, p < np → s' (hc sw) p = nI (f p)) : NDc s' (ns sw) np nr (sHeir d f) := by
  have n0 := a (ns sw) (ns_f sw (by decide) (by decide))
  refine ⟨by rw [n0]; exact N.1, by rw [n0]; exact N.2.1, by rw [n0]; exact N.2.2.1, hf, ?_, ?_⟩
  · rw [a _ (ns_ff sw (by decide) (by decide) (by decide) (by decide) (by decide))]; exact N.2.2.2.2.1
  · rw [a (rho0 (ns sw) 5) (ns_ff sw (by decide) (by decide) (by decide) (by decide) (by decide)), a (rho0 (ns sw) 6) (ns_ff sw (by decide) (by decide) (by decide) (by decide) (by decide)), a (rho0 (ns sw) 7) (ns_ff sw (by decide) (by decide) (by decide) (by decide) (by decide))]
    exact N.2.2.2.2.2
theorem CSx.swap (h : CSx P sw g d) {a b : Nat} (ha : a < g_nr g) (hb : b < g_nr g) (hab : a ≠ b) : CSx (swp P (lc sw) a b) sw g (sLeft d (swF (d_left d) a b)) := by
  obtain ⟨h1, h2, h3, h4, h5⟩ := h
  refine ⟨h1, h2, h3.swap ha hb, hg_ns h4 (fun c _ hf => swp_ne (hf 4 (by decide) (by decide))), h5.left (fun c hc => swp_ne hc) (fun r hr => ?_)⟩
  rw [swp_eq]
  unfold swF
  have e4 := h5.2.2.2.2.1
  by_cases hr1 : r = b
  · rw [if_pos hr1, if_neg (fun q => hab (q.symm.trans hr1)), if_pos hr1]; exact e4 a ha
  · rw [if_neg hr1]
    by_cases hr2 : r = a
    · rw [if_pos hr2, if_pos hr2]; exact e4 b hb
    · rw [if_neg hr2, if_neg hr2, if_neg hr1]; exact e4 r hr
theorem CSx.will (h : CSx P sw g d) {p v : Nat} (hv : v < 6 ∨ v = 9) : CSx (sI P (hc sw) p (nI v)) sw g (sHeir d (upN (d_heir d) p v)) := by
  obtain ⟨h1, h2, h3, h4, h5⟩ := h
  refine ⟨h1, h2, h3.will hv, hg_ns h4 (fun c _ hf => sI_ne (hf 3 (by decide) (by decide))), h5.heir (fun c hc => sI_ne hc) (fun r hr => ?_)⟩
  rw [sI_eq]
  unfold upd upN
  by_cases hr1 : r = p
  · rw [if_pos hr1, if_pos hr1]
  · rw [if_neg hr1, if_neg hr1]; exact h5.2.2.2.1 r hr
theorem CSx.c_swap (h : CSx P sw g d) {a b : Nat} (ha : a < g_nr g) (hb : b < g_nr g) : f_X4_swap P (ns sw) (nI a) (nI b) = some (swp P (lc sw) a b) := by
  have hnr := h.nr
  unfold f_X4_swap
  rw [gd (by omega) (by decide), gd (by omega) (by decide), gd (by omega) (by decide), nI_clamp (by omega), nI_clamp (by omega), h.rf (ns_0 sw), Option.bind_some, gd2 (by omega) (by decide)]
  show (some (sI (sI P (rho0 (ns sw) 4) a (P.1 (rho0 (ns sw) 4) b)) (P.2.2 (ns sw) 4) b (P.1 (rho0 (ns sw) 4) a))).bind _ = _
  rw [h.rf (ns_0 sw)]
  rfl
def exV (g : SG) (d : SD) (a b : Nat) : Nat := pop 7 (cut (ENV g (sLeft d (swF (d_left d) a b))))
def exI (g : SG) (d : SD) (a : Nat) : Nat → Nat → Nat × Option Nat → Nat × Option Nat
  | 0, _, q => q
  | k + 1, j, q => exI g d a k (j + 1) (if exV g d a j < q.1 then (exV g d a j, some (10 * a + j)) else q)
def exO (g : SG) (d : SD) : Nat → Nat → Nat × Option Nat → Nat × Option Nat
  | 0, _, q => q
  | k + 1, a, q => exO g d k (a + 1) (exI g d a (g_nr g - (a + 1)) (a + 1) q)
theorem exI_le (a : Nat) : ∀ k j q, q.1 ≤ 7 → (exI g d a k j q).1 ≤ 7 := by
  intro k
  induction k with
  | zero => intro j q hq; exact hq
  | succ k ih =>
    intro j q hq
    unfold exI
    apply ih
    split
    · exact pop_le 7 _
    · exact hq
theorem c_ex_in (h : CSx P sw g d) (K : PH → Int32 → Int32 → Option (Int32 × PH)) {a : Nat} : ∀ k j n q, j + k = g_nr g → a < j → k < n → q.1 ≤ 7 → f_X3_bestExchange_L27 K (hs sw) (nI a) n P (nI q.1) (bedI q.2) (nI j) = K P (nI (exI g d a k j q).1) (bedI (exI g d a k j q).2) := by
  have hnr := h.nr
  intro k
  induction k with
  | zero =>
    intro j n q hj haj hn hq
    obtain ⟨n, rfl⟩ := pre_n hn
    unfold f_X3_bestExchange_L27 exI
    rw [h.2.2.2.1.2.1, if_pos (nI_le (by omega) (by omega))]
  | succ k ih =>
    intro j n q hj haj hn hq
    obtain ⟨n, rfl⟩ := pre_n hn
    have h2 := h.swap (a := a) (b := j) (by omega) (by omega) (by omega)
    have V2 := h2.ve
    have hc2 := c_cutOff V2 h2.ce h2.cok h2.al
    have h3 := h2.c_swap (a := a) (b := j) (by omega) (by omega)
    rw [swp_swp] at h3
    unfold f_X3_bestExchange_L27 exI
    rw [h.2.2.2.1.2.1, if_neg (nI_ge (by omega) (by omega)), h.now, h.c_swap (by omega) (by omega), Option.bind_some, show (0 : Int32) = nI 0 from rfl, hc2, Option.bind_some, bitCount_eq _ (cut_128 V2), Option.bind_some, h2.now, h3, Option.bind_some, show (10 : Int32) = nI 10 from rfl, pk_mul, nI_add, nI_1]
    have p1 : exV g d a j ≤ 7 := pop_le 7 _
    show (if nI q.1 ≤ nI (exV g d a j) then _ else f_X3_bestExchange_L27 K (hs sw) (nI a) n P (nI (exV g d a j)) (nI (10 * a + j)) (nI (j + 1))) = _
    by_cases hl : exV g d a j < q.1
    · rw [if_neg (nI_ge hl (by omega)), if_pos hl]
      exact ih (j + 1) n (exV g d a j, some (10 * a + j)) (by omega) (by omega) (by omega) p1
    · rw [if_pos (nI_le (by omega) (by omega)), if_neg hl]
      exact ih (j + 1) n q (by omega) (by omega) (by omega) hq
theorem c_ex_out (h : CSx P sw g d) (K : PH → Int32 → Option (Int32 × PH)) : ∀ k a n q, a + k = g_nr g → k < n → q.1 ≤ 7 → f_X3_bestExchange_L14 K (hs sw) n P (nI q.1) (bedI q.2) (nI a) = K P (bedI (exO g d k a q).2) := by
  have hnr := h.nr
  intro k
  induction k with
  | zero =>
    intro a n q ha hn hq
    obtain ⟨n, rfl⟩ := pre_n hn
    unfold f_X3_bestExchange_L14 exO
    rw [h.2.2.2.1.2.1, if_pos (nI_le (by omega) (by omega))]
  | succ k ih =>
    intro a n q ha hn hq
    obtain ⟨n, rfl⟩ := pre_n hn
    unfold f_X3_bestExchange_L14 exO
    rw [h.2.2.2.1.2.1, if_neg (nI_ge (by omega) (by omega)), nI_1, c_ex_in h _ (g_nr g - (a + 1)) (a + 1) 1000 q (by omega) (by omega) (by omega) hq]
    exact ih (a + 1) n _ (by omega) (by omega) (exI_le a _ _ _ hq)
end CS
section TURN
variable {P : PH} {sw : Bool} {g : SG} {d : SD} {hist : List (Nat × Nat × Nat)} {m sn tl : Nat}
theorem SRx.cs (h : SRx P sw g d hist m sn tl) : CSx P sw g d := ⟨h.1, h.2.1, h.2.2.1, h.2.2.2.1, h.2.2.2.2.2.1⟩
theorem swp_mm {R : PH} {a b : Nat} (hnp : g_np g ≤ 6) (hnr : g_nr g ≤ 7) (h : MM R g d) (ha : a < g_nr g) (hb : b < g_nr g) (hab : a ≠ b) : MM (swp R 61 (8 + a) (8 + b)) g (sLeft d (swF (d_left d) a b)) := by
  obtain ⟨h1, h2, h3⟩ := h
  obtain ⟨a1, a2, a3, a4, a5, a6⟩ := h3
  refine ⟨h1, ⟨?_, ?_, ?_, ?_, ?_⟩, ?_⟩
  · rw [swp_ne (by decide)]; exact h2.1
  · rw [swp_ne (by decide)]; exact h2.2.1
  · rw [swp_ne (by decide)]; exact h2.2.2.1
  · rw [swp_ne (by decide)]; exact h2.2.2.2.1
  · rw [swp_ne (by decide)]; exact h2.2.2.2.2
  · have e : ∀ j, (j < 8 ∨ 15 ≤ j) → (swp R 61 (8 + a) (8 + b)).1 61 j = R.1 61 j := fun j hj => by rw [swp_eq, if_neg (by omega), if_neg (by omega)]
    refine ⟨(e 0 (by omega)).trans a1, (e 1 (by omega)).trans a2, fun p hp => (e _ (by omega)).trans (a3 p hp), fun r hr => ?_, (e 15 (by omega)).trans a5, fun i hi => ⟨(e _ (by omega)).trans (a6 i hi).1, (e _ (by omega)).trans (a6 i hi).2.1, (e _ (by omega)).trans (a6 i hi).2.2⟩⟩
    show _ = nI (swF (d_left d) a b r)
    rw [swp_eq]
    unfold swF
    by_cases hr1 : r = b
    · rw [if_pos (by omega), if_neg (by omega), if_pos hr1]; exact a4 a ha
    · rw [if_neg (by omega)]
      by_cases hr2 : r = a
      · rw [if_pos (by omega), if_pos hr2]; exact a4 b hb
      · rw [if_neg (by omega), if_neg hr2, if_neg hr1]; exact a4 r hr
theorem swp_ag (sw : Bool) (R : PH) (a b : Nat) : Ag sw R (swp R 61 a b) := (s61_ag sw R a _).tr (s61_ag sw _ b _)
theorem m_ex_in (h : SRx P sw g d hist m sn tl) (K : PH → Int32 → Int32 → Option (Int32 × PH)) {a : Nat} : ∀ k j n q (R : PH), MR R → Ag sw P R → j + k = g_nr g → a < j → k < n → q.1 ≤ 7 → ∃ R', f_X10_exchange_L30 K 47 (nI a) n R (nI q.1) (bedI q.2) (nI j) = K R' (nI (exI g d a k j q).1) (bedI (exI g d a k j q).2) ∧ MR R' ∧ Ag sw P R' := by
  have hnr := h.nr
  have hnp := h.np
  intro k
  induction k with
  | zero =>
    intro j n q R M A hj haj hn hq
    obtain ⟨n, rfl⟩ := pre_n hn
    unfold f_X10_exchange_L30 exI
    rw [(h.ag A).2.2.2.2.1.2.1, if_pos (nI_le (by omega) (by omega))]
    exact ⟨R, rfl, M, A⟩
  | succ k ih =>
    intro j n q R M A hj haj hn hq
    obtain ⟨n, rfl⟩ := pre_n hn
    have hmm := (h.ag A).mm
    have M2 := swp_mm hnp hnr hmm (a := a) (b := j) (by omega) (by omega) (by omega)
    have V2 := h.veg (h.2.2.1.swap (a := a) (b := j) (by omega) (by omega))
    obtain ⟨R3, c1, c2⟩ := m_cutOff (mm_me M2 (by show d_day d < 1000; have := h.2.2.1.1; omega) h.til) V2
    have A3 := (A.tr ((asI_ag sw R).tr (swp_ag sw (asI R) (8 + a) (8 + j)))).tr (c2.ag sw)
    have e1 : f_X10_bits R3 (nI (cut (ENV g (sLeft d (swF (d_left d) a j))))) = some (nI (exV g d a j)) := bits_eq R3 (cut_128 V2)
    have p1 : exV g d a j ≤ 7 := pop_le 7 _
    have e2 : f_X10_swap 46 (asI R) 61 (nI (8 + a)) (nI (8 + j)) = some (swp (asI R) 61 (8 + a) (8 + j)) := by
      unfold f_X10_swap
      rw [gd (by omega) (by decide), gd (by omega) (by decide), gd (by omega) (by decide), nI_clamp (by omega), nI_clamp (by omega), Option.bind_some, gd2 (by omega) (by decide)]
      rfl
    unfold f_X10_exchange_L30 exI
    rw [(h.ag A).2.2.2.2.1.2.1, if_neg (nI_ge (by omega) (by omega)), asI_eq M, Option.bind_some, show (8 : Int32) = nI 8 from rfl, nI_add, nI_add, asI_r, mr_now M, e2, Option.bind_some, c1, Option.bind_some]
    show ∃ R', ((f_X10_bits R3 (nI (cut (ENV g (sLeft d (swF (d_left d) a j)))))).bind _) = _ ∧ _
    rw [e1, Option.bind_some, show (10 : Int32) = nI 10 from rfl, pk_mul, nI_add, nI_1]
    by_cases hl : exV g d a j < q.1
    · rw [if_neg (nI_ge hl (by omega)), if_neg (nI_ge hl (by omega)), if_pos hl]
      exact ih (j + 1) n (exV g d a j, some (10 * a + j)) R3 (c2.mr M2.1) A3 (by omega) (by omega) (by omega) p1
    · rw [if_pos (nI_le (by omega) (by omega)), if_pos (nI_le (by omega) (by omega)), if_neg hl]
      exact ih (j + 1) n q R3 (c2.mr M2.1) A3 (by omega) (by omega) (by omega) hq
theorem m_ex_out (h : SRx P sw g d hist m sn tl) (K : PH → Int32 → Option (Int32 × PH)) : ∀ k a n q (R : PH), MR R → Ag sw P R → a + k = g_nr g → k < n → q.1 ≤ 7 → ∃ R', f_X10_exchange_L17 K 47 n R (nI q.1) (bedI q.2) (nI a) = K R' (bedI (exO g d k a q).2) ∧ Ag sw P R' := by
  have hnr := h.nr
  intro k
  induction k with
  | zero =>
    intro a n q R M A ha hn hq
    obtain ⟨n, rfl⟩ := pre_n hn
    unfold f_X10_exchange_L17 exO
    rw [(h.ag A).2.2.2.2.1.2.1, if_pos (nI_le (by omega) (by omega))]
    exact ⟨R, rfl, A⟩
  | succ k ih =>
    intro a n q R M A ha hn hq
    obtain ⟨n, rfl⟩ := pre_n hn
    unfold f_X10_exchange_L17 exO
    rw [(h.ag A).2.2.2.2.1.2.1, if_neg (nI_ge (by omega) (by omega)), nI_1]
    obtain ⟨R1, b1, b2, b3⟩ := m_ex_in h (fun P8 v6 v7 => f_X10_exchange_L17 K 47 n P8 v6 v7 (nI (a + 1))) (a := a) (g_nr g - (a + 1)) (a + 1) 1000 q R M A (by omega) (by omega) (by omega) hq
    obtain ⟨R', d1, d2⟩ := ih (a + 1) n (exI g d a (g_nr g - (a + 1)) (a + 1) q) R1 b2 b3 (by omega) (by omega) (exI_le a _ _ _ hq)
    exact ⟨R', b1.trans d1, d2⟩
/-- a call of the class that may change its own state, and the model's behind it -/
def MOK (P : PH) (c : Option (Int32 × PH)) (mo : PH → Option (Int32 × PH)) : Prop := ∃ v P1 P2, c = some (v, P1) ∧ mo P1 = some (v, P2) ∧ SR P2
theorem QOK.sr {c : Option Int32} {mo : Option (Int32 × PH)} (h : SRx P sw g d hist m sn tl) (q : QOK P sw c mo) : ∃ v P2, c = some v ∧ mo = some (v, P2) ∧ SR P2 := by
  obtain ⟨v, P2, h1, h2, h3⟩ := q
  exact ⟨v, P2, h1, h2, sw, g, d, hist, m, sn, tl, h.ag h3⟩
theorem SRx.mok (h : SRx P sw g d hist m sn tl) {c : Option (Int32 × PH)} {mo : PH → Option (Int32 × PH)} {v : Int32} {P2 : PH} (h1 : c = some (v, P)) (h2 : mo P = some (v, P2)) (A : Ag sw P P2) : MOK P c mo := ⟨v, P, P2, h1, h2, sw, g, d, hist, m, sn, tl, h.ag A⟩
theorem k_exchange (h : SRx P sw g d hist m sn tl) : MOK P (f_X9_exchange P 0) (fun Q => f_X10_exchange Q 47) := by
  have hnr := h.nr
  have V := h.ve
  obtain ⟨R1, c1, c2⟩ := m_cutOff h.me V
  have A1 := (asI_ag sw P).tr (c2.ag sw)
  have p1 := pop_le 7 (cut (ENV g d))
  obtain ⟨R', d1, d2⟩ := m_ex_out h (fun P13 v12 => some (v12, P13)) (g_nr g) 0 1000 (pop 7 (cut (ENV g d)), none) R1 (c2.mr h.mr) A1 (by omega) (by omega) p1
  have hC := c_ex_out h.cs (fun P13 v12 => some (v12, P13)) (g_nr g) 0 1000 (pop 7 (cut (ENV g d)), none) (by omega) (by omega) p1
  have hc := c_cutOff V h.ce h.cok h.al
  refine h.mok (v := bedI (exO g d (g_nr g) 0 (pop 7 (cut (ENV g d)), none)).2) (P2 := R') ?_ ?_ d2
  · unfold f_X9_exchange f_X3_bestExchange
    rw [h.house, show (0 : Int32) = nI 0 from rfl, hc, Option.bind_some, bitCount_eq P (cut_128 V), Option.bind_some]
    refine Eq.trans (congrArg (fun o => Option.bind o _) hC) rfl
  · show f_X10_exchange P 47 = _
    unfold f_X10_exchange
    rw [asI_eq h.mr, Option.bind_some, c1, Option.bind_some]
    show ((f_X10_bits R1 (nI (cut (ENV g d)))).bind _) = _
    rw [bits_eq R1 (cut_128 V), Option.bind_some]
    exact d1
end TURN
