/-! undo, seen, forget, type, clear, keep, back -/
theorem NDc.eqd {s : PI} {n np nr : Nat} {d d0 : SD} (N : NDc s n np nr d) (e : eqD np nr d d0) : NDc s n np nr d0 := by
  obtain ⟨e1, e2, e3, e4, e5, e6⟩ := e
  refine ⟨by rw [← e1]; exact N.1, by rw [← e2]; exact N.2.1, by rw [← e3]; exact N.2.2.1, fun p hp => by rw [← e4 p hp]; exact N.2.2.2.1 p hp, fun r hr => by rw [← e5 r hr]; exact N.2.2.2.2.1 r hr, fun i hi => ?_⟩
  rw [← e3] at hi
  obtain ⟨x1, x2, x3⟩ := e6 i hi
  rw [← x1, ← x2, ← x3]
  exact N.2.2.2.2.2 i hi
theorem und_0 {q : Nat × Nat × Nat} {d : SD} (o : q.1 = 0) : und q d = sNow d (d_day d - 1) (d_al d) (d_k d) := by
  obtain ⟨a, b, c⟩ := q
  cases (show a = 0 from o)
  rfl
theorem und_1 {q : Nat × Nat × Nat} {d : SD} (o : q.1 = 1) : und q d = sNow d (d_day d) (d_al d ||| 2 ^ q.2.1) (d_k d) := by
  obtain ⟨a, b, c⟩ := q
  cases (show a = 1 from o)
  rfl
theorem und_2 {q : Nat × Nat × Nat} {d : SD} (o : q.1 = 2) : und q d = sNow d (d_day d) (d_al d) (d_k d - 1) := by
  obtain ⟨a, b, c⟩ := q
  cases (show a = 2 from o)
  rfl
theorem und_3 {q : Nat × Nat × Nat} {d : SD} (o : q.1 = 3) : und q d = sLeft d (swF (d_left d) q.2.1 q.2.2) := by
  obtain ⟨a, b, c⟩ := q
  cases (show a = 3 from o)
  rfl
theorem und_4 {q : Nat × Nat × Nat} {d : SD} (o : q.1 = 4) : und q d = sHeir d (upN (d_heir d) q.2.1 q.2.2) := by
  obtain ⟨a, b, c⟩ := q
  cases (show a = 4 from o)
  rfl
section BACK
variable {P : PH} {sw : Bool} {g : SG} {d : SD} {hist : List (Nat × Nat × Nat)} {m sn tl : Nat}
theorem c_undo {R : PH} (h : CSx R sw g d) {q : Nat × Nat × Nat} {l : Nat} (hl : l < 10) (h5 : R.1 5 0 = nI (l + 1)) (hok : okd (g_np g) (g_nr g) q d) (h6 : R.1 6 l = nI q.1) (h7 : R.1 7 l = nI q.2.1) (h8 : R.1 8 l = nI q.2.2) : ∃ R', f_X1_takeBack R 5 (ns sw) = some R' ∧ R'.2 = R.2 ∧ (∀ c, nsc sw c = false → c ≠ 5 → R'.1 c = R.1 c) ∧ R'.1 5 0 = nI l ∧ NDc R'.1 (ns sw) (g_np g) (g_nr g) (und q d) := by
  have hnp := h.np
  have hnr := h.nr
  have h64 : d_al d < 64 := Nat.lt_of_lt_of_le h.2.2.1.2.1 (pow_b (n := g_np g) (m := 6) hnp)
  have e1 : R.2.2 5 1 = 6 := by rw [h.1]; rfl
  have e2 : R.2.2 5 2 = 7 := by rw [h.1]; rfl
  have e3 : R.2.2 5 3 = 8 := by rw [h.1]; rfl
  obtain ⟨Q, hQ⟩ : ∃ Q, Q = sI R 5 0 (nI l) := ⟨_, rfl⟩
  have q2 : Q.2 = R.2 := by rw [hQ]; rfl
  have qf : ∀ c, c ≠ 5 → Q.1 c = R.1 c := fun c hc => by rw [hQ]; exact sI_ne hc
  have q5 : Q.1 5 0 = nI l := by rw [hQ, sI_eq]; exact upd_eq
  have n5 : ns sw ≠ 5 := by cases sw <;> decide
  have nf5 : ∀ f, 3 ≤ f → f < 8 → rho0 (ns sw) f ≠ 5 := fun f h1 h2 => by
    have hf : f = 3 ∨ f = 4 ∨ f = 5 ∨ f = 6 ∨ f = 7 := by omega
    cases sw <;> rcases hf with rfl | rfl | rfl | rfl | rfl <;> decide
  have hQn : NDc Q.1 (ns sw) (g_np g) (g_nr g) d := h.2.2.2.2.ag (fun j _ => by rw [qf _ n5]) (fun f hf hf8 j => by rw [qf _ (nf5 f hf hf8)])
  have qr : ∀ j, Q.2.2 (ns sw) j = rho0 (ns sw) j := fun j => by rw [q2]; exact h.rf (ns_0 sw) j
  have fin : ∀ R' : PH, R'.2 = Q.2 → (∀ c, nsc sw c = false → R'.1 c = Q.1 c) → NDc R'.1 (ns sw) (g_np g) (g_nr g) (und q d) → ∃ R'' : PH, some R' = some R'' ∧ R''.2 = R.2 ∧ (∀ c, nsc sw c = false → c ≠ 5 → R''.1 c = R.1 c) ∧ R''.1 5 0 = nI l ∧ NDc R''.1 (ns sw) (g_np g) (g_nr g) (und q d) := fun R' r2 rf rn => ⟨R', rfl, r2.trans q2, fun c hc h5 => (rf c hc).trans (qf c h5), by rw [rf 5 (nsc_lo sw (by decide))]; exact q5, rn⟩
  unfold f_X1_takeBack
  rw [h5, if_pos (show (0 : Int32) < nI (l + 1) from (nI_ltI (a := 0) (by omega) (by omega)).mpr (by omega)), nI_pred, ← hQ, q5, gd (by omega) (by decide), nI_clamp (by omega), q2, e1, e2, e3, qf 6 (by decide), qf 7 (by decide), qf 8 (by decide), h6, h7, h8, Option.bind_some, gd2 (by omega) (by decide), Option.bind_some, gd2 (by omega) (by decide)]
  rcases hok with ⟨o1, o2⟩ | ⟨o1, o2⟩ | ⟨o1, o2⟩ | ⟨o1, o2, o3, o4⟩ | ⟨o1, o2, o3⟩
  · rw [o1, if_pos (show nI 0 = 0 from rfl), hQn.1, show d_day d = (d_day d - 1) + 1 by omega, nI_pred, Option.bind_some]
    refine fin _ rfl (fun c hc => sI_ne (nsc_ns sw hc).1) ?_
    have e : und q d = sNow d (d_day d - 1) (d_al d) (d_k d) := und_0 o1
    rw [e]
    exact hQn.n0 (fun c hc => sI_ne hc) (by rw [sI_eq]; exact upd_eq) (by rw [sI_eq, upd_ne (by decide)]; exact hQn.2.1) (by rw [sI_eq, upd_ne (by decide)]; exact hQn.2.2.1) (Nat.le_refl _)
  · rw [o1, if_neg (show ¬ nI 1 = 0 by decide), if_pos (show nI 1 = 1 from rfl), hQn.2.1, mb_sh (by omega), fa_or, Option.bind_some]
    refine fin _ rfl (fun c hc => sI_ne (nsc_ns sw hc).1) ?_
    have e : und q d = sNow d (d_day d) (d_al d ||| 2 ^ q.2.1) (d_k d) := und_1 o1
    rw [e]
    exact hQn.n0 (fun c hc => sI_ne hc) (by rw [sI_eq, upd_ne (by decide)]; exact hQn.1) (by rw [sI_eq]; exact upd_eq) (by rw [sI_eq, upd_ne (by decide)]; exact hQn.2.2.1) (Nat.le_refl _)
  · rw [o1, if_neg (show ¬ nI 2 = 0 by decide), if_neg (show ¬ nI 2 = 1 by decide), if_pos (show nI 2 = 2 from rfl), hQn.2.2.1]
    have ek : nI (d_k d) - 1 = nI (d_k d - 1) := by
      have : d_k d = (d_k d - 1) + 1 := by omega
      rw [this, nI_pred]
      rfl
    rw [ek, Option.bind_some]
    refine fin _ rfl (fun c hc => sI_ne (nsc_ns sw hc).1) ?_
    have e : und q d = sNow d (d_day d) (d_al d) (d_k d - 1) := und_2 o1
    rw [e]
    exact hQn.n0 (fun c hc => sI_ne hc) (by rw [sI_eq, upd_ne (by decide)]; exact hQn.1) (by rw [sI_eq, upd_ne (by decide)]; exact hQn.2.1) (by rw [sI_eq]; exact upd_eq) (by omega)
  · have hCQ : CSx Q sw g d := ⟨by rw [q2]; exact h.1, h.2.1, h.2.2.1, h.2.2.2.1.fr (fun c hc => qf c (by cases sw <;> rcases hc with rfl | rfl | rfl | rfl <;> decide)), hQn⟩
    rw [o1, if_neg (show ¬ nI 3 = 0 by decide), if_neg (show ¬ nI 3 = 1 by decide), if_neg (show ¬ nI 3 = 2 by decide), if_pos (show nI 3 = 3 from rfl), hCQ.c_swap o2 o3, Option.bind_some]
    refine fin _ rfl (fun c hc => swp_ne ((nsc_ns sw hc).2 4 (by decide) (by decide))) ?_
    have e : und q d = sLeft d (swF (d_left d) q.2.1 q.2.2) := und_3 o1
    rw [e]
    exact (hCQ.swap o2 o3 o4).2.2.2.2
  · have hCQ : CSx Q sw g d := ⟨by rw [q2]; exact h.1, h.2.1, h.2.2.1, h.2.2.2.1.fr (fun c hc => qf c (by cases sw <;> rcases hc with rfl | rfl | rfl | rfl <;> decide)), hQn⟩
    have e3' : R.2.2 (ns sw) 3 = hc sw := h.rf (ns_0 sw) 3
    rw [o1, if_neg (show ¬ nI 4 = 0 by decide), if_neg (show ¬ nI 4 = 1 by decide), if_neg (show ¬ nI 4 = 2 by decide), if_neg (show ¬ nI 4 = 3 by decide), if_pos (show nI 4 = 4 from rfl), gd (by omega) (by decide), nI_clamp (by omega), e3', Option.bind_some]
    refine fin _ rfl (fun c hc => sI_ne ((nsc_ns sw hc).2 3 (by decide) (by decide))) ?_
    have e : und q d = sHeir d (upN (d_heir d) q.2.1 q.2.2) := und_4 o1
    rw [e]
    exact (hCQ.will (p := q.2.1) o3).2.2.2.2
theorem k_undo (h : SRx P sw g d hist m sn tl) : MOK P (f_X9_undo P 0) (fun Q => f_X10_undo Q 47) := by
  have hnp := h.np
  have hnr := h.nr
  have e5 : P.2.2 0 1 = 5 := by rw [h.1]; rfl
  obtain ⟨hh1, hh2, hh3, hh4⟩ := h.2.2.2.2.2.2.2.1
  cases hist with
  | nil =>
    refine h.mok (v := -2) (P2 := P) ?_ ?_ (Ag.rf sw P)
    · unfold f_X9_undo
      rw [e5, hh3, if_pos (show nI ([] : List (Nat × Nat × Nat)).length = 0 from rfl)]
    · show f_X10_undo P 47 = _
      unfold f_X10_undo
      rw [hh4, if_pos (show nI ([] : List (Nat × Nat × Nat)).length = 0 from rfl)]
  | cons q l =>
    have hl : l.length + 1 ≤ 10 := hh2
    have h5' : P.1 5 0 = nI (l.length + 1) := hh3
    have h7' : P.1 47 7 = nI (l.length + 1) := hh4
    obtain ⟨o1, ⟨o2, o3, o4⟩, d0, o5, o6, o7, o8⟩ := hh1
    obtain ⟨P2, a1, a2, a3, a4, a5⟩ := c_undo h.cs (show l.length < 10 by omega) h5' o1 o2 o3 o4
    have nz : ¬ nI (l.length + 1) = 0 := fun q => by
      have := (nI_eq (b := 0) (by omega) (by omega)).mp q
      omega
    have m2 : MR P2 := by unfold MR; rw [a2]; exact h.mr
    have lo : ∀ c, (c ≤ 26 ∨ 47 ≤ c) → c ≠ 5 → P2.1 c = P.1 c := fun c hc h5 => a3 c (nsc_lo sw hc) h5
    obtain ⟨Q, hQ⟩ : ∃ Q, Q = sI P2 47 7 (nI l.length) := ⟨_, rfl⟩
    have qf : ∀ c, c ≠ 47 → Q.1 c = P2.1 c := fun c hc => by rw [hQ]; exact sI_ne hc
    have q2 : Q.2 = P2.2 := by rw [hQ]; rfl
    have q7 : Q.1 47 7 = nI l.length := by rw [hQ, sI_eq]; exact upd_eq
    have s7 : (cpP Q 51 0 52 (46 * l.length) 46).1 47 7 = nI l.length := by unfold cpP; rw [sA_ne (by decide)]; exact q7
    have cf : ∀ c, c ≠ 51 → (cpP Q 51 0 52 (46 * l.length) 46).1 c = Q.1 c := fun c hc => by unfold cpP; exact sA_ne hc
    have c51 : ∀ j, j < 46 → (cpP Q 51 0 52 (46 * l.length) 46).1 51 j = P.1 52 (46 * l.length + j) := fun j hj => by
      unfold cpP
      rw [sA_eq]
      show (if 0 ≤ j ∧ j < 0 + 46 then Q.1 52 (46 * l.length + (j - 0)) else _) = _
      rw [if_pos (by omega), qf 52 (by decide), lo 52 (by decide) (by decide), Nat.sub_zero]
    refine ⟨nI l.length, P2, cpP Q 51 0 52 (46 * l.length) 46, ?_, ?_, sw, g, d0, l, m, sn, tl, ?_⟩
    · unfold f_X9_undo
      rw [e5, h5', if_neg nz, h.house, h.now, a1, Option.bind_some, a2, e5, a4]
    · show f_X10_undo P2 47 = _
      unfold f_X10_undo
      rw [lo 47 (by decide) (by decide), h7', if_neg nz, nI_pred, ← hQ, q2, mr_st m2, show P2.2.2 47 6 = 52 by rw [m2]; rfl, q7, show (46 : Int32) = nI 46 from rfl, pk_mul, show (0 : Int32) = nI 0 from rfl, cp_eq 46 460 Q 51 0 52 (46 * l.length) (by decide) (by decide) (by omega) (by decide) (by decide), Option.bind_some, s7]
    · refine h.new (by show Q.2 = P.2; rw [q2, a2]) (fun c x0 x5 x6 x7 x8 x47 x51 x52 => (cf c x51).trans ((qf c x47).trans (a3 c x0 x5))) (fun j hj => ?_) o6 ?_ (o7.ag hnp hnr o6.2.2.1 c51) ⟨?_, by omega, ?_, s7⟩
      · rw [cf 47 (by decide), hQ, sI_eq, upd_ne hj, lo 47 (by decide) (by decide)]
      · refine (a5.eqd o5).ag (fun j _ => ?_) (fun f hf hf8 j => ?_)
        · rw [cf _ (by cases sw <;> decide), qf _ (by cases sw <;> decide)]
        · have hf2 : f = 3 ∨ f = 4 ∨ f = 5 ∨ f = 6 ∨ f = 7 := by omega
          rw [cf _ (by cases sw <;> rcases hf2 with rfl | rfl | rfl | rfl | rfl <;> decide), qf _ (by cases sw <;> rcases hf2 with rfl | rfl | rfl | rfl | rfl <;> decide)]
      · have e : ∀ c, c = 6 ∨ c = 7 ∨ c = 8 ∨ c = 52 → ∀ j, (cpP Q 51 0 52 (46 * l.length) 46).1 c j = P.1 c j := fun c hc j => by rw [cf c (by omega), qf c (by omega), lo c (by omega) (by omega)]
        exact HL.ag (e 6 (by decide)) (e 7 (by decide)) (e 8 (by decide)) (e 52 (by decide)) l d0 o8
      · rw [cf 5 (by decide), qf 5 (by decide)]
        exact a4
/-- the frame of those who change neither the house nor now -/
def kpc (c : Nat) : Bool := decide (5 ≤ c ∧ c ≤ 8) || (decide (27 ≤ c ∧ c ≤ 46) || decide (48 ≤ c ∧ c ≤ 52))
theorem kpc_f (sw : Bool) {f : Nat} (hf : 3 ≤ f) (hf8 : f < 8) : kpc (rho0 (ns sw) f) = true := by
  have hf2 : f = 3 ∨ f = 4 ∨ f = 5 ∨ f = 6 ∨ f = 7 := by omega
  cases sw <;> rcases hf2 with rfl | rfl | rfl | rfl | rfl <;> decide
theorem SRx.gen {P' : PH} (h : SRx P sw g d hist m sn tl) {m' sn' tl' : Nat} (h2 : P'.2 = P.2) (fr : ∀ c, kpc c = true → P'.1 c = P.1 c) (f47 : ∀ j, j ≠ 10 → j ≠ 14 → P'.1 47 j = P.1 47 j) (hI : IM P'.1 (g_np g) (g_nr g) m') (hS : SN P'.1 (g_np g) (g_nr g) sn') (hT : TX P'.1 tl') : SRx P' sw g d hist m' sn' tl' := by
  obtain ⟨a1, a2, a3, a4, a5, a6, a7, ⟨a8, b8, c8, d8⟩, a9, a10, a11, a12⟩ := h
  refine ⟨by rw [h2]; exact a1, a2, a3, a4.fr (fun c hc => fr c ?_), a5.fr (f47 0 (by decide) (by decide)) (f47 1 (by decide) (by decide)) (fr 48 (by decide)) (fr 49 (by decide)) (fr 50 (by decide)), a6.ag (fun j _ => by rw [fr (ns sw) (by cases sw <;> decide)]) (fun f hf hf8 j => by rw [fr _ (kpc_f sw hf hf8)]), by rw [fr 51 (by decide)]; exact a7, ⟨HL.ag (fun j => by rw [fr 6 (by decide)]) (fun j => by rw [fr 7 (by decide)]) (fun j => by rw [fr 8 (by decide)]) (fun j => by rw [fr 52 (by decide)]) hist d a8, b8, by rw [fr 5 (by decide)]; exact c8, (f47 7 (by decide) (by decide)).trans d8⟩, hI, hS, hT, by rw [h2]; exact a12⟩
  · cases sw <;> rcases hc with rfl | rfl | rfl | rfl <;> decide
theorem kpc_n {c c' : Nat} (h : kpc c = true) (h' : kpc c' = false) : c ≠ c' := fun q => by
  subst q
  rw [h] at h'
  cases h'
theorem k_forget (h : SRx P sw g d hist m sn tl) : MOK P (f_X9_forget P 0) (fun Q => f_X10_forget Q 47) := by
  have e2 : P.2.2 0 2 = 9 := by rw [h.1]; rfl
  obtain ⟨h13, h14⟩ : SN P.1 (g_np g) (g_nr g) sn ∧ TX P.1 tl := ⟨h.2.2.2.2.2.2.2.2.2.1, h.2.2.2.2.2.2.2.2.2.2.1⟩
  have hI := h.2.2.2.2.2.2.2.2.1
  refine ⟨nI sn, sI P 9 0 0, sI (sI P 9 0 0) 47 10 0, ?_, ?_, sw, g, d, hist, m, 0, tl, ?_⟩
  · unfold f_X9_forget
    rw [e2, h13.2.1]
  · show f_X10_forget (sI P 9 0 0) 47 = _
    unfold f_X10_forget
    rw [sI_ne (by decide), h13.2.2.1]
  · refine h.gen rfl (fun c hc => by rw [sI_ne (kpc_n hc (by decide)), sI_ne (kpc_n hc (by decide))]) (fun j h1 _ => by rw [sI_eq, upd_ne h1, sI_ne (by decide)]) (hI.fr (fun c hc => by rw [sI_ne (by omega), sI_ne (by omega)])) ⟨by decide, ?_, ?_, fun i hi => by omega⟩ (h14.fr (by rw [sI_ne (by decide), sI_ne (by decide)]) (by rw [sI_ne (by decide), sI_ne (by decide)]) (by rw [sI_eq, upd_ne (by decide), sI_ne (by decide)]) (by rw [sI_ne (by decide), sI_ne (by decide)]))
    · rw [sI_ne (by decide), sI_eq, upd_eq]
      rfl
    · rw [sI_eq, upd_eq]
      rfl
theorem k_clear (h : SRx P sw g d hist m sn tl) : MOK P (f_X9_clear P 0) (fun Q => f_X10_clear Q 47) := by
  have e2 : P.2.2 (P.2.2 0 0) 0 = 2 := by rw [h.1]; rfl
  obtain ⟨h13, h14⟩ : SN P.1 (g_np g) (g_nr g) sn ∧ TX P.1 tl := ⟨h.2.2.2.2.2.2.2.2.2.1, h.2.2.2.2.2.2.2.2.2.2.1⟩
  have hI := h.2.2.2.2.2.2.2.2.1
  refine ⟨nI tl, sI P 2 1 0, sI (sI P 2 1 0) 47 14 0, ?_, ?_, sw, g, d, hist, m, sn, 0, ?_⟩
  · unfold f_X9_clear
    rw [e2, h14.2.1, Option.bind_some]
  · show f_X10_clear (sI P 2 1 0) 47 = _
    unfold f_X10_clear
    rw [sI_ne (by decide), h14.2.2.1]
  · refine h.gen rfl (fun c hc => by rw [sI_ne (kpc_n hc (by decide)), sI_ne (kpc_n hc (by decide))]) (fun j _ h1 => by rw [sI_eq, upd_ne h1, sI_ne (by decide)]) (hI.fr (fun c hc => by rw [sI_ne (by omega), sI_ne (by omega)])) (h13.ag (by rw [sI_ne (by decide), sI_ne (by decide)]) (by rw [sI_ne (by decide), sI_ne (by decide)]) (by rw [sI_ne (by decide), sI_ne (by decide)]) (by rw [sI_ne (by decide), sI_ne (by decide)]) (by rw [sI_eq, upd_ne (by decide), sI_ne (by decide)]) (by rw [sI_ne (by decide), sI_ne (by decide)])) ⟨by decide, ?_, ?_, fun i hi => by omega⟩
    · rw [sI_ne (by decide), sI_eq, upd_eq]
      rfl
    · rw [sI_eq, upd_eq]
      rfl
theorem k_type (h : SRx P sw g d hist m sn tl) (x : Int32) : MOK P (f_X9_type P 0 x) (fun Q => f_X10_type Q 47 x) := by
  have e2 : P.2.2 (P.2.2 0 0) 0 = 2 := by rw [h.1]; rfl
  have e3 : P.2.2 2 0 = 3 := by rw [h.1]; rfl
  obtain ⟨h13, h14⟩ : SN P.1 (g_np g) (g_nr g) sn ∧ TX P.1 tl := ⟨h.2.2.2.2.2.2.2.2.2.1, h.2.2.2.2.2.2.2.2.2.2.1⟩
  have hI := h.2.2.2.2.2.2.2.2.1
  have ht := h14.1
  by_cases hx : ¬ x < 0 ∧ ¬ (255 : Int32) < x
  case neg =>
    refine h.mok (v := -1) (P2 := P) ?_ ?_ (Ag.rf sw P)
    · unfold f_X9_type
      by_cases h0 : x < 0
      · rw [if_pos h0]
      · rw [if_neg h0, if_neg (fun q => hx ⟨h0, Int32.not_lt.mpr q⟩)]
    · show f_X10_type P 47 x = _
      unfold f_X10_type
      rw [m_in, Option.bind_some, if_b2i, if_neg (by rw [decide_eq_false hx]; decide)]
  obtain ⟨c, hc, rfl⟩ := nI_of hx.1
  have hc255 : c ≤ 255 := by
    have := hx.2
    rw [show (255 : Int32) = nI 255 from rfl, nI_ltI (by omega) hc] at this
    omega
  by_cases h2 : tl < 200
  case neg =>
    have e200 : tl = 200 := by omega
    refine h.mok (v := -3) (P2 := P) ?_ ?_ (Ag.rf sw P)
    · unfold f_X9_type f_X8_add
      rw [if_neg hx.1, if_pos (Int32.not_lt.mp hx.2), e2, h14.2.1, e200, if_neg (by decide), Option.bind_some, if_b2i, if_neg (fun q : false = true => by cases q)]
    · show f_X10_type P 47 (nI c) = _
      unfold f_X10_type
      rw [m_in, Option.bind_some, if_b2i, if_pos (decide_eq_true hx), h14.2.2.1, e200, if_pos (by decide)]
  have a1 : (sI P 3 tl (nI c)).1 2 1 = nI tl := by rw [sI_ne (by decide)]; exact h14.2.1
  have r56 : P.2.2 47 13 = 56 := by rw [h.mr]; rfl
  obtain ⟨P2, hP2⟩ : ∃ P2, P2 = sI (sI P 3 tl (nI c)) 2 1 (nI (tl + 1)) := ⟨_, rfl⟩
  have p2 : P2.2 = P.2 := by rw [hP2]; rfl
  have pf : ∀ c, c ≠ 2 → c ≠ 3 → P2.1 c = P.1 c := fun c h2 h3 => by rw [hP2, sI_ne h2, sI_ne h3]
  have a2 : (sI P2 56 tl (nI c)).1 47 14 = nI tl := by rw [sI_ne (by decide), pf 47 (by decide) (by decide)]; exact h14.2.2.1
  refine ⟨nI (tl + 1), P2, sI (sI P2 56 tl (nI c)) 47 14 (nI (tl + 1)), ?_, ?_, sw, g, d, hist, m, sn, tl + 1, ?_⟩
  · unfold f_X9_type f_X8_add
    rw [if_neg hx.1, if_pos (Int32.not_lt.mp hx.2), e2, h14.2.1, if_pos (show nI tl < 200 from (nI_ltI (b := 200) (by omega) (by omega)).mpr h2), gd (by omega) (by decide), nI_clamp (by omega), e3, Option.bind_some, a1, nI_1, ← hP2, Option.bind_some, if_b2i, if_pos (show true = true from rfl)]
    show some (P2.1 (P2.2.2 (P2.2.2 0 0) 0) 1, P2) = _
    rw [p2, e2, hP2, sI_eq, upd_eq]
  · show f_X10_type P2 47 (nI c) = _
    unfold f_X10_type
    rw [m_in, Option.bind_some, if_b2i, if_pos (decide_eq_true hx), pf 47 (by decide) (by decide), h14.2.2.1, if_neg (fun q : nI tl = 200 => by have := (nI_eq (b := 200) (by omega) (by omega)).mp q; omega), gd (by omega) (by decide), nI_clamp (by omega), p2, r56, Option.bind_some, a2, nI_1, Option.bind_some, sI_eq, upd_eq]
  · have z' : ∀ e, e ≠ 2 → e ≠ 3 → e ≠ 47 → e ≠ 56 → (sI (sI P2 56 tl (nI c)) 47 14 (nI (tl + 1))).1 e = P.1 e := fun e y2 y3 y4 y5 => by rw [sI_ne y4, sI_ne y5, pf e y2 y3]
    refine h.gen p2 (fun e hc => z' e (kpc_n hc (by decide)) (kpc_n hc (by decide)) (kpc_n hc (by decide)) (kpc_n hc (by decide))) (fun j _ h1 => by rw [sI_eq, upd_ne h1, sI_ne (by decide), pf 47 (by decide) (by decide)]) (hI.fr (fun e hc => z' e (by omega) (by omega) (by omega) (by omega))) (h13.ag (by rw [z' 9 (by decide) (by decide) (by decide) (by decide)]) (z' 10 (by decide) (by decide) (by decide) (by decide)) (z' 11 (by decide) (by decide) (by decide) (by decide)) (z' 12 (by decide) (by decide) (by decide) (by decide)) (by rw [sI_eq, upd_ne (by decide), sI_ne (by decide), pf 47 (by decide) (by decide)]) (z' 55 (by decide) (by decide) (by decide) (by decide))) ⟨by omega, ?_, ?_, fun i hi => ?_⟩
    · rw [sI_ne (by decide), sI_ne (by decide), hP2, sI_eq, upd_eq]
    · rw [sI_eq, upd_eq]
    · have q3 : (sI (sI P2 56 tl (nI c)) 47 14 (nI (tl + 1))).1 3 i = upd (P.1 3) tl (nI c) i := by rw [sI_ne (by decide), sI_ne (by decide), hP2, sI_ne (by decide), sI_eq]
      have q56 : (sI (sI P2 56 tl (nI c)) 47 14 (nI (tl + 1))).1 56 i = upd (P.1 56) tl (nI c) i := by rw [sI_ne (by decide), sI_eq, pf 56 (by decide) (by decide)]
      rw [q3, q56]
      by_cases hit : i = tl
      · rw [hit, upd_eq, upd_eq]
        exact ⟨c, hc255, rfl, rfl⟩
      · rw [upd_ne hit, upd_ne hit]
        exact h14.2.2.2 i (by omega)
theorem k_seen (h : SRx P sw g d hist m sn tl) (x y z : Int32) : MOK P (f_X9_seen P 0 x y z) (fun Q => f_X10_seen Q 47 x y z) := by
  have hnp := h.np
  have hnr := h.nr
  have e2 : P.2.2 0 2 = 9 := by rw [h.1]; rfl
  have r1 : P.2.2 9 1 = 10 := by rw [h.1]; rfl
  have r2 : P.2.2 9 2 = 11 := by rw [h.1]; rfl
  have r3 : P.2.2 9 3 = 12 := by rw [h.1]; rfl
  have r55 : P.2.2 47 11 = 55 := by rw [h.mr]; rfl
  obtain ⟨h13, h14⟩ : SN P.1 (g_np g) (g_nr g) sn ∧ TX P.1 tl := ⟨h.2.2.2.2.2.2.2.2.2.1, h.2.2.2.2.2.2.2.2.2.2.1⟩
  have hI := h.2.2.2.2.2.2.2.2.1
  have hs5 := h13.1
  by_cases hx : ¬ x < 0 ∧ x < nI (g_np g)
  case neg =>
    refine h.mok (v := -1) (P2 := P) ?_ ?_ (Ag.rf sw P)
    · unfold f_X9_seen
      rw [h.cP, Option.bind_some, if_b2i, if_neg (by rw [decide_eq_false hx]; decide)]
    · show f_X10_seen P 47 x y z = _
      unfold f_X10_seen
      rw [h.mP, Option.bind_some, if_b2i, if_neg (by rw [decide_eq_false hx]; decide)]
  by_cases hy : ¬ y < 0 ∧ y < nI (g_nr g)
  case neg =>
    refine h.mok (v := -1) (P2 := P) ?_ ?_ (Ag.rf sw P)
    · unfold f_X9_seen
      rw [h.cP, Option.bind_some, if_b2i, if_pos (decide_eq_true hx), h.cR, Option.bind_some, if_b2i, if_neg (by rw [decide_eq_false hy]; decide)]
    · show f_X10_seen P 47 x y z = _
      unfold f_X10_seen
      rw [h.mP, Option.bind_some, if_b2i, if_pos (decide_eq_true hx), h.mR, Option.bind_some, if_b2i, if_neg (by rw [decide_eq_false hy]; decide)]
  by_cases hz : ¬ z < 0 ∧ ¬ (1 : Int32) < z
  case neg =>
    refine h.mok (v := -1) (P2 := P) ?_ ?_ (Ag.rf sw P)
    · unfold f_X9_seen
      rw [h.cP, Option.bind_some, if_b2i, if_pos (decide_eq_true hx), h.cR, Option.bind_some, if_b2i, if_pos (decide_eq_true hy)]
      by_cases hz1 : z < 0
      · rw [if_pos hz1]
      · rw [if_neg hz1, if_neg (fun q => hz ⟨hz1, Int32.not_lt.mpr q⟩)]
    · show f_X10_seen P 47 x y z = _
      unfold f_X10_seen
      rw [h.mP, Option.bind_some, if_b2i, if_pos (decide_eq_true hx), h.mR, Option.bind_some, if_b2i, if_pos (decide_eq_true hy), m_in, Option.bind_some, if_b2i, if_neg (by rw [decide_eq_false hz]; decide)]
  obtain ⟨p, hp, rfl⟩ := isP_c (by omega) hx
  obtain ⟨r, hr, rfl⟩ := isP_c (by omega) hy
  obtain ⟨u, hu, rfl⟩ := nI_of hz.1
  have hu2 : u < 2 := by
    have := hz.2
    rw [show (1 : Int32) = nI 1 from rfl, nI_ltI (by omega) hu] at this
    omega
  by_cases h5 : sn < 5
  case neg =>
    have e5 : sn = 5 := by omega
    refine h.mok (v := -3) (P2 := P) ?_ ?_ (Ag.rf sw P)
    · unfold f_X9_seen f_X7_add
      rw [h.cP, Option.bind_some, if_b2i, if_pos (decide_eq_true hx), h.cR, Option.bind_some, if_b2i, if_pos (decide_eq_true hy), if_neg hz.1, if_pos (Int32.not_lt.mp hz.2), e2, h13.2.1, e5, if_neg (by decide), Option.bind_some, if_b2i, if_neg (fun q : false = true => by cases q)]
    · show f_X10_seen P 47 _ _ _ = _
      unfold f_X10_seen
      rw [h.mP, Option.bind_some, if_b2i, if_pos (decide_eq_true hx), h.mR, Option.bind_some, if_b2i, if_pos (decide_eq_true hy), m_in, Option.bind_some, if_b2i, if_pos (decide_eq_true hz), h13.2.2.1, e5, if_pos (by decide)]
  have a1 : (sI P 10 sn (nI p)).1 9 0 = nI sn := by rw [sI_ne (by decide)]; exact h13.2.1
  have a2 : (sI (sI P 10 sn (nI p)) 11 sn (nI r)).1 9 0 = nI sn := by rw [sI_ne (by decide)]; exact a1
  have a3 : (sI (sI (sI P 10 sn (nI p)) 11 sn (nI r)) 12 sn (nI u)).1 9 0 = nI sn := by rw [sI_ne (by decide)]; exact a2
  have b2 : (sI P 10 sn (nI p)).2.2 9 2 = 11 := r2
  have b3 : (sI (sI P 10 sn (nI p)) 11 sn (nI r)).2.2 9 3 = 12 := r3
  obtain ⟨P2, hP2⟩ : ∃ P2, P2 = sI (sI (sI (sI P 10 sn (nI p)) 11 sn (nI r)) 12 sn (nI u)) 9 0 (nI (sn + 1)) := ⟨_, rfl⟩
  have p2 : P2.2 = P.2 := by rw [hP2]; rfl
  have pf : ∀ c, c ≠ 9 → c ≠ 10 → c ≠ 11 → c ≠ 12 → P2.1 c = P.1 c := fun c h9 h10 h11 h12 => by rw [hP2, sI_ne h9, sI_ne h12, sI_ne h11, sI_ne h10]
  have pf47 : P2.1 47 = P.1 47 := pf 47 (by decide) (by decide) (by decide) (by decide)
  have c0 : P2.1 47 10 = nI sn := by rw [pf47]; exact h13.2.2.1
  have c1 : (sI P2 55 (3 * sn) (nI p)).1 47 10 = nI sn := by rw [sI_ne (by decide)]; exact c0
  have c2 : (sI (sI P2 55 (3 * sn) (nI p)) 55 (3 * sn + 1) (nI r)).1 47 10 = nI sn := by rw [sI_ne (by decide)]; exact c1
  have c3 : (sI (sI (sI P2 55 (3 * sn) (nI p)) 55 (3 * sn + 1) (nI r)) 55 (3 * sn + 2) (nI u)).1 47 10 = nI sn := by rw [sI_ne (by decide)]; exact c2
  have d1 : (sI P2 55 (3 * sn) (nI p)).2.2 47 11 = 55 := by show P2.2.2 47 11 = 55; rw [p2]; exact r55
  have d2 : (sI (sI P2 55 (3 * sn) (nI p)) 55 (3 * sn + 1) (nI r)).2.2 47 11 = 55 := d1
  obtain ⟨P4, hP4⟩ : ∃ P4, P4 = sI (sI (sI (sI P2 55 (3 * sn) (nI p)) 55 (3 * sn + 1) (nI r)) 55 (3 * sn + 2) (nI u)) 47 10 (nI (sn + 1)) := ⟨_, rfl⟩
  have p4 : P4.2 = P.2 := by rw [hP4]; exact p2
  have z : ∀ c, c ≠ 9 → c ≠ 10 → c ≠ 11 → c ≠ 12 → c ≠ 47 → c ≠ 55 → P4.1 c = P.1 c := fun c y9 y10 y11 y12 y47 y55 => by rw [hP4, sI_ne y47, sI_ne y55, sI_ne y55, sI_ne y55, pf c y9 y10 y11 y12]
  have z47 : ∀ j, j ≠ 10 → P4.1 47 j = P.1 47 j := fun j hj => by rw [hP4, sI_eq, upd_ne hj, sI_ne (by decide), sI_ne (by decide), sI_ne (by decide), pf47]
  have y9 : ∀ c, c ≠ 47 → c ≠ 55 → P4.1 c = P2.1 c := fun c h1 h2 => by rw [hP4, sI_ne h1, sI_ne h2, sI_ne h2, sI_ne h2]
  refine ⟨nI (sn + 1), P2, P4, ?_, ?_, sw, g, d, hist, m, sn + 1, tl, ?_⟩
  · unfold f_X9_seen f_X7_add
    rw [h.cP, Option.bind_some, if_b2i, if_pos (decide_eq_true hx), h.cR, Option.bind_some, if_b2i, if_pos (decide_eq_true hy), if_neg hz.1, if_pos (Int32.not_lt.mp hz.2), e2, h13.2.1, if_pos (show nI sn < 5 from (nI_ltI (b := 5) (by omega) (by omega)).mpr h5), gd (by omega) (by decide), nI_clamp (by omega), r1, Option.bind_some, a1, gd (by omega) (by decide), nI_clamp (by omega), b2, Option.bind_some, a2, gd (by omega) (by decide), nI_clamp (by omega), b3, Option.bind_some, a3, nI_1, ← hP2, Option.bind_some, if_b2i, if_pos (show true = true from rfl)]
    show some (P2.1 (P2.2.2 0 2) 0, P2) = _
    rw [p2, e2, hP2, sI_eq, upd_eq]
  · show f_X10_seen P2 47 (nI p) (nI r) (nI u) = _
    have hmP : f_X10_isPerson P2 47 (nI p) = some true := by
      rw [m_isP0 (n := g_np g) (by rw [pf47]; exact h.2.2.2.2.1.1) (by omega), decide_eq_true hx]
    have hmR : f_X10_isRoom P2 47 (nI r) = some true := by
      rw [m_isR0 (n := g_nr g) (by rw [pf47]; exact h.2.2.2.2.1.2.1) (by omega), decide_eq_true hy]
    unfold f_X10_seen
    rw [hmP, Option.bind_some, if_b2i, if_pos rfl, hmR, Option.bind_some, if_b2i, if_pos rfl, m_in, Option.bind_some, if_b2i, if_pos (decide_eq_true hz), c0, if_neg (fun q : nI sn = 5 => by have := (nI_eq (b := 5) (by omega) (by omega)).mp q; omega), show (3 : Int32) = nI 3 from rfl, pk_mul, gd (by omega) (by decide), nI_clamp (by omega), show P2.2.2 47 11 = 55 from d1, Option.bind_some, c1, pk_mul, nI_1, gd (by omega) (by decide), nI_clamp (by omega), d1, Option.bind_some, c2, pk_mul, show (2 : Int32) = nI 2 from rfl, nI_add, gd (by omega) (by decide), nI_clamp (by omega), d2, Option.bind_some, c3, nI_1, ← hP4, Option.bind_some, hP4, sI_eq, upd_eq]
  · refine h.gen p4 (fun c hc => z c (kpc_n hc (by decide)) (kpc_n hc (by decide)) (kpc_n hc (by decide)) (kpc_n hc (by decide)) (kpc_n hc (by decide)) (kpc_n hc (by decide))) (fun j h1 _ => z47 j h1) (hI.fr (fun c hc => z c (by omega) (by omega) (by omega) (by omega) (by omega) (by omega))) ⟨by omega, ?_, ?_, fun i hi => ?_⟩ (h14.fr (by rw [z 2 (by decide) (by decide) (by decide) (by decide) (by decide) (by decide)]) (z 3 (by decide) (by decide) (by decide) (by decide) (by decide) (by decide)) (z47 14 (by decide)) (z 56 (by decide) (by decide) (by decide) (by decide) (by decide) (by decide)))
    · rw [y9 9 (by decide) (by decide), hP2, sI_eq, upd_eq]
    · rw [hP4, sI_eq, upd_eq]
    · have w10 : P4.1 10 i = upd (P.1 10) sn (nI p) i := by rw [y9 10 (by decide) (by decide), hP2, sI_ne (by decide), sI_ne (by decide), sI_ne (by decide), sI_eq]
      have w11 : P4.1 11 i = upd (P.1 11) sn (nI r) i := by rw [y9 11 (by decide) (by decide), hP2, sI_ne (by decide), sI_ne (by decide), sI_eq, sI_ne (by decide)]
      have w12 : P4.1 12 i = upd (P.1 12) sn (nI u) i := by rw [y9 12 (by decide) (by decide), hP2, sI_ne (by decide), sI_eq, sI_ne (by decide), sI_ne (by decide)]
      have w55 : P4.1 55 = upd (upd (upd (P.1 55) (3 * sn) (nI p)) (3 * sn + 1) (nI r)) (3 * sn + 2) (nI u) := by rw [hP4, sI_ne (by decide), sI_eq, sI_eq, sI_eq, pf 55 (by decide) (by decide) (by decide) (by decide)]
      rw [w10, w11, w12, w55]
      by_cases his : i = sn
      · subst his
        refine ⟨p, r, u, hp, hr, hu2, ⟨upd_eq, upd_eq, upd_eq⟩, ?_, ?_, upd_eq⟩
        · rw [upd_ne (by omega), upd_ne (by omega), upd_eq]
        · rw [upd_ne (by omega), upd_eq]
      · obtain ⟨p', r', y', f1, f2, f3, ⟨f4, f5, f6⟩, ⟨f7, f8, f9⟩⟩ := h13.2.2.2 i (by omega)
        refine ⟨p', r', y', f1, f2, f3, ⟨(upd_ne his).trans f4, (upd_ne his).trans f5, (upd_ne his).trans f6⟩, ?_, ?_, ?_⟩
        · rw [upd_ne (by omega), upd_ne (by omega), upd_ne (by omega)]; exact f7
        · rw [upd_ne (by omega), upd_ne (by omega), upd_ne (by omega)]; exact f8
        · rw [upd_ne (by omega), upd_ne (by omega), upd_ne (by omega)]; exact f9
end BACK
