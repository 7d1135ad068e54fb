/-! grants, exchanges, wills, undo -/
section DEEDS2
variable {P : PH} {sw : Bool} {g : SG} {d : SD} {hist : List (Nat × Nat × Nat)} {m sn tl : Nat}
def grM (R : PH) (k p r u : Nat) : PH := sI (sI (sI (sI R 51 (16 + 3 * k) (nI p)) 51 (17 + 3 * k) (nI r)) 51 (18 + 3 * k) (nI u)) 51 15 (nI (k + 1))
theorem m_grantsIn {R : PH} {n0 c k : Nat} (hn : n0 = 46) (h15 : R.1 c 15 = nI k) (hk : k < 10) (p r u : Nat) : f_X10_grantsIn n0 R c (nI p) (nI r) (nI u) = some (sI (sI (sI (sI R c (16 + 3 * k) (nI p)) c (17 + 3 * k) (nI r)) c (18 + 3 * k) (nI u)) c 15 (nI (k + 1))) := by
  subst hn
  have a3 : (sI (sI (sI R c (16 + 3 * k) (nI p)) c (17 + 3 * k) (nI r)) c (18 + 3 * k) (nI u)).1 c 15 = nI k := by
    rw [sI_eq, upd_ne (by omega), sI_eq, upd_ne (by omega), sI_eq, upd_ne (by omega)]
    exact h15
  unfold f_X10_grantsIn
  rw [g_15, t_15, h15, show (16 : Int32) = nI 16 from rfl, show (3 : Int32) = nI 3 from rfl, pk_mul, nI_add, Option.bind_some, gd (by omega) (by decide), nI_1, show 16 + 3 * k + 1 = 17 + 3 * k by omega, gd (by omega) (by decide), nI_clamp (by omega), nI_clamp (by omega), Option.bind_some, show (2 : Int32) = nI 2 from rfl, nI_add, show 16 + 3 * k + 2 = 18 + 3 * k by omega, gd (by omega) (by decide), nI_clamp (by omega), Option.bind_some, a3, nI_1]
  show (if ((15 : Int32) < 0 ∨ 46 ≤ 15) then none else (if ((15 : Int32) < 0 ∨ 46 ≤ 15) then none else _)) = _
  rw [if_neg (by decide), if_neg (by decide), Option.bind_some]
theorem k_grants (h : SRx P sw g d hist m sn tl) (x y z : Int32) : MOK P (f_X9_grants P 0 x y z) (fun Q => f_X10_grants Q 47 x y z) := by
  have hnp := h.np
  have hnr := h.nr
  have h51 := h.2.2.2.2.2.2.1
  have hn := h.2.2.2.2.2.1
  have hk10 := h.2.2.1.2.2.1
  by_cases hx : ¬ x < 0 ∧ x < nI (g_np g)
  case neg =>
    refine h.mok (v := -1) (P2 := P) ?_ ?_ (Ag.rf sw P)
    · unfold f_X9_grants
      rw [h.cP, Option.bind_some, if_b2i, if_neg (by rw [decide_eq_false hx]; decide)]
    · show f_X10_grants P 47 x y z = _
      unfold f_X10_grants
      rw [h.mP, Option.bind_some, if_b2i, if_neg (by rw [decide_eq_false hx]; decide)]
  by_cases hy : ¬ y < 0 ∧ y < nI (g_nr g)
  case neg =>
    refine h.mok (v := -1) (P2 := P) ?_ ?_ (Ag.rf sw P)
    · unfold f_X9_grants
      rw [h.cP, Option.bind_some, if_b2i, if_pos (decide_eq_true hx), h.cR, Option.bind_some, if_b2i, if_neg (by rw [decide_eq_false hy]; decide)]
    · show f_X10_grants P 47 x y z = _
      unfold f_X10_grants
      rw [h.mP, Option.bind_some, if_b2i, if_pos (decide_eq_true hx), h.mR, Option.bind_some, if_b2i, if_neg (by rw [decide_eq_false hy]; decide)]
  by_cases hz : ¬ z < 0 ∧ ¬ (99 : Int32) < z
  case neg =>
    refine h.mok (v := -1) (P2 := P) ?_ ?_ (Ag.rf sw P)
    · unfold f_X9_grants
      rw [h.cP, Option.bind_some, if_b2i, if_pos (decide_eq_true hx), h.cR, Option.bind_some, if_b2i, if_pos (decide_eq_true hy)]
      by_cases hz1 : z < 0
      · rw [if_pos hz1]
      · rw [if_neg hz1, if_neg (fun q => hz ⟨hz1, Int32.not_lt.mpr q⟩)]
    · show f_X10_grants P 47 x y z = _
      unfold f_X10_grants
      rw [h.mP, Option.bind_some, if_b2i, if_pos (decide_eq_true hx), h.mR, Option.bind_some, if_b2i, if_pos (decide_eq_true hy), m_in, Option.bind_some, if_b2i, if_neg (by rw [decide_eq_false hz]; decide)]
  obtain ⟨p, hp, rfl⟩ := isP_c (by omega) hx
  obtain ⟨r, hr, rfl⟩ := isP_c (by omega) hy
  obtain ⟨u, hu, rfl⟩ := nI_of hz.1
  have hu99 : u ≤ 99 := by
    have := hz.2
    rw [show (99 : Int32) = nI 99 from rfl, nI_ltI (by omega) hu] at this
    omega
  by_cases h10 : d_k d < 10
  case neg =>
    have e10 : d_k d = 10 := by omega
    refine h.mok (v := -3) (P2 := P) ?_ ?_ (Ag.rf sw P)
    · unfold f_X9_grants
      rw [h.cP, Option.bind_some, if_b2i, if_pos (decide_eq_true hx), h.cR, Option.bind_some, if_b2i, if_pos (decide_eq_true hy), if_neg hz.1, if_pos (Int32.not_lt.mp hz.2), h.house, h.now, hn.2.2.1, e10, if_neg (by decide)]
    · show f_X10_grants P 47 _ _ _ = _
      unfold f_X10_grants
      rw [h.mP, Option.bind_some, if_b2i, if_pos (decide_eq_true hx), h.mR, Option.bind_some, if_b2i, if_pos (decide_eq_true hy), m_in, Option.bind_some, if_b2i, if_pos (decide_eq_true hz), g_15, t_15, h.mst, h51.2.2.2.2.1, e10, if_pos (by decide)]
  have ho : eqD (g_np g) (g_nr g) (und (2, 0, 0) (sGr d p r u)) d := by
    refine ⟨rfl, rfl, rfl, fun _ _ => rfl, fun _ _ => rfl, fun i hi => ?_⟩
    have hi' : i < d_k d := hi
    show upN (d_ho d) (d_k d) p i = _ ∧ upN (d_pl d) (d_k d) r i = _ ∧ upN (d_ti d) (d_k d) u i = _
    unfold upN
    rw [if_neg (by omega), if_neg (by omega), if_neg (by omega)]
    exact ⟨rfl, rfl, rfl⟩
  obtain ⟨P2, P3, a1, a2, a3, a4, b1, b2, b3, b4⟩ := mutate h (q := (2, 0, 0)) (d' := sGr d p r u) (P1 := grP P (ns sw) (d_k d) p r u) rfl (fun c hc => grP_ne (nsc_ns sw hc).1 ((nsc_ns sw hc).2 5 (by decide) (by decide)) ((nsc_ns sw hc).2 6 (by decide) (by decide)) ((nsc_ns sw hc).2 7 (by decide) (by decide))) (NDc_grP hn p r u) (h.2.2.1.gr h10 hp hr hu99) (Or.inr (Or.inr (Or.inl ⟨rfl, by show 1 ≤ d_k d + 1; omega⟩))) ho
  have a1' : f_X1_add (grP P (ns sw) (d_k d) p r u) 5 2 0 0 = some P2 := a1
  have m2 : MR P2 := by unfold MR; rw [a2]; exact h.mr
  have h3 : P3.1 51 15 = nI (d_k d) := by rw [b3]; exact h51.2.2.2.2.1
  have hG := m_grantsIn (R := P3) (n0 := 46) (c := 51) rfl h3 h10 p r u
  have f51 : (grM P3 (d_k d) p r u).1 51 = upd (upd (upd (upd (P.1 51) (16 + 3 * d_k d) (nI p)) (17 + 3 * d_k d) (nI r)) (18 + 3 * d_k d) (nI u)) 15 (nI (d_k d + 1)) := by
    unfold grM
    rw [sI_eq, sI_eq, sI_eq, sI_eq, b3]
  refine ⟨nI (d_k d + 1), P2, grM P3 (d_k d) p r u, ?_, ?_, sw, g, _, _, m, sn, tl, b4 _ rfl (fun c hc => by unfold grM; rw [sI_ne hc, sI_ne hc, sI_ne hc, sI_ne hc]) ?_⟩
  · unfold f_X9_grants
    have e5 : (grP P (ns sw) (d_k d) p r u).2.2 0 1 = 5 := by show P.2.2 0 1 = 5; rw [h.1]; rfl
    have hA := c_addRight (R := P) (sw := sw) (fun f _ _ => h.cs.rf (ns_0 sw) f) (k := d_k d) hn.2.2.1 h10 p r u
    rw [h.cP, Option.bind_some, if_b2i, if_pos (decide_eq_true hx), h.cR, Option.bind_some, if_b2i, if_pos (decide_eq_true hy), if_neg hz.1, if_pos (Int32.not_lt.mp hz.2), h.house, h.now, hn.2.2.1, if_pos (show nI (d_k d) < 10 from (nI_ltI (b := 10) (by omega) (by omega)).mpr h10), hA, Option.bind_some, e5, a1', Option.bind_some, a4.house, a4.now]
    show some (P2.1 (ns sw) 2, P2) = _
    rw [a4.2.2.2.2.2.2.1]
    rfl
  · show f_X10_grants P2 47 (nI p) (nI r) (nI u) = _
    have hmP : f_X10_isPerson P2 47 (nI p) = some true := by
      rw [m_isP0 (n := g_np g) (by rw [a3 47 (by decide)]; exact h.2.2.2.2.1.1) (by omega), decide_eq_true hx]
    have hmR : f_X10_isRoom P2 47 (nI r) = some true := by
      rw [m_isR0 (n := g_nr g) (by rw [a3 47 (by decide)]; exact h.2.2.2.2.1.2.1) (by omega), decide_eq_true hy]
    unfold f_X10_grants
    simp only [g_15]
    rw [t_15, hmP, Option.bind_some, if_b2i, if_pos rfl, hmR, Option.bind_some, if_b2i, if_pos rfl, m_in, Option.bind_some, if_b2i, if_pos (decide_eq_true hz), mr_st m2, a3 51 (by decide), h51.2.2.2.2.1, if_neg (fun q : nI (d_k d) = 10 => by have := (nI_eq (b := 10) (by omega) (by omega)).mp q; omega), b1, Option.bind_some, mr_st b2, hG, Option.bind_some]
    show some ((grM P3 (d_k d) p r u).1 (P3.2.2 47 5) 15, grM P3 (d_k d) p r u) = _
    rw [mr_st b2, f51, upd_eq]
  · rw [f51]
    refine h51.gr h10 hnp hnr (fun j h1 h2 h3 h4 => ?_) upd_eq ?_ ?_ ?_
    · rw [upd_ne h1, upd_ne h4, upd_ne h3, upd_ne h2]
    · rw [upd_ne (by omega), upd_ne (by omega), upd_ne (by omega), upd_eq]
    · rw [upd_ne (by omega), upd_ne (by omega), upd_eq]
    · rw [upd_ne (by omega), upd_eq]
theorem swF_swF (f : Nat → Nat) (a b r : Nat) : swF (swF f a b) a b r = f r := by
  unfold swF
  by_cases h1 : r = a
  · subst h1
    rw [if_pos rfl]
    by_cases h2 : b = r
    · rw [if_pos h2, h2]
    · rw [if_neg h2, if_pos rfl]
  · rw [if_neg h1]
    by_cases h2 : r = b
    · subst h2
      rw [if_pos rfl, if_pos rfl]
    · rw [if_neg h2, if_neg h1, if_neg h2]
theorem MD.swp {f f' : Nat → Int32} {np nr : Nat} (hnp : np ≤ 6) (hnr : nr ≤ 7) (M : MD f np nr d) {a b : Nat} (ha : a < nr) (hb : b < nr) (e : ∀ j, f' j = if j = 8 + b then f (8 + a) else if j = 8 + a then f (8 + b) else f j) : MD f' np nr (sLeft d (swF (d_left d) a b)) := by
  have e' : ∀ j, (j < 8 ∨ 15 ≤ j) → f' j = f j := fun j hj => by rw [e, if_neg (by omega), if_neg (by omega)]
  obtain ⟨a1, a2, a3, a4, a5, a6⟩ := M
  refine ⟨(e' 0 (by omega)).trans a1, (e' 1 (by omega)).trans a2, fun p hp => (e' _ (by omega)).trans (a3 p hp), fun r hr => ?_, (e' 15 (by omega)).trans a5, fun i hi => ⟨(e' _ (by omega)).trans (a6 i hi).1, (e' _ (by omega)).trans (a6 i hi).2.1, (e' _ (by omega)).trans (a6 i hi).2.2⟩⟩
  show _ = nI (swF (d_left d) a b r)
  rw [e]
  unfold swF
  by_cases hr2 : r = a
  · by_cases hr1 : r = b
    · rw [if_pos (by omega), if_pos hr2, ← hr1, hr2]; exact a4 a ha
    · rw [if_neg (by omega), if_pos (by omega), if_pos hr2]; exact a4 b hb
  · rw [if_neg hr2]
    by_cases hr1 : r = b
    · rw [if_pos (by omega), if_pos hr1]; exact a4 a ha
    · rw [if_neg (by omega), if_neg (by omega), if_neg hr1]; exact a4 r hr
theorem k_exchanges (h : SRx P sw g d hist m sn tl) (x y : Int32) : MOK P (f_X9_exchanges P 0 x y) (fun Q => f_X10_exchanges Q 47 x y) := by
  have hnp := h.np
  have hnr := h.nr
  have h51 := h.2.2.2.2.2.2.1
  have hn := h.2.2.2.2.2.1
  by_cases hx : ¬ x < 0 ∧ x < nI (g_nr g)
  case neg =>
    refine h.mok (v := -1) (P2 := P) ?_ ?_ (Ag.rf sw P)
    · unfold f_X9_exchanges
      rw [h.cR, Option.bind_some, if_b2i, if_neg (by rw [decide_eq_false hx]; decide)]
    · show f_X10_exchanges P 47 x y = _
      unfold f_X10_exchanges
      rw [h.mR, Option.bind_some, if_b2i, if_neg (by rw [decide_eq_false hx]; decide)]
  by_cases hy : ¬ y < 0 ∧ y < nI (g_nr g)
  case neg =>
    refine h.mok (v := -1) (P2 := P) ?_ ?_ (Ag.rf sw P)
    · unfold f_X9_exchanges
      rw [h.cR, Option.bind_some, if_b2i, if_pos (decide_eq_true hx), h.cR, Option.bind_some, if_b2i, if_neg (by rw [decide_eq_false hy]; decide)]
    · show f_X10_exchanges P 47 x y = _
      unfold f_X10_exchanges
      rw [h.mR, Option.bind_some, if_b2i, if_pos (decide_eq_true hx), h.mR, Option.bind_some, if_b2i, if_neg (by rw [decide_eq_false hy]; decide)]
  by_cases hxy : x = y
  · refine h.mok (v := -1) (P2 := P) ?_ ?_ (Ag.rf sw P)
    · unfold f_X9_exchanges
      rw [h.cR, Option.bind_some, if_b2i, if_pos (decide_eq_true hx), h.cR, Option.bind_some, if_b2i, if_pos (decide_eq_true hy), if_pos hxy]
    · show f_X10_exchanges P 47 x y = _
      unfold f_X10_exchanges
      rw [h.mR, Option.bind_some, if_b2i, if_pos (decide_eq_true hx), h.mR, Option.bind_some, if_b2i, if_pos (decide_eq_true hy), if_pos hxy]
  obtain ⟨a, ha, rfl⟩ := isP_c (by omega) hx
  obtain ⟨b, hb, rfl⟩ := isP_c (by omega) hy
  have hab : a ≠ b := fun q => hxy (by rw [q])
  have hC := h.cs.swap ha hb hab
  have ho : eqD (g_np g) (g_nr g) (und (3, a, b) (sLeft d (swF (d_left d) a b))) d := ⟨rfl, rfl, rfl, fun _ _ => rfl, fun r _ => swF_swF (d_left d) a b r, fun _ _ => ⟨rfl, rfl, rfl⟩⟩
  obtain ⟨P2, P3, a1, a2, a3, a4, b1, b2, b3, b4⟩ := mutate h (q := (3, a, b)) (d' := sLeft d (swF (d_left d) a b)) (P1 := swp P (lc sw) a b) rfl (fun c hc => swp_ne ((nsc_ns sw hc).2 4 (by decide) (by decide))) hC.2.2.2.2 hC.2.2.1 (Or.inr (Or.inr (Or.inr (Or.inl ⟨rfl, ha, hb, hab⟩)))) ho
  have a1' : f_X1_add (swp P (lc sw) a b) 5 3 (nI a) (nI b) = some P2 := a1
  have m2 : MR P2 := by unfold MR; rw [a2]; exact h.mr
  have e2 : f_X10_swap 46 P3 51 (nI (8 + a)) (nI (8 + b)) = some (swp P3 51 (8 + a) (8 + b)) := by
    unfold f_X10_swap
    rw [gd (by omega) (by decide), gd (by omega) (by decide), gd (by omega) (by decide), nI_clamp (by omega), nI_clamp (by omega), Option.bind_some, gd2 (by omega) (by decide)]
    rfl
  have f51 : ∀ j, (swp P3 51 (8 + a) (8 + b)).1 51 j = if j = 8 + b then P.1 51 (8 + a) else if j = 8 + a then P.1 51 (8 + b) else P.1 51 j := fun j => by rw [swp_eq, b3]
  have eA : swF (d_left d) a b a = d_left d b := if_pos rfl
  refine ⟨nI (d_left d b), P2, swp P3 51 (8 + a) (8 + b), ?_, ?_, sw, g, _, _, m, sn, tl, b4 _ rfl (fun c hc => swp_ne hc) (h51.swp hnp hnr ha hb f51)⟩
  · unfold f_X9_exchanges
    have e5 : (swp P (lc sw) a b).2.2 0 1 = 5 := by show P.2.2 0 1 = 5; rw [h.1]; rfl
    rw [h.cR, Option.bind_some, if_b2i, if_pos (decide_eq_true hx), h.cR, Option.bind_some, if_b2i, if_pos (decide_eq_true hy), if_neg hxy, h.house, h.now, h.cs.c_swap ha hb, Option.bind_some, e5, a1', Option.bind_some, gd (by omega) (by decide), nI_clamp (by omega), a4.house, a4.now, a4.rf (ns_0 sw), a4.2.2.2.2.2.2.2.2.1 a ha]
    show some (nI (swF (d_left d) a b a), P2) = _
    rw [eA]
  · show f_X10_exchanges P2 47 (nI a) (nI b) = _
    have hmR : ∀ v, (¬ v < 0 ∧ v < nI (g_nr g)) → f_X10_isRoom P2 47 v = some true := fun v hv => by
      rw [m_isR0 (n := g_nr g) (by rw [a3 47 (by decide)]; exact h.2.2.2.2.1.2.1) (by omega), decide_eq_true hv]
    unfold f_X10_exchanges
    rw [hmR _ hx, Option.bind_some, if_b2i, if_pos rfl, hmR _ hy, Option.bind_some, if_b2i, if_pos rfl, if_neg hxy, b1, Option.bind_some, mr_st b2, show (8 : Int32) = nI 8 from rfl, nI_add, nI_add, e2, Option.bind_some, gd (by omega) (by decide), nI_clamp (by omega)]
    show some ((swp P3 51 (8 + a) (8 + b)).1 (P3.2.2 47 5) (8 + a), _) = _
    rw [mr_st b2, f51, if_neg (by omega), if_pos rfl, h51.2.2.2.1 b hb]
theorem c_heir {R : PH} {x : Int32} : f_X2_canBeHeir R x = some (decide (x = 9 ∨ (¬ x < 0 ∧ ¬ (6 : Int32) ≤ x))) := by
  unfold f_X2_canBeHeir
  by_cases h9 : x = 9
  · rw [if_pos h9, decide_eq_true (Or.inl h9)]
  · rw [if_neg h9]
    by_cases h0 : x < 0
    · rw [if_pos h0, decide_eq_false (fun q => q.elim h9 (fun q => q.1 h0))]
    · rw [if_neg h0]
      by_cases h6 : (6 : Int32) ≤ x
      · rw [if_pos h6, decide_eq_false (fun q => q.elim h9 (fun q => q.2 h6))]
      · rw [if_neg h6, decide_eq_true (Or.inr ⟨h0, h6⟩)]
theorem heir_c {x : Int32} (h : x = 9 ∨ (¬ x < 0 ∧ ¬ (6 : Int32) ≤ x)) : ∃ v : Nat, x = nI v ∧ (v < 6 ∨ v = 9) := by
  rcases h with rfl | ⟨h1, h2⟩
  · exact ⟨9, rfl, Or.inr rfl⟩
  · obtain ⟨v, hv, rfl⟩ := nI_of h1
    rw [show (6 : Int32) = nI 6 from rfl, nI_leI (by omega) hv] at h2
    exact ⟨v, rfl, Or.inl (by omega)⟩
theorem k_wills (h : SRx P sw g d hist m sn tl) (x y : Int32) : MOK P (f_X9_wills P 0 x y) (fun Q => f_X10_wills Q 47 x y) := by
  have hnp := h.np
  have h51 := h.2.2.2.2.2.2.1
  have hn := h.2.2.2.2.2.1
  by_cases hx : ¬ x < 0 ∧ x < nI (g_np g)
  case neg =>
    refine h.mok (v := -1) (P2 := P) ?_ ?_ (Ag.rf sw P)
    · unfold f_X9_wills
      rw [h.cP, Option.bind_some, if_b2i, if_neg (by rw [decide_eq_false hx]; decide)]
    · show f_X10_wills P 47 x y = _
      unfold f_X10_wills
      rw [h.mP, Option.bind_some, if_b2i, if_neg (by rw [decide_eq_false hx]; decide)]
  by_cases hy : y = 9 ∨ (¬ y < 0 ∧ ¬ (6 : Int32) ≤ y)
  case neg =>
    refine h.mok (v := -1) (P2 := P) ?_ ?_ (Ag.rf sw P)
    · unfold f_X9_wills
      rw [h.cP, Option.bind_some, if_b2i, if_pos (decide_eq_true hx), c_heir, Option.bind_some, if_b2i, if_neg (by rw [decide_eq_false hy]; decide)]
    · show f_X10_wills P 47 x y = _
      unfold f_X10_wills
      rw [h.mP, Option.bind_some, if_b2i, if_pos (decide_eq_true hx), m_in, Option.bind_some, if_b2i, if_neg (c := decide (¬ y < 0 ∧ ¬ (5 : Int32) < y) = true) (fun q => by
        rw [decide_eq_true_eq] at q
        refine hy (Or.inr ⟨q.1, fun q6 => ?_⟩)
        obtain ⟨v, hv, rfl⟩ := nI_of q.1
        have q5 := q.2
        rw [show (5 : Int32) = nI 5 from rfl, nI_ltI (by omega) hv] at q5
        rw [show (6 : Int32) = nI 6 from rfl, nI_leI (by omega) hv] at q6
        omega), if_neg (fun q => hy (Or.inl q))]
  obtain ⟨p, hp, rfl⟩ := isP_c (by omega) hx
  obtain ⟨v, rfl, hv⟩ := heir_c hy
  have hC := h.cs.will (p := p) hv
  have hw := h.2.2.1.2.2.2.1 p hp
  have ho : eqD (g_np g) (g_nr g) (und (4, p, d_heir d p) (sHeir d (upN (d_heir d) p v))) d := by
    refine ⟨rfl, rfl, rfl, fun q _ => ?_, fun r _ => rfl, fun _ _ => ⟨rfl, rfl, rfl⟩⟩
    show (if q = p then d_heir d p else upN (d_heir d) p v q) = d_heir d q
    unfold upN
    by_cases hq : q = p
    · rw [if_pos hq, hq]
    · rw [if_neg hq, if_neg hq]
  obtain ⟨P2, P3, a1, a2, a3, a4, b1, b2, b3, b4⟩ := mutate h (q := (4, p, d_heir d p)) (d' := sHeir d (upN (d_heir d) p v)) (P1 := sI P (hc sw) p (nI v)) rfl (fun c hc => sI_ne ((nsc_ns sw hc).2 3 (by decide) (by decide))) hC.2.2.2.2 hC.2.2.1 (Or.inr (Or.inr (Or.inr (Or.inr ⟨rfl, hp, hw⟩)))) ho
  have a1' : f_X1_add (sI P (hc sw) p (nI v)) 5 4 (nI p) (nI (d_heir d p)) = some P2 := a1
  have m2 : MR P2 := by unfold MR; rw [a2]; exact h.mr
  have h3 : P3.1 51 (2 + p) = nI (d_heir d p) := by rw [b3]; exact h51.2.2.1 p hp
  refine ⟨nI (d_heir d p), P2, sI P3 51 (2 + p) (nI v), ?_, ?_, sw, g, _, _, m, sn, tl, b4 _ rfl (fun c hc => sI_ne hc) (by rw [sI_eq, b3]; exact h51.will hnp hp v)⟩
  · unfold f_X9_wills
    have e5 : (sI P (hc sw) p (nI v)).2.2 0 1 = 5 := by show P.2.2 0 1 = 5; rw [h.1]; rfl
    have e3 : P.2.2 (ns sw) 3 = hc sw := h.cs.rf (ns_0 sw) 3
    have e4 : P.1 (hc sw) p = nI (d_heir d p) := hn.2.2.2.1 p hp
    rw [h.cP, Option.bind_some, if_b2i, if_pos (decide_eq_true hx), c_heir, Option.bind_some, if_b2i, if_pos (decide_eq_true hy), gd (by omega) (by decide), gd (by omega) (by decide), nI_clamp (by omega), h.house, h.now, e3, e4, Option.bind_some, e5, a1', Option.bind_some]
  · show f_X10_wills P2 47 (nI p) (nI v) = _
    have hmP : f_X10_isPerson P2 47 (nI p) = some true := by
      rw [m_isP0 (n := g_np g) (by rw [a3 47 (by decide)]; exact h.2.2.2.2.1.1) (by omega), decide_eq_true hx]
    have hJ : f_X10_wills_J25 P2 47 (nI p) (nI v) = some (nI (d_heir d p), sI P3 51 (2 + p) (nI v)) := by
      unfold f_X10_wills_J25
      rw [b1, Option.bind_some, show (2 : Int32) = nI 2 from rfl, nI_add, gd (by omega) (by decide), gd (by omega) (by decide), nI_clamp (by omega), mr_st b2, Option.bind_some, h3]
    unfold f_X10_wills
    rw [hmP, Option.bind_some, if_b2i, if_pos rfl, m_in, Option.bind_some, if_b2i, hJ]
    by_cases h9 : nI v = 9
    · rw [if_pos h9]
      split <;> rfl
    · rcases hv with hv | hv
      · have hh : ¬ nI v < 0 ∧ ¬ (5 : Int32) < nI v := by
          refine ⟨nI_pos (by omega), ?_⟩
          rw [show (5 : Int32) = nI 5 from rfl, nI_ltI (by omega) (by omega)]
          omega
        rw [if_pos (decide_eq_true hh)]
      · exact absurd (by rw [hv]; rfl) h9
end DEEDS2
