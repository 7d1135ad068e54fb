/-! day, dies, grants, exchanges, wills -/
section DEEDS
variable {P : PH} {sw : Bool} {g : SG} {d : SD} {hist : List (Nat × Nat × Nat)} {m sn tl : Nat}
theorem nsc_ns (sw : Bool) {c : Nat} (h : nsc sw c = false) : c ≠ ns sw ∧ ∀ f, 3 ≤ f → f < 8 → c ≠ rho0 (ns sw) f := by
  refine ⟨fun q => ?_, fun f h1 h2 q => ?_⟩
  · subst q
    cases sw <;> cases h
  · have hf : f = 3 ∨ f = 4 ∨ f = 5 ∨ f = 6 ∨ f = 7 := by omega
    subst q
    cases sw <;> rcases hf with rfl | rfl | rfl | rfl | rfl <;> cases h
def sNow (d : SD) (t a k : Nat) : SD := (t, a, k, d_heir d, d_left d, d_ho d, d_pl d, d_ti d)
theorem NDc.n0 {s s' : PI} {np nr : Nat} (N : NDc s (ns sw) np nr d) {t a k : Nat} (f : ∀ c, c ≠ ns sw → s' c = s c) (h0 : s' (ns sw) 0 = nI t) (h1 : s' (ns sw) 1 = nI a) (h2 : s' (ns sw) 2 = nI k) (hk : k ≤ d_k d) : NDc s' (ns sw) np nr (sNow d t a k) := by
  have n := fun {f : Nat} (h1 : 3 ≤ f) (h2 : f < 8) => f
  refine ⟨h0, h1, h2, ?_, ?_, ?_⟩
  · rw [f _ (Ne.symm (ns_f sw (by decide) (by decide)))]; exact N.2.2.2.1
  · rw [f _ (Ne.symm (ns_f sw (by decide) (by decide)))]; exact N.2.2.2.2.1
  · rw [f (rho0 (ns sw) 5) (Ne.symm (ns_f sw (by decide) (by decide))), f (rho0 (ns sw) 6) (Ne.symm (ns_f sw (by decide) (by decide))), f (rho0 (ns sw) 7) (Ne.symm (ns_f sw (by decide) (by decide)))]
    exact fun i hi => N.2.2.2.2.2 i (Nat.lt_of_lt_of_le hi hk)
theorem CSx.house (h : CSx P sw g d) : P.2.2 0 6 = hs sw := by rw [h.1]; rfl
theorem k_day (h : SRx P sw g d hist m sn tl) : MOK P (f_X9_day P 0) (fun Q => f_X10_day Q 47) := by
  have hday := h.2.2.1.1
  have h51 := h.2.2.2.2.2.2.1
  have hn := h.2.2.2.2.2.1
  by_cases h99 : d_day d < 99
  · have hN : NDc (sI P (ns sw) 0 (nI (d_day d + 1))).1 (ns sw) (g_np g) (g_nr g) (sDay d (d_day d + 1)) := hn.n0 (t := d_day d + 1) (a := d_al d) (k := d_k d) (fun c hc => sI_ne hc) (by rw [sI_eq]; exact upd_eq) (by rw [sI_eq, upd_ne (by decide)]; exact hn.2.1) (by rw [sI_eq, upd_ne (by decide)]; exact hn.2.2.1) (Nat.le_refl _)
    obtain ⟨P2, P3, a1, a2, a3, a4, b1, b2, b3, b4⟩ := mutate h (q := (0, 0, 0)) (d' := sDay d (d_day d + 1)) (P1 := sI P (ns sw) 0 (nI (d_day d + 1))) rfl (fun c hc => sI_ne (nsc_ns sw hc).1) hN (h.vday (by omega)) (Or.inl ⟨rfl, by show 1 ≤ d_day d + 1; omega⟩) ⟨rfl, rfl, rfl, fun _ _ => rfl, fun _ _ => rfl, fun _ _ => ⟨rfl, rfl, rfl⟩⟩
    have a1' : f_X1_add (sI P (ns sw) 0 (nI (d_day d + 1))) 5 0 0 0 = some P2 := a1
    have m2 : MR P2 := by unfold MR; rw [a2]; exact h.mr
    have h3 : P3.1 51 0 = nI (d_day d) := by rw [b3]; exact h51.1
    refine ⟨nI (d_day d + 1), P2, sI P3 51 0 (nI (d_day d + 1)), ?_, ?_, sw, g, _, _, m, sn, tl, b4 _ rfl (fun c hc => sI_ne hc) (by rw [sI_eq, b3]; exact h51.day _)⟩
    · unfold f_X9_day
      have e5 : (sI P (ns sw) 0 (nI (d_day d + 1))).2.2 0 1 = 5 := by show P.2.2 0 1 = 5; rw [h.1]; rfl
      rw [h.house, h.day, h.now, if_pos (show nI (d_day d) < 99 from (nI_ltI (b := 99) (by omega) (by omega)).mpr h99), nI_1, Option.bind_some, e5, a1', Option.bind_some, a4.house, a4.day]
      rfl
    · show f_X10_day P2 47 = _
      unfold f_X10_day
      simp only [g_0]
      rw [t_0, mr_st m2, a3 51 (by decide), h51.1, if_neg (fun q : nI (d_day d) = 99 => by have := (nI_eq (b := 99) (by omega) (by omega)).mp q; omega), b1, Option.bind_some, mr_st b2, h3, nI_1, Option.bind_some]
      show some ((sI P3 51 0 (nI (d_day d + 1))).1 (P3.2.2 47 5) 0, _) = _
      rw [mr_st b2, sI_eq, upd_eq]
  · have e99 : d_day d = 99 := by omega
    refine h.mok (v := -2) (P2 := P) ?_ ?_ (Ag.rf sw P)
    · unfold f_X9_day
      rw [h.house, h.day, e99, if_neg (by decide)]
    · show f_X10_day P 47 = _
      unfold f_X10_day
      rw [g_0, t_0, h.mst, h51.1, e99, if_pos (by decide)]
theorem k_dies (h : SRx P sw g d hist m sn tl) (x : Int32) : MOK P (f_X9_dies P 0 x) (fun Q => f_X10_dies Q 47 x) := by
  have hnp := h.np
  have h51 := h.2.2.2.2.2.2.1
  have hn := h.2.2.2.2.2.1
  have h64 := h.al64
  by_cases hx : ¬ x < 0 ∧ x < nI (g_np g)
  · obtain ⟨p, hp, rfl⟩ := isP_c (by omega) hx
    by_cases hb : (d_al d).testBit p = true
    · obtain ⟨s1, s2⟩ := sub_bit h64 (show p < 6 by omega) hb
      have hlt := nd_le (d_al d) (2 ^ p) h.2.2.1.2.1
      have h128 : nd (d_al d) (2 ^ p) < 128 := nd_le (d_al d) (2 ^ p) (n := 7) (by omega)
      have hor : nd (d_al d) (2 ^ p) ||| 2 ^ p = d_al d := by
        apply Nat.eq_of_testBit_eq
        intro i
        rw [Nat.testBit_or, nd_bit, Nat.testBit_two_pow]
        by_cases hip : p = i
        · subst hip
          rw [hb]
          simp
        · simp [hip]
      have hN : NDc (sI P (ns sw) 1 (nI (nd (d_al d) (2 ^ p)))).1 (ns sw) (g_np g) (g_nr g) (sAl d (nd (d_al d) (2 ^ p))) := hn.n0 (t := d_day d) (a := nd (d_al d) (2 ^ p)) (k := d_k d) (fun c hc => sI_ne hc) (by rw [sI_eq, upd_ne (by decide)]; exact hn.1) (by rw [sI_eq]; exact upd_eq) (by rw [sI_eq, upd_ne (by decide)]; exact hn.2.2.1) (Nat.le_refl _)
      obtain ⟨P2, P3, a1, a2, a3, a4, b1, b2, b3, b4⟩ := mutate h (q := (1, p, 0)) (d' := sAl d (nd (d_al d) (2 ^ p))) (P1 := sI P (ns sw) 1 (nI (nd (d_al d) (2 ^ p)))) rfl (fun c hc => sI_ne (nsc_ns sw hc).1) hN (h.val hlt) (Or.inr (Or.inl ⟨rfl, hp⟩)) ⟨rfl, hor, rfl, fun _ _ => rfl, fun _ _ => rfl, fun _ _ => ⟨rfl, rfl, rfl⟩⟩
      have a1' : f_X1_add (sI P (ns sw) 1 (nI (nd (d_al d) (2 ^ p)))) 5 1 (nI p) 0 = some P2 := a1
      have m2 : MR P2 := by unfold MR; rw [a2]; exact h.mr
      have h3 : P3.1 51 1 = nI (d_al d) := by rw [b3]; exact h51.2.1
      refine ⟨nI (pop 7 (nd (d_al d) (2 ^ p))), P2, sI P3 51 1 (nI (nd (d_al d) (2 ^ p))), ?_, ?_, sw, g, _, _, m, sn, tl, b4 _ rfl (fun c hc => sI_ne hc) (by rw [sI_eq, b3]; exact h51.al _)⟩
      · unfold f_X9_dies
        have e5 : (sI P (ns sw) 1 (nI (nd (d_al d) (2 ^ p)))).2.2 0 1 = 5 := by show P.2.2 0 1 = 5; rw [h.1]; rfl
        have e9 : f_J6_bitCount_0f7a4 P2 (nI (nd (d_al d) (2 ^ p))) = some (nI (pop 7 (nd (d_al d) (2 ^ p)))) := bitCount_eq P2 h128
        rw [h.cP, Option.bind_some, if_b2i, if_pos (decide_eq_true hx), c_lives h hp, Option.bind_some, if_b2i, if_pos hb, h.house, h.al, h.now, mb_sh (by omega), mb_not, Option.bind_some, e5, a1', Option.bind_some, a4.house, a4.al]
        exact Eq.trans (congrArg (fun o => Option.bind o _) e9) rfl
      · show f_X10_dies P2 47 (nI p) = _
        have hmP : f_X10_isPerson P2 47 (nI p) = some true := by
          rw [m_isP0 (n := g_np g) (by rw [a3 47 (by decide)]; exact h.2.2.2.2.1.1) (by omega), decide_eq_true hx]
        unfold f_X10_dies
        simp only [g_1]
        rw [t_1, hmP, Option.bind_some, if_b2i, if_pos rfl, mr_st m2, a3 51 (by decide), h51.2.1, m_has h.alt (by omega), Option.bind_some, if_b2i, if_pos hb, b1, Option.bind_some, mr_st b2, h3, mb_sh (by omega), pk_sub s2, s1, Option.bind_some]
        show ((f_X10_bits (sI P3 51 1 (nI (nd (d_al d) (2 ^ p)))) ((sI P3 51 1 (nI (nd (d_al d) (2 ^ p)))).1 (P3.2.2 47 5) 1)).bind _) = _
        rw [mr_st b2, sI_eq, upd_eq, bits_eq _ h128, Option.bind_some]
    · refine h.mok (v := -2) (P2 := P) ?_ ?_ (Ag.rf sw P)
      · unfold f_X9_dies
        rw [h.cP, Option.bind_some, if_b2i, if_pos (decide_eq_true hx), c_lives h hp, Option.bind_some, if_b2i, if_neg hb]
      · show f_X10_dies P 47 (nI p) = _
        unfold f_X10_dies
        rw [h.mP, Option.bind_some, if_b2i, if_pos (decide_eq_true hx), g_1, t_1, h.mst, h51.2.1, m_has h.alt (by omega), Option.bind_some, if_b2i, if_neg hb]
  · refine h.mok (v := -1) (P2 := P) ?_ ?_ (Ag.rf sw P)
    · unfold f_X9_dies
      rw [h.cP, Option.bind_some, if_b2i, if_neg (by rw [decide_eq_false hx]; decide)]
    · show f_X10_dies P 47 x = _
      unfold f_X10_dies
      rw [h.mP, Option.bind_some, if_b2i, if_neg (by rw [decide_eq_false hx]; decide)]
def sGr (d : SD) (p r u : Nat) : SD := (d_day d, d_al d, d_k d + 1, d_heir d, d_left d, upN (d_ho d) (d_k d) p, upN (d_pl d) (d_k d) r, upN (d_ti d) (d_k d) u)
theorem NDc.gr {s s' : PI} {np nr : Nat} (N : NDc s (ns sw) np nr d) {p r u : Nat} (f : ∀ c, c ≠ ns sw → c ≠ rho0 (ns sw) 5 → c ≠ rho0 (ns sw) 6 → c ≠ rho0 (ns sw) 7 → s' c = s c) (h0 : s' (ns sw) 0 = s (ns sw) 0) (h1 : s' (ns sw) 1 = s (ns sw) 1) (h2 : s' (ns sw) 2 = nI (d_k d + 1)) (h5 : s' (rho0 (ns sw) 5) = upd (s (rho0 (ns sw) 5)) (d_k d) (nI p)) (h6 : s' (rho0 (ns sw) 6) = upd (s (rho0 (ns sw) 6)) (d_k d) (nI r)) (h7 : s' (rho0 (ns sw) 7) = upd (s (rho0 (ns sw) 7)) (d_k d) (nI u)) : NDc s' (ns sw) np nr (sGr d p r u) := by
  have fF : ∀ c, (c = 3 ∨ c = 4) → s' (rho0 (ns sw) c) = s (rho0 (ns sw) c) := fun c hc => f _ (Ne.symm (ns_f sw (by omega) (by omega))) (ns_ff sw (by omega) (by omega) (by omega) (by omega) (by omega)) (ns_ff sw (by omega) (by omega) (by omega) (by omega) (by omega)) (ns_ff sw (by omega) (by omega) (by omega) (by omega) (by omega))
  refine ⟨h0.trans N.1, h1.trans N.2.1, h2, ?_, ?_, ?_⟩
  · rw [fF 3 (Or.inl rfl)]; exact N.2.2.2.1
  · rw [fF 4 (Or.inr rfl)]; exact N.2.2.2.2.1
  · rw [h5, h6, h7]
    intro i hi
    have hi' : i < d_k d + 1 := hi
    show upd _ _ _ i = nI (upN (d_ho d) (d_k d) p i) ∧ upd _ _ _ i = nI (upN (d_pl d) (d_k d) r i) ∧ upd _ _ _ i = nI (upN (d_ti d) (d_k d) u i)
    unfold upN
    by_cases hik : i = d_k d
    · rw [hik, upd_eq, upd_eq, upd_eq, if_pos rfl, if_pos rfl, if_pos rfl]
      exact ⟨rfl, rfl, rfl⟩
    · rw [upd_ne hik, upd_ne hik, upd_ne hik, if_neg hik, if_neg hik, if_neg hik]
      exact N.2.2.2.2.2 i (by omega)
theorem MD.gr {f f' : Nat → Int32} {np nr : Nat} (hk : d_k d < 10) (M : MD f np nr d) {p r u : Nat} (hnp : np ≤ 6) (hnr : nr ≤ 7) (a : ∀ j, j ≠ 15 → j ≠ 16 + 3 * d_k d → j ≠ 17 + 3 * d_k d → j ≠ 18 + 3 * d_k d → f' j = f j) (h15 : f' 15 = nI (d_k d + 1)) (h16 : f' (16 + 3 * d_k d) = nI p) (h17 : f' (17 + 3 * d_k d) = nI r) (h18 : f' (18 + 3 * d_k d) = nI u) : MD f' np nr (sGr d p r u) := by
  refine ⟨(a 0 (by omega) (by omega) (by omega) (by omega)).trans M.1, (a 1 (by omega) (by omega) (by omega) (by omega)).trans M.2.1, fun q hq => (a _ (by omega) (by omega) (by omega) (by omega)).trans (M.2.2.1 q hq), fun q hq => (a _ (by omega) (by omega) (by omega) (by omega)).trans (M.2.2.2.1 q hq), h15, ?_⟩
  intro i hi
  have hi' : i < d_k d + 1 := hi
  show f' (16 + 3 * i) = nI (upN (d_ho d) (d_k d) p i) ∧ f' (17 + 3 * i) = nI (upN (d_pl d) (d_k d) r i) ∧ f' (18 + 3 * i) = nI (upN (d_ti d) (d_k d) u i)
  unfold upN
  by_cases hik : i = d_k d
  · rw [hik, h16, h17, h18, if_pos rfl, if_pos rfl, if_pos rfl]
    exact ⟨rfl, rfl, rfl⟩
  · rw [a _ (by omega) (by omega) (by omega) (by omega), a _ (by omega) (by omega) (by omega) (by omega), a _ (by omega) (by omega) (by omega) (by omega), if_neg hik, if_neg hik, if_neg hik]
    exact M.2.2.2.2.2 i (by omega)
theorem VD.gr {np nr : Nat} (hd : VD np nr d) (hk : d_k d < 10) {p r u : Nat} (hp : p < np) (hr : r < nr) (hu : u ≤ 99) : VD np nr (sGr d p r u) := by
  refine ⟨hd.1, hd.2.1, by show d_k d + 1 ≤ 10; omega, hd.2.2.2.1, hd.2.2.2.2.1, fun i hi => ?_⟩
  have hi' : i < d_k d + 1 := hi
  show upN (d_ho d) (d_k d) p i < np ∧ upN (d_pl d) (d_k d) r i < nr ∧ upN (d_ti d) (d_k d) u i ≤ 99
  unfold upN
  by_cases hik : i = d_k d
  · rw [if_pos hik, if_pos hik, if_pos hik]
    exact ⟨hp, hr, hu⟩
  · rw [if_neg hik, if_neg hik, if_neg hik]
    exact hd.2.2.2.2.2 i (by omega)
def grP (P : PH) (n k : Nat) (p r u : Nat) : PH := sI (sI (sI (sI P (rho0 n 5) k (nI p)) (rho0 n 6) k (nI r)) (rho0 n 7) k (nI u)) n 2 (nI (k + 1))
theorem c_addRight {R : PH} {sw : Bool} (hr : ∀ f, 3 ≤ f → f < 8 → R.2.2 (ns sw) f = rho0 (ns sw) f) {k : Nat} (h2 : R.1 (ns sw) 2 = nI k) (hk : k < 10) (p r u : Nat) : f_X4_addRight R (ns sw) (nI p) (nI r) (nI u) = some (grP R (ns sw) k p r u) := by
  have n5 := ns_f sw (f := 5) (by decide) (by decide)
  have n6 := ns_f sw (f := 6) (by decide) (by decide)
  have n7 := ns_f sw (f := 7) (by decide) (by decide)
  have a1 : (sI R (rho0 (ns sw) 5) k (nI p)).1 (ns sw) 2 = nI k := by rw [sI_ne n5]; exact h2
  have a2 : (sI (sI R (rho0 (ns sw) 5) k (nI p)) (rho0 (ns sw) 6) k (nI r)).1 (ns sw) 2 = nI k := by rw [sI_ne n6]; exact a1
  have a3 : (sI (sI (sI R (rho0 (ns sw) 5) k (nI p)) (rho0 (ns sw) 6) k (nI r)) (rho0 (ns sw) 7) k (nI u)).1 (ns sw) 2 = nI k := by rw [sI_ne n7]; exact a2
  have c2 : (sI R (rho0 (ns sw) 5) k (nI p)).2.2 (ns sw) 6 = rho0 (ns sw) 6 := hr 6 (by decide) (by decide)
  have c3 : (sI (sI R (rho0 (ns sw) 5) k (nI p)) (rho0 (ns sw) 6) k (nI r)).2.2 (ns sw) 7 = rho0 (ns sw) 7 := hr 7 (by decide) (by decide)
  unfold f_X4_addRight
  rw [h2, if_neg (show ¬ (10 : Int32) ≤ nI k from nI_ge (b := 10) (by omega) (by omega)), gd (by omega) (by decide), nI_clamp (by omega), hr 5 (by decide) (by decide), Option.bind_some, a1, gd (by omega) (by decide), nI_clamp (by omega), c2, Option.bind_some, a2, gd (by omega) (by decide), nI_clamp (by omega), c3, Option.bind_some, a3, nI_1]
  rfl
theorem grP_ne {R : PH} {n k p r u c : Nat} (h1 : c ≠ n) (h5 : c ≠ rho0 n 5) (h6 : c ≠ rho0 n 6) (h7 : c ≠ rho0 n 7) : (grP R n k p r u).1 c = R.1 c := by
  unfold grP
  rw [sI_ne h1, sI_ne h7, sI_ne h6, sI_ne h5]
theorem NDc_grP {R : PH} {np nr : Nat} (N : NDc R.1 (ns sw) np nr d) (p r u : Nat) : NDc (grP R (ns sw) (d_k d) p r u).1 (ns sw) np nr (sGr d p r u) := by
  have n5 := ns_f sw (f := 5) (by decide) (by decide)
  have n6 := ns_f sw (f := 6) (by decide) (by decide)
  have n7 := ns_f sw (f := 7) (by decide) (by decide)
  have n56 := ns_ff sw (f := 5) (f' := 6) (by decide) (by decide) (by decide) (by decide) (by decide)
  have n57 := ns_ff sw (f := 5) (f' := 7) (by decide) (by decide) (by decide) (by decide) (by decide)
  have n67 := ns_ff sw (f := 6) (f' := 7) (by decide) (by decide) (by decide) (by decide) (by decide)
  refine N.gr (fun c y1 y5 y6 y7 => grP_ne y1 y5 y6 y7) ?_ ?_ ?_ ?_ ?_ ?_
  · unfold grP
    rw [sI_eq, upd_ne (by decide), sI_ne n7, sI_ne n6, sI_ne n5]
  · unfold grP
    rw [sI_eq, upd_ne (by decide), sI_ne n7, sI_ne n6, sI_ne n5]
  · unfold grP
    rw [sI_eq, upd_eq]
  · unfold grP
    rw [sI_ne n5.symm, sI_ne n57, sI_ne n56, sI_eq]
  · unfold grP
    rw [sI_ne n6.symm, sI_ne n67, sI_eq, sI_ne n56.symm]
  · unfold grP
    rw [sI_ne n7.symm, sI_eq, sI_ne n67.symm, sI_ne n57.symm]
end DEEDS
