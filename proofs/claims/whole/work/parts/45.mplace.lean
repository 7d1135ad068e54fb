/-! the model reads doors, beds, wants, rights -/
section MPL
variable {T : Nat → Nat} {tl : Nat} {P R : PH} {sw : Bool} {g : SG} {d : SD}
theorem TK.st {e : Nat} (k : TK T tl R e) (v : Int32) : TK T tl (sI R 47 19 v) e := by
  obtain ⟨k1, k2, k3, k4⟩ := k
  have z : ∀ j, j ≠ 19 → (sI R 47 19 v).1 47 j = R.1 47 j := fun j hj => by rw [sI_eq, upd_ne hj]
  exact ⟨(z 17 (by decide)).trans k1, (z 16 (by decide)).trans k2, (z 18 (by decide)).trans k3, (z 15 (by decide)).trans k4⟩
theorem TK.fr {e c j : Nat} {v : Int32} (k : TK T tl R e) (h : c ≠ 47) : TK T tl (sI R c j v) e := by
  unfold TK RK
  rw [sI_ne (Ne.symm h)]
  exact k
theorem okT_D {n a e : Nat} : okT T tl (fD n a) e ↔ okT T tl (fL n) e ∧ vlT T tl e ≠ a := by
  unfold okT fD fL vlT
  rw [Bool.and_eq_true, Bool.not_eq_true', beq_eq_false_iff_ne]
  constructor
  · rintro ⟨h1, h2, h3⟩; exact ⟨⟨h1, h2⟩, h3⟩
  · rintro ⟨⟨h1, h2⟩, h3⟩; exact ⟨h1, h2, h3⟩
theorem m_readDoor (X : HXM P sw T tl) (B : RB sw P R g d) {e : Nat} (k : TK T tl R e) (h19 : R.1 47 19 = 0) (he : e ≤ tl) (hnr : g_nr g ≤ 7) :
    (okT T tl (fL (g_nr g)) e ∧ okT T tl (fD (g_nr g) (vlT T tl e)) (nxT T tl e) → ∃ R', f_X10_readDoor R 47 = some R' ∧ MOT T tl sw P R' (gD g (vlT T tl e) (vlT T tl (nxT T tl e))) d (nxT T tl (nxT T tl e))) ∧
    (okT T tl (fL (g_nr g)) e ∧ ¬ okT T tl (fD (g_nr g) (vlT T tl e)) (nxT T tl e) → ∃ R', f_X10_readDoor R 47 = some R' ∧ MF sw P R' (tst T tl (nxT T tl e))) ∧
    (¬ okT T tl (fL (g_nr g)) e → ∃ R', f_X10_readDoor R 47 = some R' ∧ MF sw P R' (tst T tl e)) := by
  have J37 : ∀ (Q : PH) (x1 : Int32) (f : Nat), Ag sw P Q → Q.1 47 16 = nI f → ∃ R', f_X10_readDoor_J37 Q 47 x1 47 = some R' ∧ MF sw P R' f := by
    intro Q x1 f A h16
    have M1 := MF.st A h16
    have M2 := MF.st M1.1 M1.2.2
    have n19 : ¬ (sI Q 47 19 (b2i true)).1 47 19 = 0 := by rw [s47_eq]; decide
    refine ⟨_, ?_, M2⟩
    unfold f_X10_readDoor_J37 f_X10_readDoor_J42
    rw [m_takes0 n19, Option.bind_some]
    show (if (sI (sI Q 47 19 (b2i true)) 47 19 1).1 47 19 = 0 then _ else some (sI (sI Q 47 19 (b2i true)) 47 19 1)) = _
    rw [s47_eq, if_neg (by decide)]
    rfl
  rcases m_tk X B.1 k h19 he (hfL (n := g_nr g) (by omega)) with ⟨o1, R1, a1, a2, a3, a4⟩ | ⟨o1, a1, a2⟩
  · have B1 := B.f5 a2
    have he1 := (nxT_le X.2.2.1 he).2
    have ha : vlT T tl e < g_nr g := of_decide_eq_true (vl_fp o1)
    have hst : tst T tl (nxT T tl e) ≤ tl := by have := skp_in T (tl - nxT T tl e) (nxT T tl e); unfold tst; omega
    have hin := tk1_in T X.2.2.1 hst
    have k17 := a4.1
    have k18 := a4.2.2.1
    have J41 : vlT T tl (nxT T tl e) ≠ vlT T tl e ∨ (tk1 T tl (tst T tl (nxT T tl e))).1 ≠ 2 → (okT T tl (fL (g_nr g)) (nxT T tl e) → ∃ R', f_X10_readDoor_J41 R1 47 (nI (vlT T tl e)) 47 = some R' ∧ MOT T tl sw P R' (gD g (vlT T tl e) (vlT T tl (nxT T tl e))) d (nxT T tl (nxT T tl e))) ∧ (¬ okT T tl (fL (g_nr g)) (nxT T tl e) → ∃ R', f_X10_readDoor_J41 R1 47 (nI (vlT T tl e)) 47 = some R' ∧ MF sw P R' (tst T tl (nxT T tl e))) := by
      intro hor
      have B2 : RB sw P (sI R1 47 19 0) g d := B1.f5 (F5.st R1 0)
      have k2 : TK T tl (sI R1 47 19 0) (nxT T tl e) := a4.st 0
      rcases m_tk X B2.1 k2 (s47_eq R1 19 0) he1 (hfL (n := g_nr g) (by omega)) with ⟨o2, R2, b1, b2, b3, b4⟩ | ⟨o2, b1, b2⟩
      · have hab : vlT T tl e ≠ vlT T tl (nxT T tl e) := by
          rcases hor with h | h
          · exact Ne.symm h
          · exact absurd o2.1 h
        have hb : vlT T tl (nxT T tl e) < g_nr g := of_decide_eq_true (vl_fp o2)
        obtain ⟨c1, c2, c3, c4, c5, c6, c7⟩ := B2.f5 b2
        have m2 := X.mr c1
        have r59 : R2.2.2 47 24 = 59 := by rw [m2]; rfl
        have d1 : R2.1 59 (vlT T tl e) = nI (g_door g (vlT T tl e)) := by rw [c6 _ (by omega), if_pos ha]
        have d2 : R2.1 59 (vlT T tl (nxT T tl e)) = nI (g_door g (vlT T tl (nxT T tl e))) := by rw [c6 _ (by omega), if_pos hb]
        refine ⟨fun _ => ⟨sI (sI R2 59 (vlT T tl e) (nI (g_door g (vlT T tl e) ||| 2 ^ vlT T tl (nxT T tl e)))) 59 (vlT T tl (nxT T tl e)) (nI (g_door g (vlT T tl (nxT T tl e)) ||| 2 ^ vlT T tl e)), ?_, ?_, ?_, ?_⟩, fun q => absurd o2 q⟩
        · unfold f_X10_readDoor_J41 f_X10_readDoor_J42
          have b1' : f_X10_takes (sI R1 47 19 (b2i false)) 47 0 ((sI R1 47 19 (b2i false)).1 47 21 - 1) 0 = some (nI (vlT T tl (nxT T tl e)), R2) := by
            rw [show (sI R1 47 19 (b2i false)).1 47 21 = nI (g_nr g) from B2.2.2.1]
            exact b1
          rw [b1', Option.bind_some]
          show (if R2.1 47 19 = 0 then _ else _) = _
          obtain ⟨S, eS⟩ : ∃ S, S = sI R2 59 (vlT T tl e) (nI (g_door g (vlT T tl e) ||| 2 ^ vlT T tl (nxT T tl e))) := ⟨_, rfl⟩
          have s59 : S.1 59 (vlT T tl (nxT T tl e)) = nI (g_door g (vlT T tl (nxT T tl e))) := by rw [eS, sI_eq, upd_ne (Ne.symm hab)]; exact d2
          have sr : S.2.2 47 24 = 59 := by rw [eS]; exact r59
          rw [if_pos b3, gd (by omega) (by decide), gd (by omega) (by decide), nI_clamp (by omega), r59, d1]
          show ((some (sI R2 59 (vlT T tl e) (nI (g_door g (vlT T tl e)) ||| ((1 : Int32) <<< (nI (vlT T tl (nxT T tl e)) &&& 31))))).bind _) = _
          rw [mb_sh (by omega), fa_or, ← eS, Option.bind_some, gd (by omega) (by decide), gd (by omega) (by decide), nI_clamp (by omega), sr, s59, mb_sh (by omega), fa_or, Option.bind_some]
        · have zc : ∀ c, c ≠ 59 → (sI (sI R2 59 (vlT T tl e) (nI (g_door g (vlT T tl e) ||| 2 ^ vlT T tl (nxT T tl e)))) 59 (vlT T tl (nxT T tl e)) (nI (g_door g (vlT T tl (nxT T tl e)) ||| 2 ^ vlT T tl e))).1 c = R2.1 c := fun c hc => by rw [sI_ne hc, sI_ne hc]
          refine ⟨(c1.tr (ag_5x sw _ _ _ (by decide))).tr (ag_5x sw _ _ _ (by decide)), ?_, ?_, ?_, ?_, ?_, ?_⟩
          · rw [zc 47 (by decide)]; exact c2
          · rw [zc 47 (by decide)]; exact c3
          · rw [zc 57 (by decide)]; exact c4
          · rw [zc 58 (by decide)]; exact c5
          · rw [sI_eq, sI_eq]
            intro q hq
            show _ = nI (if q < g_nr g then upN (upN (g_door g) (vlT T tl e) (g_door g (vlT T tl e) ||| 2 ^ vlT T tl (nxT T tl e))) (vlT T tl (nxT T tl e)) (g_door g (vlT T tl (nxT T tl e)) ||| 2 ^ vlT T tl e) q else 0)
            unfold upN
            by_cases q1 : q = vlT T tl (nxT T tl e)
            · rw [q1, upd_eq, if_pos hb, if_pos rfl]
            · rw [upd_ne q1, if_neg q1]
              by_cases q2 : q = vlT T tl e
              · rw [q2, upd_eq, if_pos ha, if_pos rfl]
              · rw [upd_ne q2, if_neg q2]
                exact c6 q hq
          · rw [zc 60 (by decide)]; exact c7
        · rw [sI_ne (by decide), sI_ne (by decide)]; exact b3
        · exact (b4.fr (by decide)).fr (by decide)
      · refine ⟨fun q => absurd q o2, fun _ => ⟨_, ?_, b2⟩⟩
        unfold f_X10_readDoor_J41 f_X10_readDoor_J42
        have b1' : f_X10_takes (sI R1 47 19 (b2i false)) 47 0 ((sI R1 47 19 (b2i false)).1 47 21 - 1) 0 = some (0, sI (sI R1 47 19 0) 47 19 1) := by
          rw [show (sI R1 47 19 (b2i false)).1 47 21 = nI (g_nr g) from B2.2.2.1]
          exact b1
        rw [b1', Option.bind_some]
        show (if (sI (sI R1 47 19 0) 47 19 1).1 47 19 = 0 then _ else some (sI (sI R1 47 19 0) 47 19 1)) = _
        rw [s47_eq, if_neg (by decide)]
    have hbody : f_X10_readDoor R 47 = (if (tk1 T tl (tst T tl (nxT T tl e))).1 = 2 then (if vlT T tl (nxT T tl e) = vlT T tl e then f_X10_readDoor_J37 R1 47 (nI (vlT T tl e)) 47 else f_X10_readDoor_J41 R1 47 (nI (vlT T tl e)) 47) else f_X10_readDoor_J41 R1 47 (nI (vlT T tl e)) 47) := by
      unfold f_X10_readDoor
      rw [B.2.2.1, a1, Option.bind_some]
      show (if R1.1 47 19 = 0 then (if R1.1 47 17 = 2 then (if R1.1 47 18 = nI (vlT T tl e) then f_X10_readDoor_J37 R1 47 (nI (vlT T tl e)) 47 else f_X10_readDoor_J41 R1 47 (nI (vlT T tl e)) 47) else f_X10_readDoor_J41 R1 47 (nI (vlT T tl e)) 47) else f_X10_readDoor_J37 R1 47 (nI (vlT T tl e)) 47) = _
      rw [if_pos a3, k17]
      by_cases h2 : (tk1 T tl (tst T tl (nxT T tl e))).1 = 2
      · rw [if_pos ((mso_2 hin.2.2.2.1).mpr h2), if_pos h2, k18]
        have hv1 : (tk1 T tl (tst T tl (nxT T tl e))).2.1 < 1000 := hin.2.2.1
        by_cases h3 : vlT T tl (nxT T tl e) = vlT T tl e
        · rw [if_pos h3, if_pos (by unfold vlT at h3 ⊢; rw [h3])]
        · have hv2 : vlT T tl (nxT T tl e) < 1000 := hv1
          have hne : ¬ nI (tk1 T tl (tst T tl (nxT T tl e))).2.1 = nI (vlT T tl e) := fun q => h3 ((nI_eq (a := vlT T tl (nxT T tl e)) (by omega) (by omega)).mp q)
          rw [if_neg h3, if_neg hne]
      · rw [if_neg (fun q => h2 ((mso_2 hin.2.2.2.1).mp q)), if_neg h2]
    rw [hbody]
    refine ⟨fun q => ?_, fun q => ?_, fun q => absurd o1 q⟩
    · have q2 := okT_D.mp q.2
      rw [if_pos q2.1.1, if_neg q2.2]
      exact (J41 (Or.inl q2.2)).1 q2.1
    · by_cases h2 : (tk1 T tl (tst T tl (nxT T tl e))).1 = 2
      · rw [if_pos h2]
        by_cases h3 : vlT T tl (nxT T tl e) = vlT T tl e
        · rw [if_pos h3]
          exact J37 R1 _ _ B1.1 a4.2.1
        · rw [if_neg h3]
          exact (J41 (Or.inl h3)).2 (fun o => q.2 (okT_D.mpr ⟨o, h3⟩))
      · rw [if_neg h2]
        exact (J41 (Or.inr h2)).2 (fun o => h2 o.1)
  · refine ⟨fun q => absurd q.1 o1, fun q => absurd q.1 o1, fun _ => ?_⟩
    unfold f_X10_readDoor
    rw [B.2.2.1, a1, Option.bind_some]
    show ∃ R', (if (sI R 47 19 1).1 47 19 = 0 then _ else f_X10_readDoor_J37 (sI R 47 19 1) 47 0 47) = some R' ∧ _
    rw [s47_eq, if_neg (by decide)]
    exact J37 _ _ _ a2.1 a2.2.2
/-- two numbers of a place -/
theorem m_two (X : HXM P sw T tl) (B : RB sw P R g d) {e : Nat} (k : TK T tl R e) (h19 : R.1 47 19 = 0) (he : e ≤ tl) (hnp : g_np g ≤ 6) (hnr : g_nr g ≤ 7) :
    ∃ (p r : Nat) (R1 R2 : PH), p < 6 ∧ r < 7 ∧ f_X10_takes R 47 0 (R.1 47 20 - 1) 0 = some (nI p, R1) ∧ f_X10_takes R1 47 0 (R1.1 47 21 - 1) 0 = some (nI r, R2) ∧
      ((okT T tl (fL (g_np g)) e ∧ okT T tl (fL (g_nr g)) (nxT T tl e) ∧ p = vlT T tl e ∧ r = vlT T tl (nxT T tl e) ∧ MOT T tl sw P R2 g d (nxT T tl (nxT T tl e))) ∨
       (okT T tl (fL (g_np g)) e ∧ ¬ okT T tl (fL (g_nr g)) (nxT T tl e) ∧ RB sw P R2 g d ∧ MF sw P R2 (tst T tl (nxT T tl e))) ∨
       (¬ okT T tl (fL (g_np g)) e ∧ RB sw P R2 g d ∧ MF sw P R2 (tst T tl e))) := by
  rcases m_tk X B.1 k h19 he (hfL (n := g_np g) (by omega)) with ⟨o1, R1, a1, a2, a3, a4⟩ | ⟨o1, a1, a2⟩
  · have B1 := B.f5 a2
    have he1 := (nxT_le X.2.2.1 he).2
    have hp : vlT T tl e < g_np g := of_decide_eq_true (vl_fp o1)
    rcases m_tk X B1.1 a4 a3 he1 (hfL (n := g_nr g) (by omega)) with ⟨o2, R2, b1, b2, b3, b4⟩ | ⟨o2, b1, b2⟩
    · have hr : vlT T tl (nxT T tl e) < g_nr g := of_decide_eq_true (vl_fp o2)
      exact ⟨_, _, R1, R2, by omega, by omega, by rw [B.2.1]; exact a1, by rw [B1.2.2.1]; exact b1, Or.inl ⟨o1, o2, rfl, rfl, B1.f5 b2, b3, b4⟩⟩
    · exact ⟨vlT T tl e, 0, R1, _, by omega, by decide, by rw [B.2.1]; exact a1, by rw [B1.2.2.1]; exact b1, Or.inr (Or.inl ⟨o1, o2, B1.f5 (F5.st R1 1), b2⟩)⟩
  · have n19 : ¬ (sI R 47 19 1).1 47 19 = 0 := by rw [a2.2.1]; decide
    have B1 := B.f5 (F5.st R 1)
    exact ⟨0, 0, _, _, by decide, by decide, by rw [B.2.1]; exact a1, m_takes0 n19 _ _ _, Or.inr (Or.inr ⟨o1, B1.f5 (F5.st _ 1), MF.st a2.1 a2.2.2⟩)⟩
theorem m_placeB (X : HXM P sw T tl) (B : RB sw P R g d) {e : Nat} (k : TK T tl R e) (h19 : R.1 47 19 = 0) (he : e ≤ tl) (hnp : g_np g ≤ 6) (hnr : g_nr g ≤ 7) :
    (okT T tl (fL (g_np g)) e ∧ okT T tl (fL (g_nr g)) (nxT T tl e) → ∃ R', f_X10_readPlace R 47 98 = some R' ∧ MOT T tl sw P R' (gB g (vlT T tl e) (vlT T tl (nxT T tl e))) d (nxT T tl (nxT T tl e))) ∧
    (okT T tl (fL (g_np g)) e ∧ ¬ okT T tl (fL (g_nr g)) (nxT T tl e) → ∃ R', f_X10_readPlace R 47 98 = some R' ∧ MF sw P R' (tst T tl (nxT T tl e))) ∧
    (¬ okT T tl (fL (g_np g)) e → ∃ R', f_X10_readPlace R 47 98 = some R' ∧ MF sw P R' (tst T tl e)) := by
  obtain ⟨p, r, R1, R2, hp, hr, a1, a2, hc⟩ := m_two X B k h19 he hnp hnr
  have hbody : Ag sw P R2 → f_X10_readPlace R 47 98 = (if R2.1 47 19 = 0 then some (sI R2 57 p (nI r)) else some (sI R2 57 p (-9))) := fun A2 => by
    have r57 : R2.2.2 47 22 = 57 := by rw [X.mr A2]; rfl
    unfold f_X10_readPlace
    rw [a1, Option.bind_some]
    show ((f_X10_takes R1 47 0 (R1.1 47 21 - 1) 0).bind _) = _
    rw [a2, Option.bind_some, if_neg (by decide), if_pos rfl, gd (by omega) (by decide), gd (by omega) (by decide), nI_clamp (by omega), r57, Option.bind_some, Option.bind_some]
  rcases hc with ⟨o1, o2, ep, er, M, h0, kk⟩ | ⟨o1, o2, B2, M⟩ | ⟨o1, B2, M⟩
  · refine ⟨fun _ => ⟨sI R2 57 p (nI r), by rw [hbody M.1, if_pos h0], ?_, ?_, kk.fr (by decide)⟩, fun q => absurd o2 q.2, fun q => absurd o1 q⟩
    · obtain ⟨c1, c2, c3, c4, c5, c6, c7⟩ := M
      have hpl : p < g_np g := by rw [ep]; exact of_decide_eq_true (vl_fp o1)
      have zc : ∀ c, c ≠ 57 → (sI R2 57 p (nI r)).1 c = R2.1 c := fun c hc => sI_ne hc
      rw [← ep, ← er]
      refine ⟨c1.tr (ag_5x sw _ _ _ (by decide)), ?_, ?_, ?_, ?_, ?_, ?_⟩
      · rw [zc 47 (by decide)]; exact c2
      · rw [zc 47 (by decide)]; exact c3
      · rw [sI_eq]
        intro q hq
        show _ = bedI (if q < g_np g then upB (g_bed g) p (some r) q else none)
        unfold upB
        by_cases q1 : q = p
        · rw [q1, upd_eq, if_pos hpl, if_pos rfl]
          rfl
        · rw [upd_ne q1, if_neg q1]
          exact c4 q hq
      · rw [zc 58 (by decide)]; exact c5
      · rw [zc 59 (by decide)]; exact c6
      · rw [zc 60 (by decide)]; exact c7
    · rw [sI_ne (by decide)]; exact h0
  · have n0 : ¬ R2.1 47 19 = 0 := by rw [M.2.1]; decide
    exact ⟨fun q => absurd q.2 o2, fun _ => ⟨_, by rw [hbody B2.1, if_neg n0], M.ag5x _ (by decide)⟩, fun q => absurd o1 q⟩
  · have n0 : ¬ R2.1 47 19 = 0 := by rw [M.2.1]; decide
    exact ⟨fun q => absurd q.1 o1, fun q => absurd q.1 o1, fun _ => ⟨_, by rw [hbody B2.1, if_neg n0], M.ag5x _ (by decide)⟩⟩
theorem m_placeW (X : HXM P sw T tl) (B : RB sw P R g d) {e : Nat} (k : TK T tl R e) (h19 : R.1 47 19 = 0) (he : e ≤ tl) (hnp : g_np g ≤ 6) (hnr : g_nr g ≤ 7) :
    (okT T tl (fL (g_np g)) e ∧ okT T tl (fL (g_nr g)) (nxT T tl e) → ∃ R', f_X10_readPlace R 47 119 = some R' ∧ MOT T tl sw P R' (gW g (vlT T tl e) (vlT T tl (nxT T tl e))) d (nxT T tl (nxT T tl e))) ∧
    (okT T tl (fL (g_np g)) e ∧ ¬ okT T tl (fL (g_nr g)) (nxT T tl e) → ∃ R', f_X10_readPlace R 47 119 = some R' ∧ MF sw P R' (tst T tl (nxT T tl e))) ∧
    (¬ okT T tl (fL (g_np g)) e → ∃ R', f_X10_readPlace R 47 119 = some R' ∧ MF sw P R' (tst T tl e)) := by
  obtain ⟨p, r, R1, R2, hp, hr, a1, a2, hc⟩ := m_two X B k h19 he hnp hnr
  have hbody : Ag sw P R2 → f_X10_readPlace R 47 119 = some (sI R2 58 p (R2.1 58 p ||| nI (2 ^ r))) := fun A2 => by
    have r58 : R2.2.2 47 23 = 58 := by rw [X.mr A2]; rfl
    unfold f_X10_readPlace
    rw [a1, Option.bind_some]
    show ((f_X10_takes R1 47 0 (R1.1 47 21 - 1) 0).bind _) = _
    rw [a2, Option.bind_some, if_neg (by decide), if_neg (by decide), gd (by omega) (by decide), gd (by omega) (by decide), nI_clamp (by omega), r58, mb_sh (by omega), Option.bind_some]
  rcases hc with ⟨o1, o2, ep, er, M, h0, kk⟩ | ⟨o1, o2, B2, M⟩ | ⟨o1, B2, M⟩
  · refine ⟨fun _ => ⟨_, hbody M.1, ?_, ?_, kk.fr (by decide)⟩, fun q => absurd o2 q.2, fun q => absurd o1 q⟩
    · obtain ⟨c1, c2, c3, c4, c5, c6, c7⟩ := M
      have hpl : p < g_np g := by rw [ep]; exact of_decide_eq_true (vl_fp o1)
      have zc : ∀ c, c ≠ 58 → (sI R2 58 p (R2.1 58 p ||| nI (2 ^ r))).1 c = R2.1 c := fun c hc => sI_ne hc
      rw [← ep, ← er]
      refine ⟨c1.tr (ag_5x sw _ _ _ (by decide)), ?_, ?_, ?_, ?_, ?_, ?_⟩
      · rw [zc 47 (by decide)]; exact c2
      · rw [zc 47 (by decide)]; exact c3
      · rw [zc 57 (by decide)]; exact c4
      · rw [sI_eq]
        intro q hq
        show _ = nI (if q < g_np g then upN (g_want g) p (g_want g p ||| 2 ^ r) q else 0)
        unfold upN
        by_cases q1 : q = p
        · rw [q1, upd_eq, if_pos hpl, if_pos rfl, c5 p hp, if_pos hpl, fa_or]
        · rw [upd_ne q1, if_neg q1]
          exact c5 q hq
      · rw [zc 59 (by decide)]; exact c6
      · rw [zc 60 (by decide)]; exact c7
    · rw [sI_ne (by decide)]; exact h0
  · exact ⟨fun q => absurd q.2 o2, fun _ => ⟨_, hbody B2.1, M.ag5x _ (by decide)⟩, fun q => absurd o1 q⟩
  · exact ⟨fun q => absurd q.1 o1, fun q => absurd q.1 o1, fun _ => ⟨_, hbody B2.1, M.ag5x _ (by decide)⟩⟩
theorem m_placeX (X : HXM P sw T tl) (B : RB sw P R g d) {e : Nat} (k : TK T tl R e) (h19 : R.1 47 19 = 0) (he : e ≤ tl) (hnp : g_np g ≤ 6) (hnr : g_nr g ≤ 7) (hk : d_k d < 10) :
    (okT T tl (fL (g_np g)) e ∧ okT T tl (fL (g_nr g)) (nxT T tl e) ∧ okT T tl fU (nxT T tl (nxT T tl e)) → ∃ R', f_X10_readPlace R 47 120 = some R' ∧ MOT T tl sw P R' g (sGr d (vlT T tl e) (vlT T tl (nxT T tl e)) (vlT T tl (nxT T tl (nxT T tl e)))) (nxT T tl (nxT T tl (nxT T tl e)))) ∧
    (okT T tl (fL (g_np g)) e ∧ okT T tl (fL (g_nr g)) (nxT T tl e) ∧ ¬ okT T tl fU (nxT T tl (nxT T tl e)) → ∃ R', f_X10_readPlace R 47 120 = some R' ∧ MF sw P R' (tst T tl (nxT T tl (nxT T tl e)))) ∧
    (okT T tl (fL (g_np g)) e ∧ ¬ okT T tl (fL (g_nr g)) (nxT T tl e) → ∃ R', f_X10_readPlace R 47 120 = some R' ∧ MF sw P R' (tst T tl (nxT T tl e))) ∧
    (¬ okT T tl (fL (g_np g)) e → ∃ R', f_X10_readPlace R 47 120 = some R' ∧ MF sw P R' (tst T tl e)) := by
  obtain ⟨p, r, R1, R2, hp, hr, a1, a2, hc⟩ := m_two X B k h19 he hnp hnr
  have hbody : ∀ (u : Nat) (R3 : PH), f_X10_takes R2 47 0 99 0 = some (nI u, R3) → RB sw P R3 g d → f_X10_readPlace R 47 120 = some (sI (sI (sI (sI R3 60 (16 + 3 * d_k d) (nI p)) 60 (17 + 3 * d_k d) (nI r)) 60 (18 + 3 * d_k d) (nI u)) 60 15 (nI (d_k d + 1))) := fun u R3 q B3 => by
    have r60 : R3.2.2 47 25 = 60 := by rw [X.mr B3.1]; rfl
    have hG := m_grantsIn (R := R3) (n0 := 46) (c := 60) rfl B3.2.2.2.2.2.2.2.2.2.2.1 hk p r u
    unfold f_X10_readPlace
    rw [a1, Option.bind_some]
    show ((f_X10_takes R1 47 0 (R1.1 47 21 - 1) 0).bind _) = _
    rw [a2, Option.bind_some, if_pos rfl]
    show ((f_X10_takes R2 47 0 99 0).bind _) = _
    rw [q, Option.bind_some]
    show ((f_X10_grantsIn 46 R3 (R3.2.2 47 25) (nI p) (nI r) (nI u)).bind _) = _
    rw [r60, hG, Option.bind_some]
  have mf4 : ∀ (R3 : PH) (f : Nat) (v1 v2 v3 v4 : Int32), MF sw P R3 f → MF sw P (sI (sI (sI (sI R3 60 (16 + 3 * d_k d) v1) 60 (17 + 3 * d_k d) v2) 60 (18 + 3 * d_k d) v3) 60 15 v4) f := fun R3 f v1 v2 v3 v4 M => (((M.ag5x _ (by decide)).ag5x _ (by decide)).ag5x _ (by decide)).ag5x _ (by decide)
  rcases hc with ⟨o1, o2, ep, er, M, h0, kk⟩ | ⟨o1, o2, B2, M⟩ | ⟨o1, B2, M⟩
  · have he2 := (nxT_le X.2.2.1 (nxT_le X.2.2.1 he).2).2
    rcases m_tk X M.1 kk h0 he2 hfU with ⟨o3, R3, b1, b2, b3, b4⟩ | ⟨o3, b1, b2⟩
    · have B3 := M.f5 b2
      refine ⟨fun _ => ⟨_, hbody _ _ b1 B3, ?_, ?_, (((b4.fr (by decide)).fr (by decide)).fr (by decide)).fr (by decide)⟩, fun q => absurd o3 q.2.2, fun q => absurd o2 q.2, fun q => absurd o1 q⟩
      · obtain ⟨c1, c2, c3, c4, c5, c6, c7⟩ := B3
        rw [← ep, ← er]
        have z : ∀ c, c ≠ 60 → (sI (sI (sI (sI R3 60 (16 + 3 * d_k d) (nI p)) 60 (17 + 3 * d_k d) (nI r)) 60 (18 + 3 * d_k d) (nI (vlT T tl (nxT T tl (nxT T tl e))))) 60 15 (nI (d_k d + 1))).1 c = R3.1 c := fun c hc => by rw [sI_ne hc, sI_ne hc, sI_ne hc, sI_ne hc]
        have z60 : (sI (sI (sI (sI R3 60 (16 + 3 * d_k d) (nI p)) 60 (17 + 3 * d_k d) (nI r)) 60 (18 + 3 * d_k d) (nI (vlT T tl (nxT T tl (nxT T tl e))))) 60 15 (nI (d_k d + 1))).1 60 = upd (upd (upd (upd (R3.1 60) (16 + 3 * d_k d) (nI p)) (17 + 3 * d_k d) (nI r)) (18 + 3 * d_k d) (nI (vlT T tl (nxT T tl (nxT T tl e))))) 15 (nI (d_k d + 1)) := by rw [sI_eq, sI_eq, sI_eq, sI_eq]
        refine ⟨(((c1.tr (ag_5x sw _ _ _ (by decide))).tr (ag_5x sw _ _ _ (by decide))).tr (ag_5x sw _ _ _ (by decide))).tr (ag_5x sw _ _ _ (by decide)), ?_, ?_, ?_, ?_, ?_, ?_⟩
        · rw [z 47 (by decide)]; exact c2
        · rw [z 47 (by decide)]; exact c3
        · rw [z 57 (by decide)]; exact c4
        · rw [z 58 (by decide)]; exact c5
        · rw [z 59 (by decide)]; exact c6
        · rw [z60]
          refine c7.gr hk hnp hnr (fun j h1 h2 h3 h4 => ?_) upd_eq ?_ ?_ ?_
          · rw [upd_ne h1, upd_ne h4, upd_ne h3, upd_ne h2]
          · rw [upd_ne (by omega), upd_ne (by omega), upd_ne (by omega), upd_eq]
          · rw [upd_ne (by omega), upd_ne (by omega), upd_eq]
          · rw [upd_ne (by omega), upd_eq]
      · rw [sI_ne (by decide), sI_ne (by decide), sI_ne (by decide), sI_ne (by decide)]
        exact b3
    · exact ⟨fun q => absurd q.2.2 o3, fun _ => ⟨_, hbody 0 _ b1 (M.f5 (F5.st R2 1)), mf4 _ _ _ _ _ _ b2⟩, fun q => absurd o2 q.2, fun q => absurd o1 q⟩
  · have n0 : ¬ R2.1 47 19 = 0 := by rw [M.2.1]; decide
    exact ⟨fun q => absurd q.2.1 o2, fun q => absurd q.2.1 o2, fun _ => ⟨_, hbody 0 _ (m_takes0 n0 _ _ _) (B2.f5 (F5.st R2 1)), mf4 _ _ _ _ _ _ (MF.st M.1 M.2.2)⟩, fun q => absurd o1 q⟩
  · have n0 : ¬ R2.1 47 19 = 0 := by rw [M.2.1]; decide
    exact ⟨fun q => absurd q.1 o1, fun q => absurd q.1 o1, fun q => absurd q.1 o1, fun _ => ⟨_, hbody 0 _ (m_takes0 n0 _ _ _) (B2.f5 (F5.st R2 1)), mf4 _ _ _ _ _ _ (MF.st M.1 M.2.2)⟩⟩
end MPL
