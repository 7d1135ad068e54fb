/-! the model's tokens -/
section MTOK
variable {T : Nat → Nat} {tl : Nat} {P : PH}
theorem m_let (hr : MR P) (t : TXM P.1 T tl) {e : Nat} (he : e ≤ tl) : f_X10_letterAt P 47 (nI e) = some (if e < tl then nI (T e) else -1) := by
  have ht := t.1
  unfold f_X10_letterAt
  rw [t.2.2.1]
  by_cases h : e < tl
  · rw [if_neg (nI_ge h (by omega)), gd (by omega) (by decide), nI_clamp (by omega), show P.2.2 47 13 = 56 by rw [hr]; rfl, t.2.2.2 e h, if_pos h]
  · rw [if_pos (nI_le (by omega) (by omega)), if_neg h]
theorem m_fig (P : PH) {c : Nat} (hc : c ≤ 255) : f_X10_isFigure P (nI c) = some (dig c) := by
  unfold f_X10_isFigure
  rw [m_in, Option.bind_some]
  congr 1
  unfold dig
  apply Bool.eq_iff_iff.mpr
  rw [Bool.and_eq_true, decide_eq_true_eq, decide_eq_true_eq, decide_eq_true_eq, show (48 : Int32) = nI 48 from rfl, show (57 : Int32) = nI 57 from rfl, nI_ltI (by omega) (by omega), nI_ltI (by omega) (by omega)]
  omega
theorem m_fig1 (P : PH) : f_X10_isFigure P (-1) = some false := by
  unfold f_X10_isFigure
  rw [m_in]
  rfl
theorem m_skip (K : PH → Option PH) : ∀ k e n (P : PH), MR P → TXM P.1 T tl → P.1 47 15 = nI e → e + k = tl → k < n → ∃ P', f_X10_next_L0 K 47 n P = K P' ∧ F47 P P' ∧ P'.1 47 15 = nI (skp T k e) := by
  intro k
  induction k with
  | zero =>
    intro e n P hr t h5 he hn
    obtain ⟨n, rfl⟩ := pre_n hn
    have ht := t.1
    unfold f_X10_next_L0 skp
    rw [h5, m_let hr t (show e ≤ tl by omega), if_neg (show ¬ e < tl by omega), Option.bind_some, if_neg (by decide)]
    exact ⟨P, rfl, F47.rf P, h5⟩
  | succ k ih =>
    intro e n P hr t h5 he hn
    obtain ⟨n, rfl⟩ := pre_n hn
    have ht := t.1
    have hTe := t.2.1 e
    unfold f_X10_next_L0 skp
    rw [h5, m_let hr t (show e ≤ tl by omega), if_pos (show e < tl by omega), Option.bind_some, nI_1]
    by_cases hc : T e = 32
    · rw [if_pos (by rw [hc]; rfl), if_pos hc]
      have fs := F47.st P (j := 15) (nI (e + 1)) (by decide)
      obtain ⟨P', a1, a2, a3⟩ := ih (e + 1) n (sI P 47 15 (nI (e + 1))) hr (fs.txm t) (s47_eq P 15 _) (by omega) (by omega)
      exact ⟨P', a1, fs.tr a2, a3⟩
    · rw [if_neg (fun q : nI (T e) = 32 => hc ((nI_eq (b := 32) (by omega) (by omega)).mp q)), if_neg hc]
      exact ⟨P, rfl, F47.rf P, h5⟩
theorem m_num (K : PH → Option PH) (x1 : Int32) : ∀ k e v n (P : PH), MR P → TXM P.1 T tl → P.1 47 15 = nI e → P.1 47 18 = nI v → v < 1000 → e + k = tl → k < n → ∃ P', f_X10_next_L67 K 47 x1 n P = K P' ∧ F47 P P' ∧ P'.1 47 16 = P.1 47 16 ∧ P'.1 47 15 = nI (nmb T k e v).1 ∧ P'.1 47 18 = nI (nmb T k e v).2 := by
  intro k
  induction k with
  | zero =>
    intro e v n P hr t h5 h4 hv he hn
    obtain ⟨n, rfl⟩ := pre_n hn
    have ht := t.1
    unfold f_X10_next_L67 nmb
    rw [h5, m_let hr t (show e ≤ tl by omega), if_neg (show ¬ e < tl by omega), Option.bind_some, m_fig1, Option.bind_some, if_b2i, if_neg (show ¬ false = true by decide)]
    exact ⟨P, rfl, F47.rf P, rfl, h5, h4⟩
  | succ k ih =>
    intro e v n P hr t h5 h4 hv he hn
    obtain ⟨n, rfl⟩ := pre_n hn
    have ht := t.1
    have hTe := t.2.1 e
    unfold f_X10_next_L67 nmb
    rw [h5, m_let hr t (show e ≤ tl by omega), if_pos (show e < tl by omega), Option.bind_some, m_fig P hTe, Option.bind_some, if_b2i, Option.bind_some, h4]
    by_cases hc : dig (T e) = true
    · have hd : 48 ≤ T e ∧ T e ≤ 57 := by
        unfold dig at hc
        rw [Bool.and_eq_true, decide_eq_true_eq, decide_eq_true_eq] at hc
        exact hc
      rw [if_pos hc, if_pos hc]
      by_cases hv2 : v ≤ 99
      · have fa := F47.st P (j := 18) (nI (v * 10 + T e - 48)) (by decide)
        have fb := F47.st (sI P 47 18 (nI (v * 10 + T e - 48))) (j := 15) (nI (e + 1)) (by decide)
        have z5 : (sI P 47 18 (nI (v * 10 + T e - 48))).1 47 15 = nI e := by rw [s47_ne _ _ (by decide)]; exact h5
        rw [if_pos (show nI v ≤ (99 : Int32) from nI_le (b := 99) hv2 (by omega)), show (10 : Int32) = nI 10 from rfl, pk_mul, Nat.mul_comm 10 v, nI_add, show (48 : Int32) = nI 48 from rfl, pk_sub (by omega), Option.bind_some, z5, nI_1, if_pos hv2, Option.bind_some]
        obtain ⟨P', a1, a2, a3, a4, a5⟩ := ih (e + 1) (v * 10 + T e - 48) n (sI (sI P 47 18 (nI (v * 10 + T e - 48))) 47 15 (nI (e + 1))) hr ((fa.tr fb).txm t) (s47_eq _ 15 _) (by rw [s47_ne _ _ (by decide), s47_eq]) (by omega) (by omega) (by omega)
        exact ⟨P', a1, (fa.tr fb).tr a2, by rw [a3, s47_ne _ _ (by decide), s47_ne _ _ (by decide)], a4, a5⟩
      · have fa := F47.st P (j := 18) (nI v) (by decide)
        have fb := F47.st (sI P 47 18 (nI v)) (j := 15) (nI (e + 1)) (by decide)
        have z5 : (sI P 47 18 (nI v)).1 47 15 = nI e := by rw [s47_ne _ _ (by decide)]; exact h5
        rw [if_neg (show ¬ nI v ≤ (99 : Int32) from nI_ge (a := 99) (by omega) (by omega)), if_neg hv2, z5, nI_1, Option.bind_some]
        obtain ⟨P', a1, a2, a3, a4, a5⟩ := ih (e + 1) v n (sI (sI P 47 18 (nI v)) 47 15 (nI (e + 1))) hr ((fa.tr fb).txm t) (s47_eq _ 15 _) (by rw [s47_ne _ _ (by decide), s47_eq]) hv (by omega) (by omega)
        exact ⟨P', a1, (fa.tr fb).tr a2, by rw [a3, s47_ne _ _ (by decide), s47_ne _ _ (by decide)], a4, a5⟩
    · rw [if_neg hc, if_neg hc]
      exact ⟨P, rfl, F47.rf P, rfl, h5, h4⟩
/-- the model's token -/
def RK (s : PI) (st : Nat) (q : Nat × Nat × Nat) : Prop := s 47 17 = nI (mso q.1 q.2.1) ∧ s 47 16 = nI st ∧ s 47 18 = nI q.2.1 ∧ s 47 15 = nI q.2.2
theorem m_next (hr : MR P) (t : TXM P.1 T tl) {e : Nat} (h5 : P.1 47 15 = nI e) (he : e ≤ tl) : ∃ P', f_X10_next P 47 = some P' ∧ F47 P P' ∧ RK P'.1 (tst T tl e) (tk1 T tl (tst T tl e)) := by
  have ht := t.1
  obtain ⟨Q, a1, a2, a3⟩ := m_skip (T := T) (fun P11 => ((f_X10_letterAt (sI P11 47 16 (P11.1 47 15)) 47 ((sI P11 47 16 (P11.1 47 15)).1 47 15)).bind fun q12 => ((some (sI (sI P11 47 16 (P11.1 47 15)) 47 18 (0 : Int32))).bind fun P13 => (if 0 ≤ q12 then ((f_X10_isFigure P13 q12).bind fun q14 => (if (b2i q14) = 0 then (if q12 = (112 : Int32) then f_X10_next_J209 P13 47 q12 else (if q12 = (114 : Int32) then f_X10_next_J209 P13 47 q12 else (if q12 = (100 : Int32) then f_X10_next_J209 P13 47 q12 else (if q12 = (98 : Int32) then f_X10_next_J209 P13 47 q12 else (if q12 = (119 : Int32) then f_X10_next_J209 P13 47 q12 else (if q12 = (120 : Int32) then f_X10_next_J209 P13 47 q12 else f_X10_next_J214 P13 47 q12 false)))))) else f_X10_next_L67 (fun P15 => (if (99 : Int32) < (P15.1 47 18) then some (sI P15 47 17 (4 : Int32)) else (if q12 = (48 : Int32) then (if ((P15.1 47 15) - (P15.1 47 16)) ≤ (1 : Int32) then some (sI P15 47 17 (2 : Int32)) else some (sI P15 47 17 (4 : Int32))) else some (sI P15 47 17 (2 : Int32))))) 47 q12 1000 P13)) else some (sI P13 47 17 (0 : Int32)))))) (tl - e) e 1000 P hr t h5 (by omega) (by omega)
  have hin := skp_in T (tl - e) e
  have tq := a2.txm t
  have rq : MR Q := by unfold MR; rw [a2.1]; exact hr
  change Q.1 47 15 = nI (tst T tl e) at a3
  have hs : tst T tl e ≤ tl := by unfold tst; omega
  generalize tst T tl e = s at a3 hs ⊢
  unfold f_X10_next
  rw [a1, a3]
  obtain ⟨S, eS⟩ : ∃ S, S = sI Q 47 16 (nI s) := ⟨_, rfl⟩
  have fS : F47 Q S := by rw [eS]; exact F47.st Q _ (by decide)
  have tS := fS.txm tq
  have rS : MR S := by unfold MR; rw [fS.1]; exact rq
  have s3 : S.1 47 16 = nI s := by rw [eS]; exact s47_eq Q 16 _
  have s5 : S.1 47 15 = nI s := by rw [eS, s47_ne _ _ (by decide)]; exact a3
  obtain ⟨N, eN⟩ : ∃ N, N = sI S 47 18 (nI 0) := ⟨_, rfl⟩
  have fN : F47 S N := by rw [eN]; exact F47.st S _ (by decide)
  have tN := fN.txm tS
  have rN : MR N := by unfold MR; rw [fN.1]; exact rS
  have n3 : N.1 47 16 = nI s := by rw [eN, s47_ne _ _ (by decide)]; exact s3
  have n5 : N.1 47 15 = nI s := by rw [eN, s47_ne _ _ (by decide)]; exact s5
  have n8 : N.1 47 18 = nI 0 := by rw [eN]; exact s47_eq S 18 _
  rw [← eS, s5, m_let rS tS hs, Option.bind_some, show (0 : Int32) = nI 0 from rfl, ← eN, Option.bind_some]
  have hTs := t.2.1 s
  by_cases h : s < tl
  · rw [if_pos h, if_pos (show nI 0 ≤ nI (T s) from nI_le (Nat.zero_le _) (by omega)), m_fig N hTs, Option.bind_some, show (nI 0 : Int32) = 0 from rfl, if_b2i]
    by_cases hd : dig (T s) = true
    · rw [if_pos hd]
      obtain ⟨M, b1, b2, b3, b4, b5⟩ := m_num (T := T) (fun P15 => (if (99 : Int32) < (P15.1 47 18) then some (sI P15 47 17 (4 : Int32)) else (if nI (T s) = (48 : Int32) then (if ((P15.1 47 15) - (P15.1 47 16)) ≤ (1 : Int32) then some (sI P15 47 17 (2 : Int32)) else some (sI P15 47 17 (4 : Int32))) else some (sI P15 47 17 (2 : Int32))))) (nI (T s)) (tl - s) s 0 1000 N rN tN n5 n8 (by decide) (by omega) (by omega)
      change M.1 47 15 = nI (tnm T tl s).1 at b4
      change M.1 47 18 = nI (tnm T tl s).2 at b5
      have hn := nmb_in T t.2.1 (tl - s) s 0 (by decide)
      change s ≤ (tnm T tl s).1 ∧ (tnm T tl s).1 ≤ s + (tl - s) ∧ (tnm T tl s).2 < 1000 at hn
      have m3 : M.1 47 16 = nI s := b3.trans n3
      have ek : tk1 T tl s = ((if (T s = 48 ∧ s + 1 < (tnm T tl s).1) ∨ 99 < (tnm T tl s).2 then 3 else 2), (tnm T tl s).2, (tnm T tl s).1) := by unfold tk1; rw [if_pos h, if_pos hd]
      have fin : ∀ so : Nat, so = mso (if (T s = 48 ∧ s + 1 < (tnm T tl s).1) ∨ 99 < (tnm T tl s).2 then 3 else 2) (tnm T tl s).2 → ∃ P', some (sI M 47 17 (nI so)) = some P' ∧ F47 P P' ∧ RK P'.1 s (tk1 T tl s) := by
        intro so hso
        refine ⟨_, rfl, ((a2.tr fS).tr fN).tr (b2.tr (F47.st M _ (by decide))), ?_⟩
        rw [ek]
        exact ⟨by rw [← hso]; exact s47_eq _ 17 _, by rw [s47_ne _ _ (by decide)]; exact m3, by rw [s47_ne _ _ (by decide)]; exact b5, by rw [s47_ne _ _ (by decide)]; exact b4⟩
      rw [b1, b5, b4, m3, pk_sub hn.1]
      by_cases hv : 99 < (tnm T tl s).2
      · rw [if_pos (show (99 : Int32) < nI (tnm T tl s).2 from (nI_ltI (a := 99) (by omega) (by omega)).mpr hv)]
        exact fin 4 (by rw [if_pos (Or.inr hv)]; rfl)
      · rw [if_neg (show ¬ (99 : Int32) < nI (tnm T tl s).2 from fun q => hv ((nI_ltI (a := 99) (by omega) (by omega)).mp q))]
        by_cases h48 : T s = 48
        · rw [if_pos (by rw [h48]; rfl)]
          by_cases hl : s + 1 < (tnm T tl s).1
          · rw [if_neg (show ¬ nI ((tnm T tl s).1 - s) ≤ (1 : Int32) from nI_ge (a := 1) (by omega) (by omega))]
            exact fin 4 (by rw [if_pos (Or.inl ⟨h48, hl⟩)]; rfl)
          · rw [if_pos (show nI ((tnm T tl s).1 - s) ≤ (1 : Int32) from nI_le (b := 1) (by omega) (by omega))]
            exact fin 2 (by rw [if_neg (fun q => q.elim (fun q => hl q.2) hv)]; rfl)
        · rw [if_neg (fun q : nI (T s) = 48 => h48 ((nI_eq (b := 48) (by omega) (by omega)).mp q))]
          exact fin 2 (by rw [if_neg (fun q => q.elim (fun q => h48 q.1) hv)]; rfl)
    · rw [if_neg hd]
      have ek : tk1 T tl s = (1, T s, s + 1) := by unfold tk1; rw [if_pos h, if_neg hd]
      have fin : ∀ so : Nat, so = mso 1 (T s) → ∃ P', some (sI (sI (sI N 47 17 (nI so)) 47 18 (nI (T s))) 47 15 (((sI (sI N 47 17 (nI so)) 47 18 (nI (T s))).1 47 15) + (1 : Int32))) = some P' ∧ F47 P P' ∧ RK P'.1 s (tk1 T tl s) := by
        intro so hso
        refine ⟨_, rfl, ((a2.tr fS).tr fN).tr ((F47.st _ _ (by decide)).tr ((F47.st _ _ (by decide)).tr (F47.st _ _ (by decide)))), ?_⟩
        rw [ek, s47_ne _ _ (show (15 : Nat) ≠ 18 by decide), s47_ne _ _ (show (15 : Nat) ≠ 17 by decide), n5, nI_1]
        exact ⟨by rw [s47_ne _ _ (by decide), s47_ne _ _ (by decide), s47_eq, hso], by rw [s47_ne _ _ (by decide), s47_ne _ _ (by decide), s47_ne _ _ (by decide)]; exact n3, by rw [s47_ne _ _ (by decide), s47_eq], s47_eq _ 15 _⟩
      have J209 : (T s = 112 ∨ T s = 114 ∨ T s = 100 ∨ T s = 98 ∨ T s = 119 ∨ T s = 120) → ∃ P', f_X10_next_J209 N 47 (nI (T s)) = some P' ∧ F47 P P' ∧ RK P'.1 s (tk1 T tl s) := by
        intro hc
        unfold f_X10_next_J209 f_X10_next_J214
        rw [if_b2i, if_pos (show true = true from rfl), Option.bind_some]
        exact fin 1 (by unfold mso; rw [if_pos rfl, if_pos hc])
      have nq : ∀ c : Nat, c < 256 → (nI (T s) = nI c ↔ T s = c) := fun c hc => nI_eq (by omega) (by omega)
      by_cases h1 : T s = 112
      · rw [if_pos (show nI (T s) = 112 from (nq 112 (by decide)).mpr h1)]; exact J209 (by omega)
      rw [if_neg (fun q : nI (T s) = 112 => h1 ((nq 112 (by decide)).mp q))]
      by_cases h2 : T s = 114
      · rw [if_pos (show nI (T s) = 114 from (nq 114 (by decide)).mpr h2)]; exact J209 (by omega)
      rw [if_neg (fun q : nI (T s) = 114 => h2 ((nq 114 (by decide)).mp q))]
      by_cases h3 : T s = 100
      · rw [if_pos (show nI (T s) = 100 from (nq 100 (by decide)).mpr h3)]; exact J209 (by omega)
      rw [if_neg (fun q : nI (T s) = 100 => h3 ((nq 100 (by decide)).mp q))]
      by_cases h4 : T s = 98
      · rw [if_pos (show nI (T s) = 98 from (nq 98 (by decide)).mpr h4)]; exact J209 (by omega)
      rw [if_neg (fun q : nI (T s) = 98 => h4 ((nq 98 (by decide)).mp q))]
      by_cases h5 : T s = 119
      · rw [if_pos (show nI (T s) = 119 from (nq 119 (by decide)).mpr h5)]; exact J209 (by omega)
      rw [if_neg (fun q : nI (T s) = 119 => h5 ((nq 119 (by decide)).mp q))]
      by_cases h6 : T s = 120
      · rw [if_pos (show nI (T s) = 120 from (nq 120 (by decide)).mpr h6)]; exact J209 (by omega)
      rw [if_neg (fun q : nI (T s) = 120 => h6 ((nq 120 (by decide)).mp q))]
      unfold f_X10_next_J214
      rw [if_b2i, if_neg (show ¬ false = true by decide)]
      by_cases h7 : T s = 59
      · rw [if_pos (show nI (T s) = 59 from (nq 59 (by decide)).mpr h7), Option.bind_some]
        exact fin 3 (by unfold mso; rw [if_pos rfl, if_neg (by omega), if_pos h7])
      · rw [if_neg (fun q : nI (T s) = 59 => h7 ((nq 59 (by decide)).mp q)), Option.bind_some]
        exact fin 4 (by unfold mso; rw [if_pos rfl, if_neg (by omega), if_neg h7])
  · rw [if_neg h, if_neg (show ¬ nI 0 ≤ (-1 : Int32) by decide)]
    have ek : tk1 T tl s = (0, 0, s) := by unfold tk1; rw [if_neg h]
    refine ⟨_, rfl, ((a2.tr fS).tr fN).tr (F47.st N _ (by decide)), ?_⟩
    rw [ek]
    exact ⟨s47_eq _ 17 _, by rw [s47_ne _ _ (by decide)]; exact n3, by rw [s47_ne _ _ (by decide)]; exact n8, by rw [s47_ne _ _ (by decide)]; exact n5⟩
end MTOK
