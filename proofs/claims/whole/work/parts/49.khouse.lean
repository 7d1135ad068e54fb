/-! house -/
section KHO
variable {P : PH} {sw : Bool} {g : SG} {d : SD} {hist : List (Nat × Nat × Nat)} {m sn tl : Nat}
theorem txt_of (h : SRx P sw g d hist m sn tl) : ∃ T : Nat → Nat, TXT P.1 T tl := by
  obtain ⟨t1, t2, t3, t4⟩ := h.2.2.2.2.2.2.2.2.2.2.1
  have hv : ∀ i, i < tl → ∃ c : Nat, c ≤ 255 ∧ (P.1 3 i).toNatClampNeg = c ∧ P.1 3 i = nI c ∧ P.1 56 i = nI c := fun i hi => by
    obtain ⟨c, c1, c2, c3⟩ := t4 i hi
    exact ⟨c, c1, by rw [c2, nI_clamp (by omega)], c2, c3⟩
  refine ⟨fun i => if i < tl then (P.1 3 i).toNatClampNeg else 0, t1, fun i => ?_, t2, fun i hi => ?_, t3, fun i hi => ?_⟩
  · show (if i < tl then (P.1 3 i).toNatClampNeg else 0) ≤ 255
    by_cases hi : i < tl
    · obtain ⟨c, c1, c2, -⟩ := hv i hi
      rw [if_pos hi, c2]
      exact c1
    · rw [if_neg hi]
      exact Nat.zero_le _
  · show P.1 3 i = nI (if i < tl then (P.1 3 i).toNatClampNeg else 0)
    obtain ⟨c, -, c2, c3, -⟩ := hv i hi
    rw [if_pos hi, c2]
    exact c3
  · show P.1 56 i = nI (if i < tl then (P.1 3 i).toNatClampNeg else 0)
    obtain ⟨c, -, c2, -, c4⟩ := hv i hi
    rw [if_pos hi, c2]
    exact c4
theorem sw_refs (h : P.2.2 = rhoS sw) : (sR (sR P 0 6 (P.2.2 0 7)) 0 7 (P.2.2 0 6)).2.2 = rhoS (!sw) := by
  funext c j
  show (if c = 0 then (fun j => if j = 7 then P.2.2 0 6 else (sR P 0 6 (P.2.2 0 7)).2.2 0 j) else (sR P 0 6 (P.2.2 0 7)).2.2 c) j = _
  by_cases hc : c = 0
  · subst hc
    rw [if_pos rfl]
    show (if j = 7 then P.2.2 0 6 else (if (0 : Nat) = 0 then (fun j => if j = 6 then P.2.2 0 7 else P.2.2 0 j) else P.2.2 0) j) = _
    rw [if_pos (rfl : (0 : Nat) = 0)]
    show (if j = 7 then P.2.2 0 6 else (if j = 6 then P.2.2 0 7 else P.2.2 0 j)) = _
    rw [h]
    unfold rhoS
    rw [if_pos (rfl : (0 : Nat) = 0), if_pos (rfl : (0 : Nat) = 0), if_pos (rfl : (0 : Nat) = 0), if_pos (rfl : (0 : Nat) = 0)]
    by_cases h7 : j = 7
    · subst h7
      rw [if_pos rfl, if_pos rfl, if_neg (by decide), if_pos rfl, Bool.not_not]
    · by_cases h6 : j = 6
      · subst h6
        rw [if_neg (by decide), if_pos rfl, if_neg (by decide), if_pos rfl, if_pos rfl]
      · rw [if_neg h7, if_neg h6, if_neg h6, if_neg h7, if_neg h6, if_neg h7]
  · rw [if_neg hc]
    show (if c = 0 then _ else P.2.2 c) j = _
    rw [if_neg hc, h]
    unfold rhoS
    rw [if_neg hc, if_neg hc]
theorem k_house (h : SRx P sw g d hist m sn tl) : MOK P (f_X9_house P 0) (fun Q => f_X10_house Q 47) := by
  obtain ⟨T, hT⟩ := txt_of h
  have X : HX P sw T tl := ⟨h.1, hT⟩
  have ht := hT.1
  obtain ⟨C0, s1, s2, s3⟩ := c_start X
  obtain ⟨ok, cnt, x, g', d', l1, l2, l3, l4, l5⟩ := loops X 300 0 gZ dZ (Nat.zero_le _) (by omega) vZ
  have r0 : P.2.2 0 0 = 1 := by rw [h.1]; rfl
  have r7 : P.2.2 0 7 = hs (!sw) := by rw [h.1]; rfl
  have hL := l4 C0 1000 0 (fun P9 v8 => some (v8, P9)) (fun P10 => some (((-10 : Int32) - (P10.1 (P10.2.2 1 0) 3)), P10)) (fun P12 => some (((-10 : Int32) - (P12.1 (P12.2.2 1 0) 3)), P12)) s1 s2 (by omega) (by omega)
  cases ok
  · obtain ⟨C', c1, c2, c3⟩ := hL.2 rfl
    have rc : C'.2.2 1 0 = 2 := by rw [c2.1, h.1]; rfl
    have X' : HXM C' sw T tl := ⟨by rw [c2.1]; exact h.1, c2.txm ⟨hT.1, hT.2.1, hT.2.2.2.2.1, hT.2.2.2.2.2⟩⟩
    obtain ⟨R, m1, m2⟩ := m_start X'
    obtain ⟨R', j, n1, n2⟩ := (l5 C' sw R 1000 0 (fun P37 v36 => f_X10_house_J121 P37 47 v36) X' m2 (by omega)).2 rfl
    refine ⟨(-10 : Int32) - nI x, C', R', ?_, ?_, sw, g, d, hist, m, sn, tl, h.ag (c2.tr n2.1)⟩
    · unfold f_X9_house
      rw [r0, r7, s3, c1, rc, c3, Option.bind_some, if_neg (neg_ans (by omega))]
    · show f_X10_house C' 47 = _
      rw [m1, n1]
      unfold f_X10_house_J121
      rw [n2.2.1, if_neg (by decide), n2.2.2]
  · obtain ⟨C', c1, c2⟩ := hL.1 rfl
    have hV := l3 rfl
    rw [Nat.zero_add] at c1
    obtain ⟨Z0, e0⟩ : ∃ Z, Z = sR (sR C' 0 6 (C'.2.2 0 7)) 0 7 (C'.2.2 0 6) := ⟨_, rfl⟩
    have z0r : Z0.2.2 = rhoS (!sw) := by rw [e0]; exact sw_refs (by rw [c2.1.1]; exact h.1)
    have z0l : Z0.2.1 = C'.2.1 := by rw [e0]; rfl
    have z0i : Z0.1 = C'.1 := by rw [e0]; rfl
    obtain ⟨Z, eZ⟩ : ∃ Z, Z = sI (sI (sI (sI Z0 2 1 0) 9 0 0) 5 0 0) 0 5 0 := ⟨_, rfl⟩
    have zr : Z.2.2 = rhoS (!sw) := by rw [eZ]; exact z0r
    have zl : Z.2.1 = P.2.1 := by
      rw [eZ]
      show Z0.2.1 = P.2.1
      rw [z0l, c2.1.1]
    have zf : ∀ c, c ≠ 2 → c ≠ 9 → c ≠ 5 → c ≠ 0 → Z.1 c = C'.1 c := fun c h2 h9 h5 h0 => by rw [eZ, sI_ne h0, sI_ne h5, sI_ne h9, sI_ne h2, z0i]
    have X' : HXM Z (!sw) T tl := by
      obtain ⟨t1, t2, t3, t4⟩ := c2.1.txm (T := T) (tl := tl) ⟨hT.1, hT.2.1, hT.2.2.2.2.1, hT.2.2.2.2.2⟩
      exact ⟨zr, t1, t2, by rw [zf 47 (by decide) (by decide) (by decide) (by decide)]; exact t3, by rw [zf 56 (by decide) (by decide) (by decide) (by decide)]; exact t4⟩
    obtain ⟨R, m1, m2⟩ := m_start X'
    obtain ⟨R', n1, n2, n3⟩ := (l5 Z (!sw) R 1000 0 (fun P37 v36 => f_X10_house_J121 P37 47 v36) X' m2 (by omega)).1 rfl
    rw [Nat.zero_add] at n1
    obtain ⟨R6, p1, p2, p3, p4, p5, p6, p7, p8, p9, p10⟩ := m_end X' hV n2 n3 (nI cnt)
    have hHB : HB Z.1 (hs (!sw)) g' d' := c2.2.fr (fun c h1 h2 => by have := hs_w (!sw); exact zf c (by omega) (by omega) (by omega) (by omega))
    obtain ⟨hG, hN⟩ := hHB.hg
    have lo : ∀ c j, c ≤ 26 → c ≠ 2 → c ≠ 4 → R6.1 c j = Z.1 c j := fun c j a1 a2 a3 => p3 c j (rel_lo a1 a2 a3) (by omega) (by omega) (by omega) (by omega) (by omega) (by omega)
    have hh : ∀ c j, (if (!sw) then (37 ≤ c ∧ c ≤ 46) else (27 ≤ c ∧ c ≤ 36)) → R6.1 c j = Z.1 c j := fun c j a => by
      have : 27 ≤ c ∧ c ≤ 46 := by cases sw <;> simp at a <;> omega
      exact p3 c j (rel_h a) (by omega) (by omega) (by omega) (by omega) (by omega) (by omega)
    refine ⟨nI cnt, Z, R6, ?_, ?_, !sw, g', d', [], 0, 0, 0, ?_⟩
    · have q0 : Z0.2.2 (Z0.2.2 0 0) 0 = 2 := by rw [z0r]; cases sw <;> rfl
      have q2 : (sI Z0 2 1 0).2.2 0 2 = 9 := by show Z0.2.2 0 2 = 9; rw [z0r]; cases sw <;> rfl
      have q1 : (sI (sI Z0 2 1 0) 9 0 0).2.2 0 1 = 5 := by show Z0.2.2 0 1 = 5; rw [z0r]; cases sw <;> rfl
      unfold f_X9_house
      rw [r0, r7, s3, c1, Option.bind_some, if_pos (show (0 : Int32) ≤ nI cnt from nI_pos' (by omega)), ← e0, Option.bind_some, q0, Option.bind_some, q2, q1, Option.bind_some, ← eZ]
    · show f_X10_house Z 47 = _
      rw [m1, n1, p1]
    · refine ⟨by rw [p2]; exact zr, hV.1, hV.2, ?_, p4, ?_, p5, ⟨trivial, Nat.zero_le _, ?_, p6⟩, ⟨by decide, ?_, fun i hi => ⟨(fun q => by rw [Nat.zero_testBit] at q; cases q), fun _ => ?_⟩⟩, ⟨Nat.zero_le _, ?_, p7, fun i hi => absurd hi (Nat.not_lt_zero i)⟩, ⟨Nat.zero_le _, ?_, p8, fun i hi => absurd hi (Nat.not_lt_zero i)⟩, ?_⟩
      · refine hG.fr (fun c hc => funext fun j => hh c j ?_)
        cases sw <;> rcases hc with rfl | rfl | rfl | rfl <;> decide
      · refine hN.ag (fun j _ => hh _ j (by cases sw <;> decide)) (fun f hf hf8 j => hh _ j ?_)
        have hf2 : f = 3 ∨ f = 4 ∨ f = 5 ∨ f = 6 ∨ f = 7 := by omega
        cases sw <;> rcases hf2 with rfl | rfl | rfl | rfl | rfl <;> decide
      · rw [lo 5 0 (by decide) (by decide) (by decide), eZ, sI_ne (by decide), sI_eq, upd_eq]
        rfl
      · rw [lo 0 5 (by decide) (by decide) (by decide), eZ, sI_eq, upd_eq]
        rfl
      · have : i = 0 ∨ i = 1 := by omega
        rcases this with rfl | rfl
        · exact p9
        · exact p10
      · rw [lo 9 0 (by decide) (by decide) (by decide), eZ, sI_ne (by decide), sI_ne (by decide), sI_eq, upd_eq]
        rfl
      · rw [p3 2 1 (by cases sw <;> rfl) (by decide) (by decide) (by decide) (by decide) (by decide) (by decide), eZ, sI_ne (by decide), sI_ne (by decide), sI_ne (by decide), sI_eq, upd_eq]
        rfl
      · rw [p2, zl]
        exact h.2.2.2.2.2.2.2.2.2.2.2
theorem SR_P0 : SR P0 := by
  refine ⟨false, gZ, dZ, [], 0, 0, 0, rhoS_0.symm, vZ.1, vZ.2, ?_, ?_, ?_, ?_, ⟨trivial, Nat.zero_le _, rfl, rfl⟩, ⟨by decide, rfl, fun i hi => ⟨(fun q => by rw [Nat.zero_testBit] at q; cases q), fun _ => rfl⟩⟩, ⟨Nat.zero_le _, rfl, rfl, fun i hi => absurd hi (Nat.not_lt_zero i)⟩, ⟨Nat.zero_le _, rfl, rfl, fun i hi => absurd hi (Nat.not_lt_zero i)⟩, rfl⟩
  · exact ⟨rfl, rfl, fun p hp => absurd hp (Nat.not_lt_zero p), fun p hp => absurd hp (Nat.not_lt_zero p), fun p hp => absurd hp (Nat.not_lt_zero p)⟩
  · exact ⟨rfl, rfl, fun p hp => absurd hp (Nat.not_lt_zero p), fun p hp => absurd hp (Nat.not_lt_zero p), fun p hp => absurd hp (Nat.not_lt_zero p)⟩
  · exact ⟨rfl, rfl, rfl, fun p hp => absurd hp (Nat.not_lt_zero p), fun p hp => absurd hp (Nat.not_lt_zero p), fun p hp => absurd hp (Nat.not_lt_zero p)⟩
  · exact ⟨rfl, rfl, fun p hp => absurd hp (Nat.not_lt_zero p), fun p hp => absurd hp (Nat.not_lt_zero p), rfl, fun p hp => absurd hp (Nat.not_lt_zero p)⟩
end KHO
