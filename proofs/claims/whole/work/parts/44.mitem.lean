/-! the model reads a house -/
def F5 (P P' : PH) : Prop := P'.2 = P.2 ∧ (∀ c, c ≠ 47 → P'.1 c = P.1 c) ∧ ∀ j, (j < 15 ∨ 19 < j) → P'.1 47 j = P.1 47 j
theorem F5.tr {P P1 P2 : PH} (a : F5 P P1) (b : F5 P1 P2) : F5 P P2 := ⟨b.1.trans a.1, fun c h => (b.2.1 c h).trans (a.2.1 c h), fun j h => (b.2.2 j h).trans (a.2.2 j h)⟩
theorem F47.f5 {P P' : PH} (a : F47 P P') : F5 P P' := ⟨a.1, a.2.1, fun j h => a.2.2 j (by omega)⟩
theorem F5.st (P : PH) (v : Int32) : F5 P (sI P 47 19 v) := ⟨rfl, fun c hc => sI_ne hc, fun i hi => by rw [sI_eq, upd_ne (by omega)]⟩
theorem ag_47 (sw : Bool) (R : PH) {j : Nat} (v : Int32) (h : 15 ≤ j ∧ j ≤ 21) : Ag sw R (sI R 47 j v) := by
  refine ⟨rfl, fun c k hr => ?_⟩
  by_cases hc : c = 47
  · subst hc
    by_cases hk : k = j
    · subst hk
      exfalso
      have h1 : decide (15 ≤ k) = true := decide_eq_true h.1
      have h2 : decide (k ≤ 21) = true := decide_eq_true h.2
      unfold rel at hr
      cases sw <;> simp [h1, h2] at hr
    · rw [sI_eq, upd_ne hk]
  · rw [sI_ne hc]
theorem ag_5x (sw : Bool) (R : PH) {c : Nat} (j : Nat) (v : Int32) (h : 57 ≤ c ∧ c ≤ 60) : Ag sw R (sI R c j v) := by
  refine ⟨rfl, fun c' k hr => ?_⟩
  by_cases hc : c' = c
  · subst hc
    exfalso
    have h2 : c' = 57 ∨ c' = 58 ∨ c' = 59 ∨ c' = 60 := by omega
    rcases h2 with rfl | rfl | rfl | rfl <;> cases sw <;> cases hr
  · rw [sI_ne hc]
theorem F5.ag {R R' : PH} (sw : Bool) (f : F5 R R') : Ag sw R R' := by
  refine ⟨f.1, fun c j hr => ?_⟩
  by_cases hc : c = 47
  · subst hc
    refine f.2.2 j ?_
    by_cases hj : j < 15 ∨ 19 < j
    · exact hj
    · exfalso
      have h1 : decide (15 ≤ j) = true := decide_eq_true (by omega)
      have h2 : decide (j ≤ 21) = true := decide_eq_true (by omega)
      unfold rel at hr
      cases sw <;> simp [h1, h2] at hr
  · rw [f.2.1 c hc]
def RB (sw : Bool) (P R : PH) (g : SG) (d : SD) : Prop := Ag sw P R ∧ R.1 47 20 = nI (g_np g) ∧ R.1 47 21 = nI (g_nr g) ∧ (∀ p, p < 6 → R.1 57 p = bedI (if p < g_np g then g_bed g p else none)) ∧ (∀ p, p < 6 → R.1 58 p = nI (if p < g_np g then g_want g p else 0)) ∧ (∀ r, r < 7 → R.1 59 r = nI (if r < g_nr g then g_door g r else 0)) ∧ MD (R.1 60) (g_np g) (g_nr g) d
theorem RB.f5 {sw : Bool} {P R R' : PH} {g : SG} {d : SD} (B : RB sw P R g d) (f : F5 R R') : RB sw P R' g d := by
  obtain ⟨b1, b2, b3, b4, b5, b6, b7⟩ := B
  exact ⟨b1.tr (f.ag sw), (f.2.2 20 (by decide)).trans b2, (f.2.2 21 (by decide)).trans b3, by rw [f.2.1 57 (by decide)]; exact b4, by rw [f.2.1 58 (by decide)]; exact b5, by rw [f.2.1 59 (by decide)]; exact b6, by rw [f.2.1 60 (by decide)]; exact b7⟩
def TK (T : Nat → Nat) (tl : Nat) (R : PH) (e : Nat) : Prop := RK R.1 (tst T tl e) (tk1 T tl (tst T tl e))
theorem mso_2 {so v : Nat} (h : so ≤ 3) : nI (mso so v) = 2 ↔ so = 2 := by
  have h2 : mso so v = 2 ↔ so = 2 := by
    unfold mso
    split
    · split
      · omega
      · split <;> omega
    · split <;> omega
  have h3 : mso so v ≤ 4 := by
    unfold mso
    split
    · split
      · omega
      · split <;> omega
    · split <;> omega
  rw [← h2]
  exact nI_eq (b := 2) (by omega) (by omega)
def MF (sw : Bool) (P R : PH) (f : Nat) : Prop := Ag sw P R ∧ R.1 47 19 = 1 ∧ R.1 47 16 = nI f
def HXM (P : PH) (sw : Bool) (T : Nat → Nat) (tl : Nat) : Prop := P.2.2 = rhoS sw ∧ TXM P.1 T tl
theorem Ag.txm {P C : PH} {sw : Bool} {T : Nat → Nat} {tl : Nat} (A : Ag sw P C) (t : TXM P.1 T tl) : TXM C.1 T tl := by
  obtain ⟨t1, t2, t5, t6⟩ := t
  exact ⟨t1, t2, (A.2 47 14 (by cases sw <;> rfl)).trans t5, fun i hi => (A.2 56 i (rel_m (by decide) (by decide))).trans (t6 i hi)⟩
section MIT
variable {T : Nat → Nat} {tl : Nat} {P R : PH} {sw : Bool} {g : SG} {d : SD}
theorem HXM.mr (X : HXM P sw T tl) (A : Ag sw P R) : MR R := by
  unfold MR
  rw [A.1, X.1]
  rfl
theorem MF.st {f : Nat} (A : Ag sw P R) (h : R.1 47 16 = nI f) : MF sw P (sI R 47 19 1) f := ⟨A.tr (ag_47 sw R _ (by decide)), by rw [sI_eq, upd_eq], by rw [sI_eq, upd_ne (by decide)]; exact h⟩
theorem MF.ag47 {f j : Nat} (M : MF sw P R f) (v : Int32) (h : j = 20 ∨ j = 21) : MF sw P (sI R 47 j v) f := ⟨M.1.tr (ag_47 sw R _ (by omega)), by rw [sI_eq, upd_ne (by omega)]; exact M.2.1, by rw [sI_eq, upd_ne (by omega)]; exact M.2.2⟩
theorem MF.ag5x {f c j : Nat} (M : MF sw P R f) (v : Int32) (h : 57 ≤ c ∧ c ≤ 60) : MF sw P (sI R c j v) f := ⟨M.1.tr (ag_5x sw R j v h), by rw [sI_ne (by omega)]; exact M.2.1, by rw [sI_ne (by omega)]; exact M.2.2⟩
theorem m_takes0 (h : ¬ R.1 47 19 = 0) (lo hi x3 : Int32) : f_X10_takes R 47 lo hi x3 = some (0, sI R 47 19 1) := by
  unfold f_X10_takes f_X10_takes_J44 f_X10_takes_J45 f_X10_takes_J58
  rw [if_neg h, if_b2i, if_neg (show ¬ false = true by decide), if_b2i, if_neg (show ¬ false = true by decide), if_b2i, if_neg (show ¬ false = true by decide)]
  rfl
theorem m_takes (X : HXM P sw T tl) (A : Ag sw P R) {e : Nat} (k : TK T tl R e) (h19 : R.1 47 19 = 0) (he : e ≤ tl) {lo hi x3 : Int32} {fp : Nat → Bool} (hf : ∀ v, v < 1000 → (fp v = true ↔ ((¬ nI v < lo ∧ ¬ hi < nI v) ∨ (¬ x3 = 0 ∧ nI v = 9)))) :
    (((tk1 T tl (tst T tl e)).1 = 2 ∧ fp (tk1 T tl (tst T tl e)).2.1 = true) → ∃ R', f_X10_takes R 47 lo hi x3 = some (nI (tk1 T tl (tst T tl e)).2.1, R') ∧ F5 R R' ∧ R'.1 47 19 = 0 ∧ TK T tl R' (tk1 T tl (tst T tl e)).2.2) ∧
    (¬ ((tk1 T tl (tst T tl e)).1 = 2 ∧ fp (tk1 T tl (tst T tl e)).2.1 = true) → f_X10_takes R 47 lo hi x3 = some (0, sI R 47 19 1)) := by
  have hst : tst T tl e ≤ tl := by have := skp_in T (tl - e) e; unfold tst; omega
  have hin := tk1_in T X.2.2.1 hst
  unfold TK at k
  generalize tk1 T tl (tst T tl e) = tk at k hin ⊢
  obtain ⟨k1, k2, k3, k4⟩ := k
  have J44 : f_X10_takes_J44 R 47 = some (0, sI R 47 19 1) := by
    unfold f_X10_takes_J44 f_X10_takes_J45 f_X10_takes_J58
    rw [if_b2i, if_neg (show ¬ false = true by decide), if_b2i, if_neg (show ¬ false = true by decide), if_b2i, if_neg (show ¬ false = true by decide)]
    rfl
  have J40 : ∃ R', f_X10_takes_J40 R 47 = some (nI tk.2.1, R') ∧ F5 R R' ∧ R'.1 47 19 = 0 ∧ TK T tl R' tk.2.2 := by
    have A0 := A.tr (ag_47 sw R (j := 19) 0 (by decide))
    obtain ⟨R', a1, a2, a3⟩ := m_next (T := T) (tl := tl) (P := sI R 47 19 0) (X.mr A0) (A0.txm X.2) (e := tk.2.2) (by rw [s47_ne _ _ (by decide)]; exact k4) hin.2.1
    refine ⟨R', ?_, (F5.st R 0).tr a2.f5, ?_, a3⟩
    · unfold f_X10_takes_J40 f_X10_takes_J45 f_X10_takes_J58
      rw [if_b2i, if_pos (show true = true from rfl), if_b2i, if_pos (show true = true from rfl), show b2i false = 0 from rfl, a1, Option.bind_some, if_b2i, if_pos (show true = true from rfl), s47_ne _ _ (by decide), k3]
    · rw [a2.2.2 19 (by decide), s47_eq]
  have hbody : f_X10_takes R 47 lo hi x3 = (if tk.1 = 2 then (if (¬ nI tk.2.1 < lo ∧ ¬ hi < nI tk.2.1) then f_X10_takes_J40 R 47 else (if x3 = 0 then f_X10_takes_J44 R 47 else (if nI tk.2.1 = 9 then f_X10_takes_J40 R 47 else f_X10_takes_J44 R 47))) else f_X10_takes_J44 R 47) := by
    unfold f_X10_takes
    rw [if_pos h19, k1, k3, m_in, Option.bind_some, if_b2i]
    by_cases h2 : tk.1 = 2
    · rw [if_pos ((mso_2 hin.2.2.2.1).mpr h2), if_pos h2]
      by_cases hi2 : ¬ nI tk.2.1 < lo ∧ ¬ hi < nI tk.2.1
      · rw [if_pos (decide_eq_true hi2), if_pos hi2]
      · rw [if_neg (by rw [decide_eq_false hi2]; decide), if_neg hi2]
    · rw [if_neg (fun q => h2 ((mso_2 hin.2.2.2.1).mp q)), if_neg h2]
  rw [hbody]
  constructor
  · rintro ⟨h1, h2⟩
    rw [if_pos h1]
    rcases (hf _ hin.2.2.1).mp h2 with h3 | ⟨h3, h4⟩
    · rw [if_pos h3]
      exact J40
    · by_cases h5 : ¬ nI tk.2.1 < lo ∧ ¬ hi < nI tk.2.1
      · rw [if_pos h5]
        exact J40
      · rw [if_neg h5, if_neg h3, if_pos h4]
        exact J40
  · intro hn
    by_cases h1 : tk.1 = 2
    · have h2 : ¬ fp tk.2.1 = true := fun q => hn ⟨h1, q⟩
      rw [if_pos h1, if_neg (fun q => h2 ((hf _ hin.2.2.1).mpr (Or.inl q)))]
      by_cases h3 : x3 = 0
      · rw [if_pos h3]
        exact J44
      · rw [if_neg h3, if_neg (fun q => h2 ((hf _ hin.2.2.1).mpr (Or.inr ⟨h3, q⟩)))]
        exact J44
    · rw [if_neg h1]
      exact J44
/-- those who may stand at a place -/
def okT (T : Nat → Nat) (tl : Nat) (fp : Nat → Bool) (e : Nat) : Prop := (tk1 T tl (tst T tl e)).1 = 2 ∧ fp (tk1 T tl (tst T tl e)).2.1 = true
def vlT (T : Nat → Nat) (tl e : Nat) : Nat := (tk1 T tl (tst T tl e)).2.1
def nxT (T : Nat → Nat) (tl e : Nat) : Nat := (tk1 T tl (tst T tl e)).2.2
theorem nxT_le (hT : ∀ i, T i ≤ 255) {e : Nat} (he : e ≤ tl) : e ≤ nxT T tl e ∧ nxT T tl e ≤ tl := by
  have h0 := skp_in T (tl - e) e
  have hst : tst T tl e ≤ tl := by unfold tst; omega
  have hin := tk1_in T hT hst
  have h1 : e ≤ tst T tl e := h0.1
  unfold nxT
  omega
theorem m_tk (X : HXM P sw T tl) (A : Ag sw P R) {e : Nat} (k : TK T tl R e) (h19 : R.1 47 19 = 0) (he : e ≤ tl) {lo hi x3 : Int32} {fp : Nat → Bool} (hf : ∀ v, v < 1000 → (fp v = true ↔ ((¬ nI v < lo ∧ ¬ hi < nI v) ∨ (¬ x3 = 0 ∧ nI v = 9)))) :
    (okT T tl fp e ∧ ∃ R', f_X10_takes R 47 lo hi x3 = some (nI (vlT T tl e), R') ∧ F5 R R' ∧ R'.1 47 19 = 0 ∧ TK T tl R' (nxT T tl e)) ∨
    (¬ okT T tl fp e ∧ f_X10_takes R 47 lo hi x3 = some (0, sI R 47 19 1) ∧ MF sw P (sI R 47 19 1) (tst T tl e)) := by
  have h := m_takes X A k h19 he hf
  by_cases hk : okT T tl fp e
  · exact Or.inl ⟨hk, h.1 hk⟩
  · exact Or.inr ⟨hk, h.2 hk, MF.st A k.2.1⟩
theorem vl_fp {fp : Nat → Bool} {e : Nat} (h : okT T tl fp e) : fp (vlT T tl e) = true := h.2
theorem in_hi {v n : Nat} (hv : v < 1000) (hn : n < 1000) : (¬ nI v < 0 ∧ ¬ nI n < nI v) ↔ v ≤ n := by
  rw [nI_ltI (by omega) (by omega)]
  have := nI_pos (n := v) (by omega)
  constructor
  · rintro ⟨-, b⟩; omega
  · intro b; exact ⟨this, by omega⟩
theorem in_pr {v n : Nat} (hv : v < 1000) (hn : n < 1000) : (¬ nI v < 0 ∧ ¬ nI n - 1 < nI v) ↔ v < n := by
  have h0 := nI_pos (n := v) (by omega)
  have h1 := lt_pred (x := nI v) (n := n) (by omega) h0
  rw [nI_ltI (by omega) (by omega)] at h1
  constructor
  · rintro ⟨-, b⟩; exact h1.mp b
  · intro b; exact ⟨h0, h1.mpr b⟩
def fA (v : Nat) : Bool := decide (v ≤ 1)
def fH (v : Nat) : Bool := decide (v < 6) || v == 9
def fL (n : Nat) (v : Nat) : Bool := decide (v < n)
def fO (n : Nat) (v : Nat) : Bool := decide (v < n) || v == 9
def fU (v : Nat) : Bool := decide (v ≤ 99)
def fD (n a : Nat) (v : Nat) : Bool := decide (v < n) && !(v == a)
theorem hfA : ∀ v, v < 1000 → (fA v = true ↔ ((¬ nI v < (0 : Int32) ∧ ¬ (1 : Int32) < nI v) ∨ (¬ (0 : Int32) = 0 ∧ nI v = 9))) := fun v hv => by
  unfold fA
  rw [decide_eq_true_eq, show (1 : Int32) = nI 1 from rfl, in_hi hv (by decide)]
  simp
theorem hfU : ∀ v, v < 1000 → (fU v = true ↔ ((¬ nI v < (0 : Int32) ∧ ¬ (99 : Int32) < nI v) ∨ (¬ (0 : Int32) = 0 ∧ nI v = 9))) := fun v hv => by
  unfold fU
  rw [decide_eq_true_eq, show (99 : Int32) = nI 99 from rfl, in_hi hv (by decide)]
  simp
theorem n9 {v : Nat} (hv : v < 1000) : nI v = 9 ↔ v = 9 := nI_eq (b := 9) (by omega) (by omega)
theorem hfH : ∀ v, v < 1000 → (fH v = true ↔ ((¬ nI v < (0 : Int32) ∧ ¬ (5 : Int32) < nI v) ∨ (¬ (1 : Int32) = 0 ∧ nI v = 9))) := fun v hv => by
  unfold fH
  rw [Bool.or_eq_true, decide_eq_true_eq, beq_iff_eq, show (5 : Int32) = nI 5 from rfl, in_hi hv (by decide), n9 hv]
  constructor
  · rintro (h | h)
    · exact Or.inl (by omega)
    · exact Or.inr ⟨by decide, h⟩
  · rintro (h | ⟨-, h⟩)
    · exact Or.inl (by omega)
    · exact Or.inr h
theorem hfL {n : Nat} (hn : n < 1000) : ∀ v, v < 1000 → (fL n v = true ↔ ((¬ nI v < (0 : Int32) ∧ ¬ nI n - 1 < nI v) ∨ (¬ (0 : Int32) = 0 ∧ nI v = 9))) := fun v hv => by
  unfold fL
  rw [decide_eq_true_eq, in_pr hv hn]
  simp
theorem hfO {n : Nat} (hn : n < 1000) : ∀ v, v < 1000 → (fO n v = true ↔ ((¬ nI v < (0 : Int32) ∧ ¬ nI n - 1 < nI v) ∨ (¬ (1 : Int32) = 0 ∧ nI v = 9))) := fun v hv => by
  unfold fO
  rw [Bool.or_eq_true, decide_eq_true_eq, beq_iff_eq, in_pr hv hn, n9 hv]
  constructor
  · rintro (h | h)
    · exact Or.inl h
    · exact Or.inr ⟨by decide, h⟩
  · rintro (h | ⟨-, h⟩)
    · exact Or.inl h
    · exact Or.inr h
def MOT (T : Nat → Nat) (tl : Nat) (sw : Bool) (P R : PH) (g : SG) (d : SD) (e : Nat) : Prop := RB sw P R g d ∧ R.1 47 19 = 0 ∧ TK T tl R e
theorem m_readPerson (X : HXM P sw T tl) (B : RB sw P R g d) {e : Nat} (k : TK T tl R e) (h19 : R.1 47 19 = 0) (he : e ≤ tl) (hnp : g_np g < 6) (hnr : g_nr g ≤ 7) (hk : d_k d ≤ 10) :
    (okT T tl fA e ∧ okT T tl fH (nxT T tl e) → ∃ R', f_X10_readPerson R 47 = some R' ∧ MOT T tl sw P R' (gP g) (dP g d (vlT T tl e) (vlT T tl (nxT T tl e))) (nxT T tl (nxT T tl e))) ∧
    (okT T tl fA e ∧ ¬ okT T tl fH (nxT T tl e) → ∃ R', f_X10_readPerson R 47 = some R' ∧ MF sw P R' (tst T tl (nxT T tl e))) ∧
    (¬ okT T tl fA e → ∃ R', f_X10_readPerson R 47 = some R' ∧ MF sw P R' (tst T tl e)) := by
  have tail : ∀ (R1 R2 : PH) (v1 v2 : Int32), f_X10_takes R 47 0 1 0 = some (v1, R1) → f_X10_takes R1 47 0 5 1 = some (v2, R2) → Ag sw P R2 → R2.1 47 20 = nI (g_np g) → f_X10_readPerson R 47 = some (sI (sI (sI R2 60 1 (R2.1 60 1 ||| (v1 <<< (nI (g_np g) &&& 31)))) 60 (2 + g_np g) v2) 47 20 (nI (g_np g + 1))) := by
    intro R1 R2 v1 v2 q1 q2 A2 h20
    have m2 := X.mr A2
    have r60 : R2.2.2 47 25 = 60 := by rw [m2]; rfl
    obtain ⟨S, eS⟩ : ∃ S, S = sI R2 60 1 (R2.1 60 1 ||| (v1 <<< (nI (g_np g) &&& 31))) := ⟨_, rfl⟩
    have s20 : S.1 47 20 = nI (g_np g) := by rw [eS, sI_ne (by decide)]; exact h20
    have sr : S.2.2 47 25 = 60 := by rw [eS]; exact r60
    obtain ⟨U, eU⟩ : ∃ U, U = sI S 60 (2 + g_np g) v2 := ⟨_, rfl⟩
    have u20 : U.1 47 20 = nI (g_np g) := by rw [eU, sI_ne (by decide)]; exact s20
    unfold f_X10_readPerson
    rw [q1, Option.bind_some]
    show ((f_X10_takes R1 47 0 5 1).bind _) = _
    rw [q2, Option.bind_some]
    simp only [g_1]
    rw [t_1, r60, h20, ← eS, Option.bind_some, s20, show (2 : Int32) = nI 2 from rfl, nI_add, gd (by omega) (by decide), nI_clamp (by omega), sr, ← eU, Option.bind_some, u20, nI_1, Option.bind_some]
  have fr5 : ∀ {R1 : PH}, F5 R R1 → R1.1 47 20 = nI (g_np g) := fun f => (f.2.2 20 (by decide)).trans B.2.1
  have mfin : ∀ (R2 : PH) (x y : Int32) (f : Nat), MF sw P R2 f → MF sw P (sI (sI (sI R2 60 1 x) 60 (2 + g_np g) y) 47 20 (nI (g_np g + 1))) f := fun R2 x y f M => (((M.ag5x _ (by decide)).ag5x _ (by decide))).ag47 _ (Or.inl rfl)
  rcases m_tk X B.1 k h19 he hfA with ⟨o1, R1, a1, a2, a3, a4⟩ | ⟨o1, a1, a2⟩
  · have B1 := B.f5 a2
    have he1 := (nxT_le X.2.2.1 he).2
    rcases m_tk X B1.1 a4 a3 he1 hfH with ⟨o2, R2, b1, b2, b3, b4⟩ | ⟨o2, b1, b2⟩
    · refine ⟨fun _ => ⟨_, tail R1 R2 _ _ a1 b1 (B1.f5 b2).1 (fr5 (a2.tr b2)), ?_, ?_, ?_⟩, fun q => absurd o2 q.2, fun q => absurd o1 q⟩
      · obtain ⟨c1, c2, c3, c4, c5, c6, c7⟩ := B1.f5 b2
        have hv1 : vlT T tl e ≤ 1 := of_decide_eq_true (vl_fp o1)
        have hal : R2.1 60 1 ||| (nI (vlT T tl e) <<< (nI (g_np g) &&& 31)) = nI (d_al d ||| (if vlT T tl e = 1 then 2 ^ g_np g else 0)) := by
          rw [c7.2.1]
          have : vlT T tl e = 0 ∨ vlT T tl e = 1 := by omega
          rcases this with hv | hv
          · rw [hv, if_neg (by decide)]
            have h1 := pk_shlN (n := 0) (nI (g_np g) &&& 31) (g_np g) (s_l _ (by omega)) (by rw [Nat.zero_mul]; decide)
            rw [Nat.zero_mul] at h1
            rw [h1, fa_or]
          · rw [hv, if_pos rfl, show nI 1 = (1 : Int32) from rfl, mb_sh (by omega), fa_or]
        rw [hal]
        have z60 : (sI (sI (sI R2 60 1 (nI (d_al d ||| (if vlT T tl e = 1 then 2 ^ g_np g else 0)))) 60 (2 + g_np g) (nI (vlT T tl (nxT T tl e)))) 47 20 (nI (g_np g + 1))).1 60 = upd (upd (R2.1 60) 1 (nI (d_al d ||| (if vlT T tl e = 1 then 2 ^ g_np g else 0)))) (2 + g_np g) (nI (vlT T tl (nxT T tl e))) := by rw [sI_ne (by decide), sI_eq, sI_eq]
        have zc : ∀ c, c ≠ 47 → c ≠ 60 → (sI (sI (sI R2 60 1 (nI (d_al d ||| (if vlT T tl e = 1 then 2 ^ g_np g else 0)))) 60 (2 + g_np g) (nI (vlT T tl (nxT T tl e)))) 47 20 (nI (g_np g + 1))).1 c = R2.1 c := fun c y1 y2 => by rw [sI_ne y1, sI_ne y2, sI_ne y2]
        refine ⟨((c1.tr (ag_5x sw _ _ _ (by decide))).tr (ag_5x sw _ _ _ (by decide))).tr (ag_47 sw _ _ (by decide)), ?_, ?_, ?_, ?_, ?_, ?_⟩
        · rw [sI_eq, upd_eq]
          rfl
        · rw [sI_eq, upd_ne (by decide), sI_ne (by decide), sI_ne (by decide)]
          exact c3
        · rw [zc 57 (by decide) (by decide)]
          intro p hp
          rw [c4 p hp]
          show _ = bedI (if p < g_np g + 1 then upB (g_bed g) (g_np g) none p else none)
          unfold upB
          by_cases hpn : p = g_np g
          · rw [if_neg (by omega), if_pos (by omega), if_pos hpn]
          · by_cases hpl : p < g_np g
            · rw [if_pos hpl, if_pos (by omega), if_neg hpn]
            · rw [if_neg hpl, if_neg (by omega)]
        · rw [zc 58 (by decide) (by decide)]
          intro p hp
          rw [c5 p hp]
          show _ = nI (if p < g_np g + 1 then upN (g_want g) (g_np g) 0 p else 0)
          unfold upN
          by_cases hpn : p = g_np g
          · rw [if_neg (by omega), if_pos (by omega), if_pos hpn]
          · by_cases hpl : p < g_np g
            · rw [if_pos hpl, if_pos (by omega), if_neg hpn]
            · rw [if_neg hpl, if_neg (by omega)]
        · rw [zc 59 (by decide) (by decide)]
          exact c6
        · rw [z60]
          obtain ⟨e1, e2, e3, e4, e5, e6⟩ := c7
          refine ⟨?_, ?_, ?_, ?_, ?_, ?_⟩
          · rw [upd_ne (by omega), upd_ne (by omega)]; exact e1
          · rw [upd_ne (by omega), upd_eq]
            rfl
          · intro q hq
            have hq' : q < g_np g + 1 := hq
            show _ = nI (upN (d_heir d) (g_np g) (vlT T tl (nxT T tl e)) q)
            unfold upN
            by_cases hqn : q = g_np g
            · rw [hqn, upd_eq, if_pos rfl]
            · rw [upd_ne (by omega), upd_ne (by omega), if_neg hqn]
              exact e3 q (by omega)
          · intro q hq
            have hq' : q < g_nr g := hq
            rw [upd_ne (by omega), upd_ne (by omega)]
            exact e4 q hq
          · rw [upd_ne (by omega), upd_ne (by omega)]; exact e5
          · intro i hi
            rw [upd_ne (by omega), upd_ne (by omega), upd_ne (by omega), upd_ne (by omega), upd_ne (by omega), upd_ne (by omega)]
            exact e6 i hi
      · rw [sI_eq, upd_ne (by decide), sI_ne (by decide), sI_ne (by decide)]
        exact b3
      · obtain ⟨k1, k2, k3, k4⟩ := b4
        have z : ∀ j, j ≠ 20 → ∀ x y, (sI (sI (sI R2 60 1 x) 60 (2 + g_np g) y) 47 20 (nI (g_np g + 1))).1 47 j = R2.1 47 j := fun j hj x y => by rw [sI_eq, upd_ne hj, sI_ne (by decide), sI_ne (by decide)]
        exact ⟨(z 17 (by decide) _ _).trans k1, (z 16 (by decide) _ _).trans k2, (z 18 (by decide) _ _).trans k3, (z 15 (by decide) _ _).trans k4⟩
    · refine ⟨fun q => absurd q.2 o2, fun _ => ⟨_, tail R1 _ _ _ a1 b1 b2.1 (by rw [s47_ne _ _ (by decide)]; exact fr5 a2), mfin _ _ _ _ b2⟩, fun q => absurd o1 q⟩
  · have n19 : ¬ (sI R 47 19 1).1 47 19 = 0 := by rw [a2.2.1]; decide
    have b1 := m_takes0 n19 0 5 1
    have M2 : MF sw P (sI (sI R 47 19 1) 47 19 1) (tst T tl e) := MF.st a2.1 a2.2.2
    exact ⟨fun q => absurd q.1 o1, fun q => absurd q.1 o1, fun _ => ⟨_, tail _ _ _ _ a1 b1 M2.1 (by rw [s47_ne _ _ (by decide), s47_ne _ _ (by decide)]; exact B.2.1), mfin _ _ _ _ M2⟩⟩
theorem m_readRoom (X : HXM P sw T tl) (B : RB sw P R g d) {e : Nat} (k : TK T tl R e) (h19 : R.1 47 19 = 0) (he : e ≤ tl) (hnp : g_np g ≤ 6) (hnr : g_nr g < 7) (hk : d_k d ≤ 10) :
    (okT T tl (fO (g_np g)) e → ∃ R', f_X10_readRoom R 47 = some R' ∧ MOT T tl sw P R' (gR g) (dR g d (vlT T tl e)) (nxT T tl e)) ∧
    (¬ okT T tl (fO (g_np g)) e → ∃ R', f_X10_readRoom R 47 = some R' ∧ MF sw P R' (tst T tl e)) := by
  have tail : ∀ (R2 : PH) (v2 : Int32), f_X10_takes R 47 0 (nI (g_np g) - 1) 1 = some (v2, R2) → Ag sw P R2 → R2.1 47 21 = nI (g_nr g) → f_X10_readRoom R 47 = some (sI (sI R2 60 (8 + g_nr g) v2) 47 21 (nI (g_nr g + 1))) := by
    intro R2 v2 q2 A2 h21
    have m2 := X.mr B.1
    have r60 : R.2.2 47 25 = 60 := by rw [m2]; rfl
    obtain ⟨U, eU⟩ : ∃ U, U = sI R2 60 (8 + g_nr g) v2 := ⟨_, rfl⟩
    have u21 : U.1 47 21 = nI (g_nr g) := by rw [eU, sI_ne (by decide)]; exact h21
    unfold f_X10_readRoom
    rw [B.2.1, q2, Option.bind_some, B.2.2.1, show (8 : Int32) = nI 8 from rfl, nI_add, gd (by omega) (by decide), nI_clamp (by omega), r60, ← eU, Option.bind_some, u21, nI_1, Option.bind_some]
  rcases m_tk X B.1 k h19 he (hfO (n := g_np g) (by omega)) with ⟨o1, R1, a1, a2, a3, a4⟩ | ⟨o1, a1, a2⟩
  · refine ⟨fun _ => ⟨_, tail R1 _ a1 (B.f5 a2).1 ((a2.2.2 21 (by decide)).trans B.2.2.1), ?_, ?_, ?_⟩, fun q => absurd o1 q⟩
    · obtain ⟨c1, c2, c3, c4, c5, c6, c7⟩ := B.f5 a2
      have z60 : (sI (sI R1 60 (8 + g_nr g) (nI (vlT T tl e))) 47 21 (nI (g_nr g + 1))).1 60 = upd (R1.1 60) (8 + g_nr g) (nI (vlT T tl e)) := by rw [sI_ne (by decide), sI_eq]
      have zc : ∀ c, c ≠ 47 → c ≠ 60 → (sI (sI R1 60 (8 + g_nr g) (nI (vlT T tl e))) 47 21 (nI (g_nr g + 1))).1 c = R1.1 c := fun c y1 y2 => by rw [sI_ne y1, sI_ne y2]
      refine ⟨(c1.tr (ag_5x sw _ _ _ (by decide))).tr (ag_47 sw _ _ (by decide)), ?_, ?_, ?_, ?_, ?_, ?_⟩
      · rw [sI_eq, upd_ne (by decide), sI_ne (by decide)]
        exact c2
      · rw [sI_eq, upd_eq]
        rfl
      · rw [zc 57 (by decide) (by decide)]; exact c4
      · rw [zc 58 (by decide) (by decide)]; exact c5
      · rw [zc 59 (by decide) (by decide)]
        intro p hp
        rw [c6 p hp]
        show _ = nI (if p < g_nr g + 1 then upN (g_door g) (g_nr g) 0 p else 0)
        unfold upN
        by_cases hpn : p = g_nr g
        · rw [if_neg (by omega), if_pos (by omega), if_pos hpn]
        · by_cases hpl : p < g_nr g
          · rw [if_pos hpl, if_pos (by omega), if_neg hpn]
          · rw [if_neg hpl, if_neg (by omega)]
      · rw [z60]
        obtain ⟨e1, e2, e3, e4, e5, e6⟩ := c7
        refine ⟨?_, ?_, ?_, ?_, ?_, ?_⟩
        · rw [upd_ne (by omega)]; exact e1
        · rw [upd_ne (by omega)]; exact e2
        · intro q hq
          have hq' : q < g_np g := hq
          rw [upd_ne (by omega)]
          exact e3 q hq
        · intro q hq
          have hq' : q < g_nr g + 1 := hq
          show _ = nI (upN (d_left d) (g_nr g) (vlT T tl e) q)
          unfold upN
          by_cases hqn : q = g_nr g
          · rw [hqn, upd_eq, if_pos rfl]
          · rw [upd_ne (by omega), if_neg hqn]
            exact e4 q (by omega)
        · rw [upd_ne (by omega)]; exact e5
        · intro i hi
          rw [upd_ne (by omega), upd_ne (by omega), upd_ne (by omega)]
          exact e6 i hi
    · rw [sI_eq, upd_ne (by decide), sI_ne (by decide)]
      exact a3
    · obtain ⟨k1, k2, k3, k4⟩ := a4
      have z : ∀ j, j ≠ 21 → (sI (sI R1 60 (8 + g_nr g) (nI (vlT T tl e))) 47 21 (nI (g_nr g + 1))).1 47 j = R1.1 47 j := fun j hj => by rw [sI_eq, upd_ne hj, sI_ne (by decide)]
      exact ⟨(z 17 (by decide)).trans k1, (z 16 (by decide)).trans k2, (z 18 (by decide)).trans k3, (z 15 (by decide)).trans k4⟩
  · exact ⟨fun q => absurd q o1, fun _ => ⟨_, tail _ _ a1 a2.1 (by rw [s47_ne _ _ (by decide)]; exact B.2.2.1), (a2.ag5x _ (by decide)).ag47 _ (Or.inr rfl)⟩⟩
end MIT
