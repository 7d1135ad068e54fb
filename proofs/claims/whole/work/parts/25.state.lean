/-! the state: what the class's cells and the model's cells hold together -/
def SG : Type := Nat × Nat × (Nat → Option Nat) × (Nat → Nat) × (Nat → Nat)
def g_np (g : SG) : Nat := g.1
def g_nr (g : SG) : Nat := g.2.1
def g_bed (g : SG) : Nat → Option Nat := g.2.2.1
def g_want (g : SG) : Nat → Nat := g.2.2.2.1
def g_door (g : SG) : Nat → Nat := g.2.2.2.2
def SD : Type := Nat × Nat × Nat × (Nat → Nat) × (Nat → Nat) × (Nat → Nat) × (Nat → Nat) × (Nat → Nat)
def d_day (d : SD) : Nat := d.1
def d_al (d : SD) : Nat := d.2.1
def d_k (d : SD) : Nat := d.2.2.1
def d_heir (d : SD) : Nat → Nat := d.2.2.2.1
def d_left (d : SD) : Nat → Nat := d.2.2.2.2.1
def d_ho (d : SD) : Nat → Nat := d.2.2.2.2.2.1
def d_pl (d : SD) : Nat → Nat := d.2.2.2.2.2.2.1
def d_ti (d : SD) : Nat → Nat := d.2.2.2.2.2.2.2
def ENV (g : SG) (d : SD) : En := (g_np g, g_nr g, g_bed g, g_want g, g_door g, d_heir d, d_left d, d_al d, d_k d, d_ho d, d_pl d, fun i => decide (d_day d ≤ d_ti d i))
def VG (g : SG) : Prop := g_np g ≤ 6 ∧ g_nr g ≤ 7 ∧ (∀ p, p < g_np g → ∀ b, g_bed g p = some b → b < g_nr g) ∧ (∀ p, p < g_np g → g_want g p < 2 ^ g_nr g) ∧ (∀ r, r < g_nr g → g_door g r < 2 ^ g_nr g)
def VD (np nr : Nat) (d : SD) : Prop := d_day d ≤ 99 ∧ d_al d < 2 ^ np ∧ d_k d ≤ 10 ∧ (∀ p, p < np → d_heir d p < 6 ∨ d_heir d p = 9) ∧ (∀ r, r < nr → d_left d r < np ∨ d_left d r = 9) ∧ (∀ i, i < d_k d → d_ho d i < np ∧ d_pl d i < nr ∧ d_ti d i ≤ 99)
theorem VE_of {g : SG} {d : SD} (hg : VG g) (hd : VD (g_np g) (g_nr g) d) : VE (ENV g d) := by
  have h6 := hg.1
  refine ⟨hg.1, hg.2.1, hd.2.1, hd.2.2.1, fun p hp => ?_, fun r hr => ?_, hg.2.2.1, hg.2.2.2.1, hg.2.2.2.2, fun i hi => ⟨(hd.2.2.2.2.2 i hi).1, (hd.2.2.2.2.2 i hi).2.1⟩⟩
  · show d_heir d p < 10
    rcases hd.2.2.2.1 p hp with h | h <;> omega
  · show d_left d r < 10
    rcases hd.2.2.2.2.1 r hr with h | h <;> omega
def hs (sw : Bool) : Nat := if sw then 37 else 27
def ns (sw : Bool) : Nat := if sw then 41 else 31
def img (i : Nat) : Nat := if i = 0 then 15 else 21
def rhoS (sw : Bool) (c j : Nat) : Nat := if c = 0 then (if j = 6 then hs sw else if j = 7 then hs (!sw) else rho0 0 j) else rho0 c j
theorem rhoS_0 : rhoS false = rho0 := by
  funext c j
  unfold rhoS
  by_cases h : c = 0
  · subst h
    rw [if_pos rfl]
    by_cases h6 : j = 6
    · subst h6; rfl
    · rw [if_neg h6]
      by_cases h7 : j = 7
      · subst h7; rfl
      · rw [if_neg h7]
  · rw [if_neg h]
abbrev PI : Type := Nat → Nat → Int32
def HG (s : PI) (h : Nat) (g : SG) : Prop := s h 0 = nI (g_np g) ∧ s h 1 = nI (g_nr g) ∧ (∀ p, p < g_np g → s (rho0 h 3) p = bedI (g_bed g p)) ∧ (∀ p, p < g_np g → s (rho0 h 4) p = nI (g_want g p)) ∧ (∀ r, r < g_nr g → s (rho0 h 2) r = nI (g_door g r))
def MG (s : PI) (g : SG) : Prop := s 47 0 = nI (g_np g) ∧ s 47 1 = nI (g_nr g) ∧ (∀ p, p < g_np g → s 48 p = bedI (g_bed g p)) ∧ (∀ p, p < g_np g → s 49 p = nI (g_want g p)) ∧ (∀ r, r < g_nr g → s 50 r = nI (g_door g r))
def NDc (s : PI) (n np nr : Nat) (d : SD) : Prop := s n 0 = nI (d_day d) ∧ s n 1 = nI (d_al d) ∧ s n 2 = nI (d_k d) ∧ (∀ p, p < np → s (rho0 n 3) p = nI (d_heir d p)) ∧ (∀ r, r < nr → s (rho0 n 4) r = nI (d_left d r)) ∧ (∀ i, i < d_k d → s (rho0 n 5) i = nI (d_ho d i) ∧ s (rho0 n 6) i = nI (d_pl d i) ∧ s (rho0 n 7) i = nI (d_ti d i))
def MD (f : Nat → Int32) (np nr : Nat) (d : SD) : Prop := f 0 = nI (d_day d) ∧ f 1 = nI (d_al d) ∧ (∀ p, p < np → f (2 + p) = nI (d_heir d p)) ∧ (∀ r, r < nr → f (8 + r) = nI (d_left d r)) ∧ f 15 = nI (d_k d) ∧ (∀ i, i < d_k d → f (16 + 3 * i) = nI (d_ho d i) ∧ f (17 + 3 * i) = nI (d_pl d i) ∧ f (18 + 3 * i) = nI (d_ti d i))
/-- deeds: sort, first, second; how one is undone -/
def und (q : Nat × Nat × Nat) (d : SD) : SD :=
  if q.1 = 0 then (d_day d - 1, d_al d, d_k d, d_heir d, d_left d, d_ho d, d_pl d, d_ti d)
  else if q.1 = 1 then (d_day d, d_al d ||| 2 ^ q.2.1, d_k d, d_heir d, d_left d, d_ho d, d_pl d, d_ti d)
  else if q.1 = 2 then (d_day d, d_al d, d_k d - 1, d_heir d, d_left d, d_ho d, d_pl d, d_ti d)
  else if q.1 = 3 then (d_day d, d_al d, d_k d, d_heir d, (fun r => if r = q.2.1 then d_left d q.2.2 else if r = q.2.2 then d_left d q.2.1 else d_left d r), d_ho d, d_pl d, d_ti d)
  else (d_day d, d_al d, d_k d, (fun p => if p = q.2.1 then q.2.2 else d_heir d p), d_left d, d_ho d, d_pl d, d_ti d)
def okd (np nr : Nat) (q : Nat × Nat × Nat) (d : SD) : Prop :=
  (q.1 = 0 ∧ 1 ≤ d_day d) ∨ (q.1 = 1 ∧ q.2.1 < np) ∨ (q.1 = 2 ∧ 1 ≤ d_k d) ∨ (q.1 = 3 ∧ q.2.1 < nr ∧ q.2.2 < nr ∧ q.2.1 ≠ q.2.2) ∨ (q.1 = 4 ∧ q.2.1 < np ∧ (q.2.2 < 6 ∨ q.2.2 = 9))
def eqD (np nr : Nat) (a b : SD) : Prop := d_day a = d_day b ∧ d_al a = d_al b ∧ d_k a = d_k b ∧ (∀ p, p < np → d_heir a p = d_heir b p) ∧ (∀ r, r < nr → d_left a r = d_left b r) ∧ (∀ i, i < d_k a → d_ho a i = d_ho b i ∧ d_pl a i = d_pl b i ∧ d_ti a i = d_ti b i)
def HL (s : PI) (np nr : Nat) : List (Nat × Nat × Nat) → SD → Prop
  | [], _ => True
  | q :: l, d => okd np nr q d ∧ (s 6 l.length = nI q.1 ∧ s 7 l.length = nI q.2.1 ∧ s 8 l.length = nI q.2.2) ∧ ∃ d0 : SD, eqD np nr (und q d) d0 ∧ VD np nr d0 ∧ MD (fun j => s 52 (46 * l.length + j)) np nr d0 ∧ HL s np nr l d0
def IM (s : PI) (np nr m : Nat) : Prop := m < 4 ∧ s 0 5 = nI m ∧ ∀ i, i < 2 → (m.testBit i = true → s 54 i = 1 ∧ ∃ di : SD, VD np nr di ∧ NDc s (img i) np nr di ∧ MD (fun j => s 53 (46 * i + j)) np nr di) ∧ (m.testBit i = false → s 54 i = 0)
def SN (s : PI) (np nr sn : Nat) : Prop := sn ≤ 5 ∧ s 9 0 = nI sn ∧ s 47 10 = nI sn ∧ ∀ i, i < sn → ∃ p r y : Nat, p < np ∧ r < nr ∧ y < 2 ∧ (s 10 i = nI p ∧ s 11 i = nI r ∧ s 12 i = nI y) ∧ (s 55 (3 * i) = nI p ∧ s 55 (3 * i + 1) = nI r ∧ s 55 (3 * i + 2) = nI y)
def TX (s : PI) (tl : Nat) : Prop := tl ≤ 200 ∧ s 2 1 = nI tl ∧ s 47 14 = nI tl ∧ ∀ i, i < tl → ∃ c : Nat, c ≤ 255 ∧ s 3 i = nI c ∧ s 56 i = nI c
def SRx (P : PH) (sw : Bool) (g : SG) (d : SD) (hist : List (Nat × Nat × Nat)) (m sn tl : Nat) : Prop :=
  P.2.2 = rhoS sw ∧ VG g ∧ VD (g_np g) (g_nr g) d ∧ HG P.1 (hs sw) g ∧ MG P.1 g ∧ NDc P.1 (ns sw) (g_np g) (g_nr g) d ∧ MD (P.1 51) (g_np g) (g_nr g) d ∧
  (HL P.1 (g_np g) (g_nr g) hist d ∧ hist.length ≤ 10 ∧ P.1 5 0 = nI hist.length ∧ P.1 47 7 = nI hist.length) ∧ IM P.1 (g_np g) (g_nr g) m ∧ SN P.1 (g_np g) (g_nr g) sn ∧ TX P.1 tl ∧ P.2.1 13 = P.2.1 47
def SR (P : PH) : Prop := ∃ sw g d hist m sn tl, SRx P sw g d hist m sn tl
/-- which places count -/
def rel (sw : Bool) (c j : Nat) : Bool := !(c == 61 || c == 57 || c == 58 || c == 59 || c == 60 || c == 4 || (c == 47 && (j == 27 || (decide (15 ≤ j) && decide (j ≤ 21)))) || (c == 2 && decide (2 ≤ j)) || (if sw then decide (27 ≤ c) && decide (c ≤ 36) else decide (37 ≤ c) && decide (c ≤ 46)))
def Ag (sw : Bool) (P P' : PH) : Prop := P'.2 = P.2 ∧ ∀ c j, rel sw c j = true → P'.1 c j = P.1 c j
theorem Ag.rf (sw : Bool) (P : PH) : Ag sw P P := ⟨rfl, fun _ _ _ => rfl⟩
theorem Ag.tr {sw : Bool} {P P1 P2 : PH} (a : Ag sw P P1) (b : Ag sw P1 P2) : Ag sw P P2 := ⟨b.1.trans a.1, fun c j h => (b.2 c j h).trans (a.2 c j h)⟩
theorem NDc.ag {s s' : PI} {n np nr : Nat} {d : SD} (h : NDc s n np nr d) (a : ∀ j, j < 3 → s' n j = s n j) (b : ∀ f, 3 ≤ f → f < 8 → ∀ j, s' (rho0 n f) j = s (rho0 n f) j) : NDc s' n np nr d :=
  ⟨(a 0 (by decide)).trans h.1, (a 1 (by decide)).trans h.2.1, (a 2 (by decide)).trans h.2.2.1, fun p hp => (b 3 (by decide) (by decide) p).trans (h.2.2.2.1 p hp), fun r hr => (b 4 (by decide) (by decide) r).trans (h.2.2.2.2.1 r hr), fun i hi => ⟨(b 5 (by decide) (by decide) i).trans (h.2.2.2.2.2 i hi).1, (b 6 (by decide) (by decide) i).trans (h.2.2.2.2.2 i hi).2.1, (b 7 (by decide) (by decide) i).trans (h.2.2.2.2.2 i hi).2.2⟩⟩
theorem MD.ag {f f' : Nat → Int32} {np nr : Nat} {d : SD} (hn : np ≤ 6) (hr : nr ≤ 7) (hk : d_k d ≤ 10) (h : MD f np nr d) (a : ∀ j, j < 46 → f' j = f j) : MD f' np nr d :=
  ⟨(a 0 (by decide)).trans h.1, (a 1 (by decide)).trans h.2.1, fun p hp => (a _ (by omega)).trans (h.2.2.1 p hp), fun r hr' => (a _ (by omega)).trans (h.2.2.2.1 r hr'), (a 15 (by decide)).trans h.2.2.2.2.1, fun i hi => ⟨(a _ (by omega)).trans (h.2.2.2.2.2 i hi).1, (a _ (by omega)).trans (h.2.2.2.2.2 i hi).2.1, (a _ (by omega)).trans (h.2.2.2.2.2 i hi).2.2⟩⟩
theorem MD.ag' {f f' : Nat → Int32} {np nr : Nat} {d : SD} (h : MD f np nr d) (a : ∀ j, f' j = f j) : MD f' np nr d := by
  have e : f' = f := funext a
  rw [e]
  exact h
theorem HL.ag {s s' : PI} {np nr : Nat} (h6 : ∀ j, s' 6 j = s 6 j) (h7 : ∀ j, s' 7 j = s 7 j) (h8 : ∀ j, s' 8 j = s 8 j) (h52 : ∀ j, s' 52 j = s 52 j) : ∀ (l : List (Nat × Nat × Nat)) (d : SD), HL s np nr l d → HL s' np nr l d
  | [], _, _ => trivial
  | q :: l, d, ⟨h1, h2, d0, h3, h4, h5, h⟩ => ⟨h1, ⟨(h6 _).trans h2.1, (h7 _).trans h2.2.1, (h8 _).trans h2.2.2⟩, d0, h3, h4, h5.ag' (fun j => h52 _), HL.ag h6 h7 h8 h52 l d0 h⟩
theorem rel_lo {sw : Bool} {c j : Nat} (h : c ≤ 26) (h2 : c ≠ 2) (h4 : c ≠ 4) : rel sw c j = true := by
  unfold rel
  cases sw <;> simp <;> omega
theorem rel_h {sw : Bool} {c j : Nat} (h : if sw then (37 ≤ c ∧ c ≤ 46) else (27 ≤ c ∧ c ≤ 36)) : rel sw c j = true := by
  unfold rel
  cases sw <;> simp at h ⊢ <;> omega
theorem rel_m {sw : Bool} {c j : Nat} (h : 48 ≤ c) (h2 : c ≤ 56) : rel sw c j = true := by
  unfold rel
  cases sw <;> simp <;> omega
theorem SRx.ag {P P' : PH} {sw : Bool} {g : SG} {d : SD} {hist : List (Nat × Nat × Nat)} {m sn tl : Nat} (h : SRx P sw g d hist m sn tl) (a : Ag sw P P') : SRx P' sw g d hist m sn tl := by
  obtain ⟨a1, a2⟩ := a
  obtain ⟨h1, h2, h3, h4, h5, h6, h7, ⟨h8, h9, h10, h11⟩, h12, h13, h14, h15⟩ := h
  have hm : ∀ c, 48 ≤ c → c ≤ 56 → ∀ j, P'.1 c j = P.1 c j := fun c x y j => a2 c j (rel_m x y)
  have hl : ∀ c, c ≤ 26 → c ≠ 2 → c ≠ 4 → ∀ j, P'.1 c j = P.1 c j := fun c x y z j => a2 c j (rel_lo x y z)
  refine ⟨by rw [a1]; exact h1, h2, h3, ?_, ?_, ?_, ?_, ⟨?_, h9, ?_, ?_⟩, ?_, ?_, ?_, by rw [a1]; exact h15⟩
  · have q : ∀ c, (c = hs sw ∨ c = rho0 (hs sw) 2 ∨ c = rho0 (hs sw) 3 ∨ c = rho0 (hs sw) 4) → ∀ j, P'.1 c j = P.1 c j := by
      intro c hc j
      apply a2
      apply rel_h
      cases sw <;> rcases hc with rfl | rfl | rfl | rfl <;> decide
    exact ⟨(q _ (Or.inl rfl) _).trans h4.1, (q _ (Or.inl rfl) _).trans h4.2.1, fun p hp => (q _ (Or.inr (Or.inr (Or.inl rfl))) _).trans (h4.2.2.1 p hp), fun p hp => (q _ (Or.inr (Or.inr (Or.inr rfl))) _).trans (h4.2.2.2.1 p hp), fun r hr => (q _ (Or.inr (Or.inl rfl)) _).trans (h4.2.2.2.2 r hr)⟩
  · exact ⟨(a2 47 0 (by cases sw <;> rfl)).trans h5.1, (a2 47 1 (by cases sw <;> rfl)).trans h5.2.1, fun p hp => (hm 48 (by decide) (by decide) p).trans (h5.2.2.1 p hp), fun p hp => (hm 49 (by decide) (by decide) p).trans (h5.2.2.2.1 p hp), fun r hr => (hm 50 (by decide) (by decide) r).trans (h5.2.2.2.2 r hr)⟩
  · refine h6.ag (fun j _ => a2 _ j (rel_h (by cases sw <;> decide))) (fun f hf hf8 j => a2 _ j (rel_h ?_))
    have : f = 3 ∨ f = 4 ∨ f = 5 ∨ f = 6 ∨ f = 7 := by omega
    cases sw <;> rcases this with rfl | rfl | rfl | rfl | rfl <;> decide
  · exact h7.ag' (hm 51 (by decide) (by decide))
  · exact HL.ag (hl 6 (by decide) (by decide) (by decide)) (hl 7 (by decide) (by decide) (by decide)) (hl 8 (by decide) (by decide) (by decide)) (hm 52 (by decide) (by decide)) hist d h8
  · exact (hl 5 (by decide) (by decide) (by decide) 0).trans h10
  · exact (a2 47 7 (by cases sw <;> rfl)).trans h11
  · refine ⟨h12.1, (hl 0 (by decide) (by decide) (by decide) 5).trans h12.2.1, fun i hi => ⟨fun hb => ?_, fun hb => (hm 54 (by decide) (by decide) i).trans ((h12.2.2 i hi).2 hb)⟩⟩
    obtain ⟨x1, di, x2, x3, x4⟩ := (h12.2.2 i hi).1 hb
    refine ⟨(hm 54 (by decide) (by decide) i).trans x1, di, x2, ?_, x4.ag' (fun j => hm 53 (by decide) (by decide) _)⟩
    refine x3.ag (fun j _ => hl _ ?_ ?_ ?_ j) (fun f hf hf8 j => hl _ ?_ ?_ ?_ j)
    all_goals (have hi2 : i = 0 ∨ i = 1 := by omega)
    iterate 3 (rcases hi2 with rfl | rfl <;> decide)
    all_goals (have hf2 : f = 3 ∨ f = 4 ∨ f = 5 ∨ f = 6 ∨ f = 7 := by omega)
    all_goals (rcases hi2 with rfl | rfl <;> rcases hf2 with rfl | rfl | rfl | rfl | rfl <;> decide)
  · refine ⟨h13.1, (hl 9 (by decide) (by decide) (by decide) 0).trans h13.2.1, (a2 47 10 (by cases sw <;> rfl)).trans h13.2.2.1, fun i hi => ?_⟩
    obtain ⟨p, r, y, b1, b2, b3, ⟨c1, c2, c3⟩, ⟨e1, e2, e3⟩⟩ := h13.2.2.2 i hi
    exact ⟨p, r, y, b1, b2, b3, ⟨(hl 10 (by decide) (by decide) (by decide) _).trans c1, (hl 11 (by decide) (by decide) (by decide) _).trans c2, (hl 12 (by decide) (by decide) (by decide) _).trans c3⟩, ⟨(hm 55 (by decide) (by decide) _).trans e1, (hm 55 (by decide) (by decide) _).trans e2, (hm 55 (by decide) (by decide) _).trans e3⟩⟩
  · refine ⟨h14.1, (a2 2 1 (by cases sw <;> rfl)).trans h14.2.1, (a2 47 14 (by cases sw <;> rfl)).trans h14.2.2.1, fun i hi => ?_⟩
    obtain ⟨c, c1, c2, c3⟩ := h14.2.2.2 i hi
    exact ⟨c, c1, (hl 3 (by decide) (by decide) (by decide) _).trans c2, (hm 56 (by decide) (by decide) _).trans c3⟩
theorem Eqc.ag {P P' : PH} (sw : Bool) (h : Eqc P P') : Ag sw P P' := by
  refine ⟨h.1, fun c j hr => ?_⟩
  by_cases hc : c = 47
  · subst hc
    exact h.2.2 j (fun hj => by subst hj; cases sw <;> cases hr)
  · rw [h.2.1 c hc]
section SRS
variable {P : PH} {sw : Bool} {g : SG} {d : SD} {hist : List (Nat × Nat × Nat)} {m sn tl : Nat}
theorem SRx.np (h : SRx P sw g d hist m sn tl) : g_np g ≤ 6 := h.2.1.1
theorem SRx.nr (h : SRx P sw g d hist m sn tl) : g_nr g ≤ 7 := h.2.1.2.1
theorem SRx.mr (h : SRx P sw g d hist m sn tl) : MR P := by
  unfold MR
  rw [h.1]
  rfl
theorem SRx.ve (h : SRx P sw g d hist m sn tl) : VE (ENV g d) := VE_of h.2.1 h.2.2.1
theorem SRx.house (h : SRx P sw g d hist m sn tl) : P.2.2 0 6 = hs sw := by rw [h.1]; rfl
theorem SRx.now (h : SRx P sw g d hist m sn tl) : P.2.2 (hs sw) 5 = ns sw := by rw [h.1]; cases sw <;> rfl
theorem SRx.ce (h : SRx P sw g d hist m sn tl) : CE0 P (hs sw) (ENV g d) := by
  obtain ⟨h1, -, -, h4, -, h6, -⟩ := h
  have e5 : P.2.2 (hs sw) 5 = ns sw := by rw [h1]; cases sw <;> rfl
  have e : ∀ c j, c ≠ 0 → P.2.2 c j = rho0 c j := fun c j hc => by rw [h1]; unfold rhoS; rw [if_neg hc]
  have z1 : hs sw ≠ 0 := by cases sw <;> decide
  have z2 : ns sw ≠ 0 := by cases sw <;> decide
  refine ⟨h4.1, h4.2.1, ?_, ?_, ?_, ?_, ?_, ?_, ?_⟩
  · rw [e _ _ z1]; exact h4.2.2.1
  · rw [e _ _ z1]; exact h4.2.2.2.1
  · rw [e _ _ z1]; exact h4.2.2.2.2
  · rw [e5, e _ _ z2]; exact h6.2.2.2.1
  · rw [e5, e _ _ z2]; exact h6.2.2.2.2.1
  · rw [e5]; exact h6.2.2.1
  · rw [e5, e _ _ z2, e _ _ z2]; exact fun i hi => ⟨(h6.2.2.2.2.2 i hi).1, (h6.2.2.2.2.2 i hi).2.1⟩
theorem SRx.ti (h : SRx P sw g d hist m sn tl) : ∀ i, i < d_k d → P.1 (P.2.2 (P.2.2 (hs sw) 5) 7) i = nI (d_ti d i) := by
  have z2 : ns sw ≠ 0 := by cases sw <;> decide
  rw [h.now]
  have e : P.2.2 (ns sw) 7 = rho0 (ns sw) 7 := by rw [h.1]; unfold rhoS; rw [if_neg z2]
  rw [e]
  exact fun i hi => (h.2.2.2.2.2.1.2.2.2.2.2 i hi).2.2
theorem SRx.day (h : SRx P sw g d hist m sn tl) : P.1 (P.2.2 (hs sw) 5) 0 = nI (d_day d) := by rw [h.now]; exact h.2.2.2.2.2.1.1
theorem SRx.al (h : SRx P sw g d hist m sn tl) : P.1 (P.2.2 (hs sw) 5) 1 = nI (d_al d) := by rw [h.now]; exact h.2.2.2.2.2.1.2.1
theorem SRx.cok (h : SRx P sw g d hist m sn tl) : COK P (hs sw) (P.1 (P.2.2 (hs sw) 5) 0) 0 (ENV g d) := by
  intro i hi
  have hd := h.2.2.1
  rw [h.day, h.ti i hi]
  show decide (d_day d ≤ d_ti d i) = true ↔ _
  rw [decide_eq_true_eq, nI_leI (by have := hd.1; omega) (by have := (hd.2.2.2.2.2 i hi).2.2; omega), Nat.zero_testBit]
  simp
/-! copying 46 places -/
def cpP (P : PH) (a t b f m : Nat) : PH := sA P a (fun j => if t ≤ j ∧ j < t + m then P.1 b (f + (j - t)) else P.1 a j)
theorem cp_L (n0 n2 : Nat) (K : PH → Option PH) (P : PH) (a t b f : Nat) (hab : a ≠ b) (h0 : t + 46 ≤ n0) (h2 : f + 46 ≤ n2) (hn0 : n0 ≤ 1000) (hn2 : n2 ≤ 1000) : ∀ k i n, i + k = 46 → k < n → f_X10_copy_L3 n0 n2 K a (nI t) b (nI f) n (cpP P a t b f i) (nI i) = K (cpP P a t b f 46) := by
  intro k
  induction k with
  | zero =>
    intro i n hi hn
    obtain ⟨n, rfl⟩ := pre_n hn
    unfold f_X10_copy_L3
    rw [if_pos (show (46 : Int32) ≤ nI i from nI_le (a := 46) (by omega) (by omega)), show i = 46 by omega]
  | succ k ih =>
    intro i n hi hn
    obtain ⟨n, rfl⟩ := pre_n hn
    unfold f_X10_copy_L3
    rw [if_neg (show ¬ (46 : Int32) ≤ nI i from nI_ge (b := 46) (by omega) (by omega)), nI_add, nI_add, gd (by omega) (by omega), gd (by omega) (by omega), nI_clamp (by omega), nI_clamp (by omega), Option.bind_some, nI_1]
    have e : sI (cpP P a t b f i) a (t + i) ((cpP P a t b f i).1 b (f + i)) = cpP P a t b f (i + 1) := by
      have e1 : (cpP P a t b f i).1 b = P.1 b := sA_ne (Ne.symm hab)
      rw [e1]
      unfold sI cpP
      rw [sA_eq]
      unfold sA
      refine Prod.ext ?_ rfl
      funext c j
      by_cases hc : c = a
      · simp only [if_pos hc]
        unfold upd
        by_cases hj : j = t + i
        · subst hj
          rw [if_pos rfl, if_pos (by omega), show t + i - t = i by omega]
        · rw [if_neg hj]
          show (if t ≤ j ∧ j < t + i then P.1 b (f + (j - t)) else P.1 a j) = _
          by_cases hin : t ≤ j ∧ j < t + i
          · rw [if_pos hin, if_pos (by omega)]
          · rw [if_neg hin, if_neg (by omega)]
      · simp only [if_neg hc]
    rw [e]
    exact ih (i + 1) n (by omega) (by omega)
theorem cp_eq (n0 n2 : Nat) (P : PH) (a t b f : Nat) (hab : a ≠ b) (h0 : t + 46 ≤ n0) (h2 : f + 46 ≤ n2) (hn0 : n0 ≤ 1000) (hn2 : n2 ≤ 1000) : f_X10_copy n0 n2 P a (nI t) b (nI f) = some (cpP P a t b f 46) := by
  unfold f_X10_copy
  have e : cpP P a t b f 0 = P := by
    unfold cpP sA
    refine Prod.ext ?_ rfl
    funext c j
    by_cases hc : c = a
    · simp only [if_pos hc]
      rw [if_neg (by omega), hc]
    · simp only [if_neg hc]
  have h := cp_L n0 n2 (fun P2 => some P2) P a t b f hab h0 h2 hn0 hn2 46 0 1000 (by omega) (by omega)
  rw [e] at h
  exact h
def asI (P : PH) : PH := cpP P 61 0 51 0 46
theorem asI_eq (h : MR P) : f_X10_asItIs P 47 = some (asI P) := by
  unfold f_X10_asItIs
  rw [mr_now h, mr_st h, show (0 : Int32) = nI 0 from rfl, cp_eq 46 46 P 61 0 51 0 (by decide) (by decide) (by decide) (by decide) (by decide)]
  rfl
theorem asI_61 (P : PH) {j : Nat} (h : j < 46) : (asI P).1 61 j = P.1 51 j := by
  unfold asI cpP
  rw [sA_eq]
  show (if 0 ≤ j ∧ j < 0 + 46 then P.1 51 (0 + (j - 0)) else P.1 61 j) = _
  rw [if_pos (by omega), Nat.zero_add, Nat.sub_zero]
theorem asI_ne (P : PH) {c : Nat} (h : c ≠ 61) : (asI P).1 c = P.1 c := sA_ne h
theorem asI_ag (sw : Bool) (P : PH) : Ag sw P (asI P) := by
  refine ⟨rfl, fun c j hr => ?_⟩
  by_cases hc : c = 61
  · subst hc
    cases sw <;> cases hr
  · rw [asI_ne P hc]
theorem NE_of {f : Nat → Int32} (hd : VD (g_np g) (g_nr g) d) (h : MD f (g_np g) (g_nr g) d) : NE f (ENV g d) := by
  refine ⟨h.2.1, h.2.2.1, h.2.2.2.1, h.2.2.2.2.1, fun i hi => ⟨(h.2.2.2.2.2 i hi).1, (h.2.2.2.2.2 i hi).2.1, ?_⟩⟩
  rw [h.1, (h.2.2.2.2.2 i hi).2.2]
  show decide (d_day d ≤ d_ti d i) = true ↔ _
  rw [decide_eq_true_eq, nI_leI (by have := hd.1; omega) (by have := (hd.2.2.2.2.2 i hi).2.2; omega)]
theorem SRx.me (h : SRx P sw g d hist m sn tl) : ME (asI P) (ENV g d) := by
  have hmr := h.mr
  obtain ⟨-, hg, hd, -, h5, -, h7, -⟩ := h
  refine ⟨hmr, ?_, ?_, ?_, ?_, ?_, NE_of hd (h7.ag hg.1 hg.2.1 hd.2.2.1 (fun j hj => asI_61 P hj))⟩
  · rw [asI_ne P (by decide)]; exact h5.1
  · rw [asI_ne P (by decide)]; exact h5.2.1
  · rw [asI_ne P (by decide)]; exact h5.2.2.1
  · rw [asI_ne P (by decide)]; exact h5.2.2.2.1
  · rw [asI_ne P (by decide)]; exact h5.2.2.2.2
end SRS
