/-! the class reads a house -/
def HB (s : PI) (h : Nat) (g : SG) (d : SD) : Prop := s h 0 = nI (g_np g) ∧ s h 1 = nI (g_nr g) ∧ (∀ r, r < g_nr g → s (h + 1) r = nI (g_door g r)) ∧ (∀ p, p < g_np g → s (h + 2) p = bedI (g_bed g p)) ∧ (∀ p, p < g_np g → s (h + 3) p = nI (g_want g p)) ∧ s (h + 4) 0 = nI (d_day d) ∧ s (h + 4) 1 = nI (d_al d) ∧ s (h + 4) 2 = nI (d_k d) ∧ (∀ p, p < g_np g → s (h + 5) p = nI (d_heir d p)) ∧ (∀ r, r < g_nr g → s (h + 6) r = nI (d_left d r)) ∧ (∀ i, i < d_k d → s (h + 7) i = nI (d_ho d i) ∧ s (h + 8) i = nI (d_pl d i) ∧ s (h + 9) i = nI (d_ti d i))
theorem HB.hg {s : PI} {w : Bool} {g : SG} {d : SD} (H : HB s (hs w) g d) : HG s (hs w) g ∧ NDc s (ns w) (g_np g) (g_nr g) d := by
  obtain ⟨h1, h2, h3, h4, h5, h6, h7, h8, h9, h10, h11⟩ := H
  cases w
  · exact ⟨⟨h1, h2, h4, h5, h3⟩, h6, h7, h8, h9, h10, h11⟩
  · exact ⟨⟨h1, h2, h4, h5, h3⟩, h6, h7, h8, h9, h10, h11⟩
theorem HB.fr {s s' : PI} {h : Nat} {g : SG} {d : SD} (H : HB s h g d) (a : ∀ c, h ≤ c → c ≤ h + 9 → s' c = s c) : HB s' h g d := by
  unfold HB
  rw [a h (by omega) (by omega), a (h + 1) (by omega) (by omega), a (h + 2) (by omega) (by omega), a (h + 3) (by omega) (by omega), a (h + 4) (by omega) (by omega), a (h + 5) (by omega) (by omega), a (h + 6) (by omega) (by omega), a (h + 7) (by omega) (by omega), a (h + 8) (by omega) (by omega), a (h + 9) (by omega) (by omega)]
  exact H
def HX (P : PH) (sw : Bool) (T : Nat → Nat) (tl : Nat) : Prop := P.2.2 = rhoS sw ∧ TXT P.1 T tl
theorem Ag.txt {P C : PH} {sw : Bool} {T : Nat → Nat} {tl : Nat} (A : Ag sw P C) (t : TXT P.1 T tl) : TXT C.1 T tl := by
  obtain ⟨t1, t2, t3, t4, t5, t6⟩ := t
  exact ⟨t1, t2, (A.2 2 1 (by cases sw <;> rfl)).trans t3, fun i hi => (A.2 3 i (rel_lo (by decide) (by decide) (by decide))).trans (t4 i hi), (A.2 47 14 (by cases sw <;> rfl)).trans t5, fun i hi => (A.2 56 i (rel_m (by decide) (by decide))).trans (t6 i hi)⟩
def CB (sw : Bool) (P C : PH) (g : SG) (d : SD) : Prop := Ag sw P C ∧ HB C.1 (hs (!sw)) g d
theorem hs_w (w : Bool) : hs w = 27 ∨ hs w = 37 := by cases w; exact Or.inl rfl; exact Or.inr rfl
theorem F2.ag {C C1 : PH} (sw : Bool) (f : F2 C C1) : Ag sw C C1 := by
  refine ⟨f.1, fun c j hr => ?_⟩
  by_cases hc : c = 2
  · subst hc
    refine f.2.2 j ?_
    by_cases hj : j < 2
    · exact hj
    · exfalso
      unfold rel at hr
      cases sw <;> simp at hr <;> omega
  · rw [f.2.1 c hc]
theorem CB.f2 {sw : Bool} {P C C1 : PH} {g : SG} {d : SD} (B : CB sw P C g d) (f : F2 C C1) : CB sw P C1 g d := ⟨B.1.tr (f.ag sw), B.2.fr (fun c h1 h2 => f.2.1 c (by have := hs_w (!sw); omega))⟩
theorem ag_4 (sw : Bool) (C : PH) (j : Nat) (v : Int32) : Ag sw C (sI C 4 j v) := by
  refine ⟨rfl, fun c k hr => ?_⟩
  by_cases hc : c = 4
  · subst hc
    cases sw <;> cases hr
  · rw [sI_ne hc]
theorem ag_w (sw : Bool) (C : PH) {c : Nat} (j : Nat) (v : Int32) (h1 : hs (!sw) ≤ c) (h2 : c ≤ hs (!sw) + 9) : Ag sw C (sI C c j v) := by
  refine ⟨rfl, fun c' k hr => ?_⟩
  by_cases hc : c' = c
  · subst hc
    exfalso
    unfold rel at hr
    cases sw
    · change 37 ≤ c' at h1
      change c' ≤ 37 + 9 at h2
      simp at hr
      omega
    · change 27 ≤ c' at h1
      change c' ≤ 27 + 9 at h2
      simp at hr
      omega
  · rw [sI_ne hc]
section CIT
variable {T : Nat → Nat} {tl : Nat} {P C : PH} {sw : Bool} {g : SG} {d : SD}
theorem CB.c4 (B : CB sw P C g d) (j : Nat) (v : Int32) : CB sw P (sI C 4 j v) g d := ⟨B.1.tr (ag_4 sw C j v), B.2.fr (fun c h1 h2 => sI_ne (by have := hs_w (!sw); omega))⟩
theorem CB.rf (X : HX P sw T tl) (B : CB sw P C g d) {c : Nat} (hc : c ≠ 0) (j : Nat) : C.2.2 c j = rho0 c j := by
  rw [B.1.1, X.1]
  unfold rhoS
  rw [if_neg hc]
theorem rho_h (w : Bool) : rho0 (hs w) 2 = hs w + 1 ∧ rho0 (hs w) 3 = hs w + 2 ∧ rho0 (hs w) 4 = hs w + 3 ∧ rho0 (hs w) 5 = hs w + 4 ∧ rho0 (hs w + 4) 3 = hs w + 5 ∧ rho0 (hs w + 4) 4 = hs w + 6 ∧ rho0 (hs w + 4) 5 = hs w + 7 ∧ rho0 (hs w + 4) 6 = hs w + 8 ∧ rho0 (hs w + 4) 7 = hs w + 9 := by
  cases w
  · exact ⟨rfl, rfl, rfl, rfl, rfl, rfl, rfl, rfl, rfl⟩
  · exact ⟨rfl, rfl, rfl, rfl, rfl, rfl, rfl, rfl, rfl⟩
theorem CB.isP (B : CB sw P C g d) (hnp : g_np g ≤ 6) {v : Nat} (hv : v < 1000) : f_X2_isPerson C (hs (!sw)) (nI v) = some (decide (v < g_np g)) := by
  unfold f_X2_isPerson
  rw [B.2.1, if_neg (nI_pos (by omega))]
  by_cases h : v < g_np g
  · rw [if_neg (nI_ge h (by omega)), decide_eq_true h]
  · rw [if_pos (nI_le (by omega) (by omega)), decide_eq_false h]
theorem CB.isR (B : CB sw P C g d) (hnr : g_nr g ≤ 7) {v : Nat} (hv : v < 1000) : f_X2_isRoom C (hs (!sw)) (nI v) = some (decide (v < g_nr g)) := by
  unfold f_X2_isRoom
  rw [B.2.2.1, if_neg (nI_pos (by omega))]
  by_cases h : v < g_nr g
  · rw [if_neg (nI_ge h (by omega)), decide_eq_true h]
  · rw [if_pos (nI_le (by omega) (by omega)), decide_eq_false h]
theorem c_rn (X : HX P sw T tl) (K0 K1 : PH → Option (Bool × PH)) (B : CB sw P C g d) {e : Nat} (h5 : C.1 2 5 = nI e) (he : e ≤ tl) {i cnt n : Nat} (hi : i < cnt) (hc3 : cnt ≤ 3) {sign : Int32} {fp : Nat → Bool} (hf : ∀ C1, CB sw P C1 g d → C1.1 4 = C.1 4 → ∀ v, v < 1000 → f_X6_fits C1 1 sign (nI i) (nI v) (hs (!sw)) = some (fp v)) :
    (((tk1 T tl (tst T tl e)).1 = 2 ∧ fp (tk1 T tl (tst T tl e)).2.1 = true) → ∃ C2, f_X6_readItem_L43 K0 K1 1 (hs (!sw)) sign (nI cnt) (n + 1) C (nI i) = f_X6_readItem_L43 K0 K1 1 (hs (!sw)) sign (nI cnt) n C2 (nI (i + 1)) ∧ CB sw P C2 g d ∧ C2.1 2 5 = nI (tk1 T tl (tst T tl e)).2.2 ∧ C2.1 4 i = nI (tk1 T tl (tst T tl e)).2.1 ∧ ∀ j, j ≠ i → C2.1 4 j = C.1 4 j) ∧
    (¬ ((tk1 T tl (tst T tl e)).1 = 2 ∧ fp (tk1 T tl (tst T tl e)).2.1 = true) → ∃ C1, f_X6_readItem_L43 K0 K1 1 (hs (!sw)) sign (nI cnt) (n + 1) C (nI i) = K0 C1 ∧ Ag sw P C1 ∧ C1.1 2 3 = nI (tst T tl e)) := by
  have tC := B.1.txt X.2
  have r2 : C.2.2 2 0 = 3 := by rw [B.rf X (by decide)]; rfl
  have r1 : C.2.2 1 0 = 2 := by rw [B.rf X (by decide)]; rfl
  obtain ⟨C1, a1, a2, a3⟩ := c_next r2 tC h5 he
  have hst : tst T tl e ≤ tl := by have := skp_in T (tl - e) e; unfold tst; omega
  have hin := tk1_in T X.2.2.1 hst
  have B1 := B.f2 a2
  have r1' : C1.2.2 1 0 = 2 := by rw [B1.rf X (by decide)]; rfl
  have r4' : C1.2.2 1 1 = 4 := by rw [B1.rf X (by decide)]; rfl
  generalize tk1 T tl (tst T tl e) = tk at a3 hin ⊢
  obtain ⟨k1, k2, k3, k4⟩ := a3
  have hlhs : f_X6_readItem_L43 K0 K1 1 (hs (!sw)) sign (nI cnt) (n + 1) C (nI i) = (if (C1.1 2 2) = (2 : Int32) then ((f_X6_fits C1 1 sign (nI i) (C1.1 2 4) (hs (!sw))).bind fun q5 => (if (b2i q5) = 0 then K0 C1 else f_X6_readItem_L43 K0 K1 1 (hs (!sw)) sign (nI cnt) n (sI C1 4 i (C1.1 2 4)) (nI (i + 1)))) else K0 C1) := by
    rw [f_X6_readItem_L43, if_neg (nI_ge hi (by omega)), r1, a1, Option.bind_some, r1', r4']
    simp only [nI_clamp (show i < 2 ^ 31 by omega), gd2 (show i < 3 by omega) (show 3 < 2 ^ 31 by decide), Option.bind_some, nI_1]
  rw [hlhs, k1]
  constructor
  · rintro ⟨h1, h2⟩
    rw [h1, if_pos (show nI 2 = 2 from rfl), k3 (by omega), hf C1 B1 (a2.2.1 4 (by decide)) _ hin.2.2.1, Option.bind_some, if_b2i, if_pos h2]
    refine ⟨_, rfl, B1.c4 i _, ?_, ?_, fun j hj => ?_⟩
    · rw [sI_ne (by decide)]; exact k4
    · rw [sI_eq, upd_eq]
    · rw [sI_eq, upd_ne hj, a2.2.1 4 (by decide)]
  · intro hn
    refine ⟨C1, ?_, B1.1, k2⟩
    by_cases h1 : tk.1 = 2
    · have h2 : ¬ fp tk.2.1 = true := fun q => hn ⟨h1, q⟩
      rw [h1, if_pos (show nI 2 = 2 from rfl), k3 (by omega), hf C1 B1 (a2.2.1 4 (by decide)) _ hin.2.2.1, Option.bind_some, if_b2i, if_neg h2]
    · rw [if_neg (fun q : nI tk.1 = 2 => h1 ((nI_eq (b := 2) (by omega) (by omega)).mp q))]
/-! what is told -/
def upB (f : Nat → Option Nat) (p : Nat) (v : Option Nat) (q : Nat) : Option Nat := if q = p then v else f q
def gP (g : SG) : SG := (g_np g + 1, g_nr g, upB (g_bed g) (g_np g) none, upN (g_want g) (g_np g) 0, g_door g)
def dP (g : SG) (d : SD) (a hr : Nat) : SD := (d_day d, d_al d ||| (if a = 1 then 2 ^ g_np g else 0), d_k d, upN (d_heir d) (g_np g) hr, d_left d, d_ho d, d_pl d, d_ti d)
def gR (g : SG) : SG := (g_np g, g_nr g + 1, g_bed g, g_want g, upN (g_door g) (g_nr g) 0)
def dR (g : SG) (d : SD) (o : Nat) : SD := sLeft d (upN (d_left d) (g_nr g) o)
def gD (g : SG) (a b : Nat) : SG := (g_np g, g_nr g, g_bed g, g_want g, upN (upN (g_door g) a (g_door g a ||| 2 ^ b)) b (g_door g b ||| 2 ^ a))
def gB (g : SG) (p r : Nat) : SG := (g_np g, g_nr g, upB (g_bed g) p (some r), g_want g, g_door g)
def gW (g : SG) (p r : Nat) : SG := (g_np g, g_nr g, g_bed g, upN (g_want g) p (g_want g p ||| 2 ^ r), g_door g)
theorem z30 {α : Type} {A : Option α} : (if ((0 : Int32) < 0 ∨ 3 ≤ (0 : Int32).toNatClampNeg) then none else A) = A := if_neg (by decide)
theorem z31 {α : Type} {A : Option α} : (if ((1 : Int32) < 0 ∨ 3 ≤ (1 : Int32).toNatClampNeg) then none else A) = A := if_neg (by decide)
theorem z32 {α : Type} {A : Option α} : (if ((2 : Int32) < 0 ∨ 3 ≤ (2 : Int32).toNatClampNeg) then none else A) = A := if_neg (by decide)
theorem t_2 : (2 : Int32).toNatClampNeg = 2 := rfl
theorem upd_up {f : Nat → Int32} {u : Nat → Nat} {n p v : Nat} {w : Int32} (h : ∀ q, q < n → f q = nI (u q)) (hw : w = nI v) : ∀ q, q < n → upd f p w q = nI (upN u p v q) := fun q hq => by
  unfold upN
  by_cases hqp : q = p
  · rw [hqp, upd_eq, if_pos rfl, hw]
  · rw [upd_ne hqp, if_neg hqp]
    exact h q hq
theorem upd_up1 {f : Nat → Int32} {u : Nat → Nat} {n v : Nat} {w : Int32} (h : ∀ q, q < n → f q = nI (u q)) (hw : w = nI v) : ∀ q, q < n + 1 → upd f n w q = nI (upN u n v q) := fun q hq => by
  unfold upN
  by_cases hqp : q = n
  · rw [hqp, upd_eq, if_pos rfl, hw]
  · rw [upd_ne hqp, if_neg hqp]
    exact h q (by omega)
theorem c_tellB (X : HX P sw T tl) (B : CB sw P C g d) (hnp : g_np g ≤ 6) {p r : Nat} (hp : p < g_np g) (n0 : C.1 4 0 = nI p) (n1 : C.1 4 1 = nI r) : ∃ C', f_X6_tell C 1 98 (hs (!sw)) = some C' ∧ CB sw P C' (gB g p r) d ∧ C'.1 2 = C.1 2 := by
  have hw := hs_w (!sw)
  have r4 : C.2.2 1 1 = 4 := by rw [B.rf X (by decide)]; rfl
  have r3 : C.2.2 (hs (!sw)) 3 = hs (!sw) + 2 := by rw [B.rf X (by omega)]; exact (rho_h (!sw)).2.1
  unfold f_X6_tell
  rw [z30, z31, t_0, t_1, r4, n0, n1, if_pos rfl, gd (by omega) (by decide), nI_clamp (by omega), r3, Option.bind_some]
  obtain ⟨h1, h2, h3, h4, h5, h6, h7, h8, h9, h10, h11⟩ := B.2
  have z : ∀ c, c ≠ hs (!sw) + 2 → (sI C (hs (!sw) + 2) p (nI r)).1 c = C.1 c := fun c hc => sI_ne hc
  refine ⟨_, rfl, ⟨B.1.tr (ag_w sw C p _ (by omega) (by omega)), ?_⟩, z 2 (by omega)⟩
  unfold HB
  rw [z _ (by omega), z (hs (!sw) + 1) (by omega), z (hs (!sw) + 3) (by omega), z (hs (!sw) + 4) (by omega), z (hs (!sw) + 5) (by omega), z (hs (!sw) + 6) (by omega), z (hs (!sw) + 7) (by omega), z (hs (!sw) + 8) (by omega), z (hs (!sw) + 9) (by omega), sI_eq]
  refine ⟨h1, h2, h3, fun q hq => ?_, h5, h6, h7, h8, h9, h10, h11⟩
  show _ = bedI (upB (g_bed g) p (some r) q)
  unfold upB
  by_cases hqp : q = p
  · rw [hqp, upd_eq, if_pos rfl]
    rfl
  · rw [upd_ne hqp, if_neg hqp]
    exact h4 q hq
theorem c_tellW (X : HX P sw T tl) (B : CB sw P C g d) (hnp : g_np g ≤ 6) {p r : Nat} (hp : p < g_np g) (hr : r < 31) (n0 : C.1 4 0 = nI p) (n1 : C.1 4 1 = nI r) : ∃ C', f_X6_tell C 1 119 (hs (!sw)) = some C' ∧ CB sw P C' (gW g p r) d ∧ C'.1 2 = C.1 2 := by
  have hw := hs_w (!sw)
  have r4 : C.2.2 1 1 = 4 := by rw [B.rf X (by decide)]; rfl
  have r3 : C.2.2 (hs (!sw)) 4 = hs (!sw) + 3 := by rw [B.rf X (by omega)]; exact (rho_h (!sw)).2.2.1
  obtain ⟨h1, h2, h3, h4, h5, h6, h7, h8, h9, h10, h11⟩ := B.2
  unfold f_X6_tell
  rw [z30, z31, t_0, t_1, r4, n0, n1, if_neg (by decide), if_neg (by decide), if_neg (by decide), if_neg (by decide), if_pos rfl, gd (by omega) (by decide), gd (by omega) (by decide), nI_clamp (by omega), r3, h5 p hp, mb_sh (by omega), fa_or, Option.bind_some]
  have z : ∀ c, c ≠ hs (!sw) + 3 → (sI C (hs (!sw) + 3) p (nI (g_want g p ||| 2 ^ r))).1 c = C.1 c := fun c hc => sI_ne hc
  refine ⟨_, rfl, ⟨B.1.tr (ag_w sw C p _ (by omega) (by omega)), ?_⟩, z 2 (by omega)⟩
  unfold HB
  rw [z _ (by omega), z (hs (!sw) + 1) (by omega), z (hs (!sw) + 2) (by omega), z (hs (!sw) + 4) (by omega), z (hs (!sw) + 5) (by omega), z (hs (!sw) + 6) (by omega), z (hs (!sw) + 7) (by omega), z (hs (!sw) + 8) (by omega), z (hs (!sw) + 9) (by omega), sI_eq]
  exact ⟨h1, h2, h3, h4, upd_up h5 rfl, h6, h7, h8, h9, h10, h11⟩
theorem c_tellD (X : HX P sw T tl) (B : CB sw P C g d) (hnr : g_nr g ≤ 7) {a b : Nat} (ha : a < g_nr g) (hb : b < g_nr g) (hab : a ≠ b) (n0 : C.1 4 0 = nI a) (n1 : C.1 4 1 = nI b) : ∃ C', f_X6_tell C 1 100 (hs (!sw)) = some C' ∧ CB sw P C' (gD g a b) d ∧ C'.1 2 = C.1 2 := by
  have hw := hs_w (!sw)
  have r4 : C.2.2 1 1 = 4 := by rw [B.rf X (by decide)]; rfl
  have r3 : C.2.2 (hs (!sw)) 2 = hs (!sw) + 1 := by rw [B.rf X (by omega)]; exact (rho_h (!sw)).1
  obtain ⟨h1, h2, h3, h4, h5, h6, h7, h8, h9, h10, h11⟩ := B.2
  obtain ⟨S, eS⟩ : ∃ S, S = sI C (hs (!sw) + 1) a (nI (g_door g a ||| 2 ^ b)) := ⟨_, rfl⟩
  have rS : S.2.2 (hs (!sw)) 2 = hs (!sw) + 1 := by rw [eS]; exact r3
  have bS : S.1 (hs (!sw) + 1) b = nI (g_door g b) := by rw [eS, sI_eq, upd_ne (Ne.symm hab)]; exact h3 b hb
  unfold f_X6_tell f_X2_addDoor
  rw [z30, z31, t_0, t_1, r4, n0, n1, if_neg (by decide), if_pos rfl, gd (by omega) (by decide), gd (by omega) (by decide), nI_clamp (by omega), r3, h3 a ha, mb_sh (by omega), fa_or, Option.bind_some, ← eS, gd (by omega) (by decide), gd (by omega) (by decide), nI_clamp (by omega), rS, bS, mb_sh (by omega), fa_or, Option.bind_some, Option.bind_some]
  have z : ∀ c, c ≠ hs (!sw) + 1 → (sI S (hs (!sw) + 1) b (nI (g_door g b ||| 2 ^ a))).1 c = C.1 c := fun c hc => by rw [sI_ne hc, eS, sI_ne hc]
  have aS : Ag sw C S := by rw [eS]; exact ag_w sw C a _ (by omega) (by omega)
  refine ⟨_, rfl, ⟨(B.1.tr aS).tr (ag_w sw S b _ (by omega) (by omega)), ?_⟩, z 2 (by omega)⟩
  unfold HB
  rw [z _ (by omega), z (hs (!sw) + 2) (by omega), z (hs (!sw) + 3) (by omega), z (hs (!sw) + 4) (by omega), z (hs (!sw) + 5) (by omega), z (hs (!sw) + 6) (by omega), z (hs (!sw) + 7) (by omega), z (hs (!sw) + 8) (by omega), z (hs (!sw) + 9) (by omega), sI_eq, eS, sI_eq]
  exact ⟨h1, h2, upd_up (upd_up h3 rfl) rfl, h4, h5, h6, h7, h8, h9, h10, h11⟩
theorem c_tellR (X : HX P sw T tl) (B : CB sw P C g d) (hnr : g_nr g < 7) {o : Nat} (n0 : C.1 4 0 = nI o) : ∃ C', f_X6_tell C 1 114 (hs (!sw)) = some C' ∧ CB sw P C' (gR g) (dR g d o) ∧ C'.1 2 = C.1 2 := by
  have hw := hs_w (!sw)
  have r4 : C.2.2 1 1 = 4 := by rw [B.rf X (by decide)]; rfl
  have r2 : C.2.2 (hs (!sw)) 2 = hs (!sw) + 1 := by rw [B.rf X (by omega)]; exact (rho_h (!sw)).1
  have r5 : C.2.2 (hs (!sw)) 5 = hs (!sw) + 4 := by rw [B.rf X (by omega)]; exact (rho_h (!sw)).2.2.2.1
  have r6 : C.2.2 (hs (!sw) + 4) 4 = hs (!sw) + 6 := by rw [B.rf X (by omega)]; exact (rho_h (!sw)).2.2.2.2.2.1
  obtain ⟨h1, h2, h3, h4, h5, h6, h7, h8, h9, h10, h11⟩ := B.2
  obtain ⟨S, eS⟩ : ∃ S, S = sI C (hs (!sw) + 1) (g_nr g) (nI 0) := ⟨_, rfl⟩
  have s2 : S.1 (hs (!sw)) 1 = nI (g_nr g) := by rw [eS, sI_ne (by omega)]; exact h2
  have sr5 : S.2.2 (hs (!sw)) 5 = hs (!sw) + 4 := by rw [eS]; exact r5
  have sr6 : S.2.2 (hs (!sw) + 4) 4 = hs (!sw) + 6 := by rw [eS]; exact r6
  obtain ⟨U, eU⟩ : ∃ U, U = sI S (hs (!sw) + 6) (g_nr g) (nI o) := ⟨_, rfl⟩
  have u2 : U.1 (hs (!sw)) 1 = nI (g_nr g) := by rw [eU, sI_ne (by omega)]; exact s2
  unfold f_X6_tell f_X2_addRoom
  rw [z30, z31, t_0, t_1, r4, n0, if_neg (by decide), if_neg (by decide), if_neg (by decide), if_pos rfl, h2, if_neg (show ¬ (7 : Int32) ≤ nI (g_nr g) from nI_ge (b := 7) hnr (by omega)), gd (by omega) (by decide), nI_clamp (by omega), r2, show (0 : Int32) = nI 0 from rfl, ← eS, Option.bind_some, s2, show (nI 0 : Int32) = 0 from rfl, gd (by omega) (by decide), nI_clamp (by omega), sr5, sr6, ← eU, Option.bind_some, u2, nI_1, Option.bind_some]
  have z : ∀ c, c ≠ hs (!sw) → c ≠ hs (!sw) + 1 → c ≠ hs (!sw) + 6 → (sI U (hs (!sw)) 1 (nI (g_nr g + 1))).1 c = C.1 c := fun c y0 y1 y6 => by rw [sI_ne y0, eU, sI_ne y6, eS, sI_ne y1]
  have aS : Ag sw C S := by rw [eS]; exact ag_w sw C _ _ (by omega) (by omega)
  have aU : Ag sw S U := by rw [eU]; exact ag_w sw S _ _ (by omega) (by omega)
  refine ⟨_, rfl, ⟨((B.1.tr aS).tr aU).tr (ag_w sw U _ _ (by omega) (by omega)), ?_⟩, z 2 (by omega) (by omega) (by omega)⟩
  unfold HB
  rw [z (hs (!sw) + 2) (by omega) (by omega) (by omega), z (hs (!sw) + 3) (by omega) (by omega) (by omega), z (hs (!sw) + 4) (by omega) (by omega) (by omega), z (hs (!sw) + 5) (by omega) (by omega) (by omega), z (hs (!sw) + 7) (by omega) (by omega) (by omega), z (hs (!sw) + 8) (by omega) (by omega) (by omega), z (hs (!sw) + 9) (by omega) (by omega) (by omega)]
  refine ⟨?_, ?_, ?_, h4, h5, h6, h7, h8, h9, ?_, h11⟩
  · rw [sI_eq, upd_ne (by decide), eU, sI_ne (by omega), eS, sI_ne (by omega)]
    exact h1
  · rw [sI_eq, upd_eq]
    rfl
  · rw [sI_ne (by omega), eU, sI_ne (by omega), eS, sI_eq]
    exact upd_up1 h3 rfl
  · rw [sI_ne (by omega), eU, sI_eq, eS, sI_ne (by omega)]
    exact upd_up1 h10 rfl
theorem c_tellP (X : HX P sw T tl) (B : CB sw P C g d) (hnp : g_np g < 6) {a v : Nat} (ha : a ≤ 1) (n0 : C.1 4 0 = nI a) (n1 : C.1 4 1 = nI v) : ∃ C', f_X6_tell C 1 112 (hs (!sw)) = some C' ∧ CB sw P C' (gP g) (dP g d a v) ∧ C'.1 2 = C.1 2 := by
  have hw := hs_w (!sw)
  have r4 : C.2.2 1 1 = 4 := by rw [B.rf X (by decide)]; rfl
  have r3 : C.2.2 (hs (!sw)) 3 = hs (!sw) + 2 := by rw [B.rf X (by omega)]; exact (rho_h (!sw)).2.1
  have rw4 : C.2.2 (hs (!sw)) 4 = hs (!sw) + 3 := by rw [B.rf X (by omega)]; exact (rho_h (!sw)).2.2.1
  have r5 : C.2.2 (hs (!sw)) 5 = hs (!sw) + 4 := by rw [B.rf X (by omega)]; exact (rho_h (!sw)).2.2.2.1
  have r6 : C.2.2 (hs (!sw) + 4) 3 = hs (!sw) + 5 := by rw [B.rf X (by omega)]; exact (rho_h (!sw)).2.2.2.2.1
  obtain ⟨h1, h2, h3, h4, h5, h6, h7, h8, h9, h10, h11⟩ := B.2
  obtain ⟨S, eS⟩ : ∃ S, S = sI C (hs (!sw) + 2) (g_np g) (-9) := ⟨_, rfl⟩
  have s1 : S.1 (hs (!sw)) 0 = nI (g_np g) := by rw [eS, sI_ne (by omega)]; exact h1
  have sr : S.2 = C.2 := by rw [eS]; rfl
  obtain ⟨U, eU⟩ : ∃ U, U = sI S (hs (!sw) + 3) (g_np g) (nI 0) := ⟨_, rfl⟩
  have u1 : U.1 (hs (!sw)) 0 = nI (g_np g) := by rw [eU, sI_ne (by omega)]; exact s1
  have ur : U.2 = C.2 := by rw [eU]; exact sr
  obtain ⟨W, eW⟩ : ∃ W, W = sI U (hs (!sw) + 5) (g_np g) (nI v) := ⟨_, rfl⟩
  have w1 : W.1 (hs (!sw)) 0 = nI (g_np g) := by rw [eW, sI_ne (by omega)]; exact u1
  have wr : W.2 = C.2 := by rw [eW]; exact ur
  have w7 : W.1 (hs (!sw) + 4) 1 = nI (d_al d) := by rw [eW, sI_ne (by omega), eU, sI_ne (by omega), eS, sI_ne (by omega)]; exact h7
  have aS : Ag sw C S := by rw [eS]; exact ag_w sw C _ _ (by omega) (by omega)
  have aU : Ag sw S U := by rw [eU]; exact ag_w sw S _ _ (by omega) (by omega)
  have aW : Ag sw U W := by rw [eW]; exact ag_w sw U _ _ (by omega) (by omega)
  have agW : Ag sw P W := ((B.1.tr aS).tr aU).tr aW
  have zW : ∀ c, c ≠ hs (!sw) + 2 → c ≠ hs (!sw) + 3 → c ≠ hs (!sw) + 5 → W.1 c = C.1 c := fun c y2 y3 y5 => by rw [eW, sI_ne y5, eU, sI_ne y3, eS, sI_ne y2]
  have W2 : W.1 (hs (!sw) + 2) = upd (C.1 (hs (!sw) + 2)) (g_np g) (-9) := by rw [eW, sI_ne (by omega), eU, sI_ne (by omega), eS, sI_eq]
  have W3 : W.1 (hs (!sw) + 3) = upd (C.1 (hs (!sw) + 3)) (g_np g) (nI 0) := by rw [eW, sI_ne (by omega), eU, sI_eq, eS, sI_ne (by omega)]
  have W5 : W.1 (hs (!sw) + 5) = upd (C.1 (hs (!sw) + 5)) (g_np g) (nI v) := by rw [eW, sI_eq, eU, sI_ne (by omega), eS, sI_ne (by omega)]
  have fin : ∀ (Z : PH) (al : Nat), Ag sw P Z → (∀ c, c ≠ hs (!sw) → c ≠ hs (!sw) + 4 → Z.1 c = W.1 c) → Z.1 (hs (!sw)) 0 = nI (g_np g + 1) → Z.1 (hs (!sw)) 1 = nI (g_nr g) → Z.1 (hs (!sw) + 4) 0 = nI (d_day d) → Z.1 (hs (!sw) + 4) 1 = nI (d_al d ||| (if a = 1 then 2 ^ g_np g else 0)) → Z.1 (hs (!sw) + 4) 2 = nI (d_k d) → ∃ C', some Z = some C' ∧ CB sw P C' (gP g) (dP g d a v) ∧ C'.1 2 = C.1 2 := by
    intro Z al A1 zf z0 z1 z40 z41 z42
    have zz : ∀ c, c ≠ hs (!sw) → c ≠ hs (!sw) + 4 → c ≠ hs (!sw) + 2 → c ≠ hs (!sw) + 3 → c ≠ hs (!sw) + 5 → Z.1 c = C.1 c := fun c y0 y4 y2 y3 y5 => (zf c y0 y4).trans (zW c y2 y3 y5)
    refine ⟨Z, rfl, ⟨A1, z0, z1, ?_, ?_, ?_, z40, z41, z42, ?_, ?_, ?_⟩, zz 2 (by omega) (by omega) (by omega) (by omega) (by omega)⟩
    · rw [zz (hs (!sw) + 1) (by omega) (by omega) (by omega) (by omega) (by omega)]; exact h3
    · rw [zf (hs (!sw) + 2) (by omega) (by omega), W2]
      intro q hq
      have hq' : q < g_np g + 1 := hq
      show _ = bedI (upB (g_bed g) (g_np g) none q)
      unfold upB
      by_cases hqp : q = g_np g
      · rw [hqp, upd_eq, if_pos rfl]
        rfl
      · rw [upd_ne hqp, if_neg hqp]
        exact h4 q (by omega)
    · rw [zf (hs (!sw) + 3) (by omega) (by omega), W3]
      exact upd_up1 h5 rfl
    · rw [zf (hs (!sw) + 5) (by omega) (by omega), W5]
      exact upd_up1 h9 rfl
    · rw [zz (hs (!sw) + 6) (by omega) (by omega) (by omega) (by omega) (by omega)]; exact h10
    · rw [zz (hs (!sw) + 7) (by omega) (by omega) (by omega) (by omega) (by omega), zz (hs (!sw) + 8) (by omega) (by omega) (by omega) (by omega) (by omega), zz (hs (!sw) + 9) (by omega) (by omega) (by omega) (by omega) (by omega)]; exact h11
  have zW4 := zW (hs (!sw) + 4) (by omega) (by omega) (by omega)
  have zW0 := zW (hs (!sw)) (by omega) (by omega) (by omega)
  have add : ∀ x1 : Int32, (x1 = 0 ∧ a = 0 ∨ x1 = 1 ∧ a = 1) → ∃ C', ((f_X2_addPerson C (hs (!sw)) x1 (nI v)).bind fun q9 => some q9) = some C' ∧ CB sw P C' (gP g) (dP g d a v) ∧ C'.1 2 = C.1 2 := by
    intro x1 hx
    unfold f_X2_addPerson
    rw [h1, if_neg (show ¬ (6 : Int32) ≤ nI (g_np g) from nI_ge (b := 6) hnp (by omega)), gd (by omega) (by decide), nI_clamp (by omega), r3, ← eS, Option.bind_some, s1, gd (by omega) (by decide), nI_clamp (by omega), sr, rw4, show sI S (hs (!sw) + 3) (g_np g) (0 : Int32) = U from eU.symm, Option.bind_some, u1, gd (by omega) (by decide), nI_clamp (by omega), ur, r5, r6, ← eW, Option.bind_some, w1, wr, r5, w7, mb_sh (by omega), fa_or]
    rcases hx with ⟨hx, ha⟩ | ⟨hx, ha⟩
    · rw [if_pos hx, nI_1, Option.bind_some]
      refine fin _ 0 (agW.tr (ag_w sw W _ _ (by omega) (by omega))) (fun c y0 y4 => sI_ne y0) ?_ ?_ ?_ ?_ ?_
      · rw [sI_eq, upd_eq]
      · rw [sI_eq, upd_ne (by decide), zW0]; exact h2
      · rw [sI_ne (by omega), zW4]; exact h6
      · rw [sI_ne (by omega), w7, if_neg (by omega), Nat.or_zero]
      · rw [sI_ne (by omega), zW4]; exact h8
    · obtain ⟨Y, eY⟩ : ∃ Y, Y = sI W (hs (!sw) + 4) 1 (nI (d_al d ||| 2 ^ g_np g)) := ⟨_, rfl⟩
      have y0 : Y.1 (hs (!sw)) 0 = nI (g_np g) := by rw [eY, sI_ne (by omega)]; exact w1
      rw [if_neg (by rw [hx]; decide), ← eY, Option.bind_some, y0, nI_1, Option.bind_some]
      have aY : Ag sw W Y := by rw [eY]; exact ag_w sw W _ _ (by omega) (by omega)
      refine fin _ 0 ((agW.tr aY).tr (ag_w sw Y _ _ (by omega) (by omega))) (fun c y0 y4 => by rw [sI_ne y0, eY, sI_ne y4]) ?_ ?_ ?_ ?_ ?_
      · rw [sI_eq, upd_eq]
      · rw [sI_eq, upd_ne (by decide), eY, sI_ne (by omega), zW0]; exact h2
      · rw [sI_ne (by omega), eY, sI_eq, upd_ne (by decide), zW4]; exact h6
      · rw [sI_ne (by omega), eY, sI_eq, upd_eq, if_pos ha]
      · rw [sI_ne (by omega), eY, sI_eq, upd_ne (by decide), zW4]; exact h8
  unfold f_X6_tell
  rw [z30, z31, t_0, t_1, r4, n0, n1, if_neg (by decide), if_neg (by decide), if_pos rfl]
  have ha2 : a = 0 ∨ a = 1 := by omega
  rcases ha2 with ha2 | ha2
  · rw [if_neg (by rw [ha2]; decide)]
    exact add 0 (Or.inl ⟨rfl, ha2⟩)
  · rw [if_pos (by rw [ha2]; rfl)]
    exact add 1 (Or.inr ⟨rfl, ha2⟩)
theorem c_tellX (X : HX P sw T tl) (B : CB sw P C g d) (hk : d_k d < 10) {p r u : Nat} (n0 : C.1 4 0 = nI p) (n1 : C.1 4 1 = nI r) (n2 : C.1 4 2 = nI u) : ∃ C', f_X6_tell C 1 120 (hs (!sw)) = some C' ∧ CB sw P C' g (sGr d p r u) ∧ C'.1 2 = C.1 2 := by
  have hw := hs_w (!sw)
  have r4 : C.2.2 1 1 = 4 := by rw [B.rf X (by decide)]; rfl
  have r5 : C.2.2 (hs (!sw)) 5 = hs (!sw) + 4 := by rw [B.rf X (by omega)]; exact (rho_h (!sw)).2.2.2.1
  have q5 : C.2.2 (hs (!sw) + 4) 5 = hs (!sw) + 7 := by rw [B.rf X (by omega)]; exact (rho_h (!sw)).2.2.2.2.2.2.1
  have q6 : C.2.2 (hs (!sw) + 4) 6 = hs (!sw) + 8 := by rw [B.rf X (by omega)]; exact (rho_h (!sw)).2.2.2.2.2.2.2.1
  have q7 : C.2.2 (hs (!sw) + 4) 7 = hs (!sw) + 9 := by rw [B.rf X (by omega)]; exact (rho_h (!sw)).2.2.2.2.2.2.2.2
  obtain ⟨h1, h2, h3, h4, h5, h6, h7, h8, h9, h10, h11⟩ := B.2
  obtain ⟨S, eS⟩ : ∃ S, S = sI C (hs (!sw) + 7) (d_k d) (nI p) := ⟨_, rfl⟩
  obtain ⟨U, eU⟩ : ∃ U, U = sI S (hs (!sw) + 8) (d_k d) (nI r) := ⟨_, rfl⟩
  obtain ⟨W, eW⟩ : ∃ W, W = sI U (hs (!sw) + 9) (d_k d) (nI u) := ⟨_, rfl⟩
  have s8 : S.1 (hs (!sw) + 4) 2 = nI (d_k d) := by rw [eS, sI_ne (by omega)]; exact h8
  have u8 : U.1 (hs (!sw) + 4) 2 = nI (d_k d) := by rw [eU, sI_ne (by omega)]; exact s8
  have w8 : W.1 (hs (!sw) + 4) 2 = nI (d_k d) := by rw [eW, sI_ne (by omega)]; exact u8
  have sr : S.2 = C.2 := by rw [eS]; rfl
  have ur : U.2 = C.2 := by rw [eU]; exact sr
  unfold f_X6_tell f_X4_addRight
  rw [z30, z31, z32, t_0, t_1, t_2, r4, n0, n1, n2, if_neg (by decide), if_neg (by decide), if_neg (by decide), if_neg (by decide), if_neg (by decide), if_pos rfl, r5, h8, if_neg (show ¬ (10 : Int32) ≤ nI (d_k d) from nI_ge (b := 10) hk (by omega)), gd (by omega) (by decide), nI_clamp (by omega), q5, ← eS, Option.bind_some, s8, gd (by omega) (by decide), nI_clamp (by omega), sr, q6, ← eU, Option.bind_some, u8, gd (by omega) (by decide), nI_clamp (by omega), ur, q7, ← eW, Option.bind_some, w8, nI_1, Option.bind_some]
  have aS : Ag sw C S := by rw [eS]; exact ag_w sw C _ _ (by omega) (by omega)
  have aU : Ag sw S U := by rw [eU]; exact ag_w sw S _ _ (by omega) (by omega)
  have aW : Ag sw U W := by rw [eW]; exact ag_w sw U _ _ (by omega) (by omega)
  have agW : Ag sw P W := ((B.1.tr aS).tr aU).tr aW
  have z : ∀ c, c ≠ hs (!sw) + 4 → c ≠ hs (!sw) + 7 → c ≠ hs (!sw) + 8 → c ≠ hs (!sw) + 9 → (sI W (hs (!sw) + 4) 2 (nI (d_k d + 1))).1 c = C.1 c := fun c y4 y7 y8 y9 => by rw [sI_ne y4, eW, sI_ne y9, eU, sI_ne y8, eS, sI_ne y7]
  have z4 : ∀ j, j ≠ 2 → (sI W (hs (!sw) + 4) 2 (nI (d_k d + 1))).1 (hs (!sw) + 4) j = C.1 (hs (!sw) + 4) j := fun j hj => by rw [sI_eq, upd_ne hj, eW, sI_ne (by omega), eU, sI_ne (by omega), eS, sI_ne (by omega)]
  refine ⟨_, rfl, ⟨agW.tr (ag_w sw W _ _ (by omega) (by omega)), ?_⟩, z 2 (by omega) (by omega) (by omega) (by omega)⟩
  unfold HB
  rw [z _ (by omega) (by omega) (by omega) (by omega), z (hs (!sw) + 1) (by omega) (by omega) (by omega) (by omega), z (hs (!sw) + 2) (by omega) (by omega) (by omega) (by omega), z (hs (!sw) + 3) (by omega) (by omega) (by omega) (by omega), z (hs (!sw) + 5) (by omega) (by omega) (by omega) (by omega), z (hs (!sw) + 6) (by omega) (by omega) (by omega) (by omega), z4 0 (by decide), z4 1 (by decide)]
  refine ⟨h1, h2, h3, h4, h5, h6, h7, ?_, h9, h10, ?_⟩
  · rw [sI_eq, upd_eq]
    rfl
  · have e7 : (sI W (hs (!sw) + 4) 2 (nI (d_k d + 1))).1 (hs (!sw) + 7) = upd (C.1 (hs (!sw) + 7)) (d_k d) (nI p) := by rw [sI_ne (by omega), eW, sI_ne (by omega), eU, sI_ne (by omega), eS, sI_eq]
    have e8 : (sI W (hs (!sw) + 4) 2 (nI (d_k d + 1))).1 (hs (!sw) + 8) = upd (C.1 (hs (!sw) + 8)) (d_k d) (nI r) := by rw [sI_ne (by omega), eW, sI_ne (by omega), eU, sI_eq, eS, sI_ne (by omega)]
    have e9 : (sI W (hs (!sw) + 4) 2 (nI (d_k d + 1))).1 (hs (!sw) + 9) = upd (C.1 (hs (!sw) + 9)) (d_k d) (nI u) := by rw [sI_ne (by omega), eW, sI_eq, eU, sI_ne (by omega), eS, sI_ne (by omega)]
    rw [e7, e8, e9]
    exact fun i hi => ⟨upd_up1 (fun q hq => (h11 q hq).1) rfl i hi, upd_up1 (fun q hq => (h11 q hq).2.1) rfl i hi, upd_up1 (fun q hq => (h11 q hq).2.2) rfl i hi⟩
end CIT
