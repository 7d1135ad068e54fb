/-! the world: 62 cells by number, their kinds; a pure heap; what the machine's heap has of it -/
def zt : List Cond := lw_tbl.filter goodWord
theorem zt_mem {w : Cond} (i : Nat) (h : lw_tbl[i]? = some w) (hg : goodWord w = true) : w ∈ zt := List.mem_filter.mpr ⟨List.mem_of_getElem? h, hg⟩
theorem zt_good {w : Cond} (h : w ∈ zt) : (w.onTables && w.keeps) = true ∨ ∃ ty, w = .arrayClass ty := good_of_word (List.mem_filter.mp h).2
def b2i (b : Bool) : Int32 := if b then 1 else 0
/-- ints by cell and place; the long of a cell; references by cell and place -/
abbrev PH : Type := (Nat → Nat → Int32) × (Nat → Int64) × (Nat → Nat → Nat)
abbrev Ev : Type := (Nat → ClassId) × (Nat → Nat → Nat) × (Nat → Nat) × ClassId × ClassId × ClassId
def ad (E : Ev) (c : Nat) : Nat := E.2.2.1 c
def NC : Nat := 62
def zkd : List Nat := [7, 4, 6, 9, 9, 0, 9, 9, 9, 5, 9, 9, 9, 3, 11, 2, 9, 9, 9, 9, 9, 2, 9, 9, 9, 9, 9, 1, 9, 9, 9, 2, 9, 9, 9, 9, 9, 1, 9, 9, 9, 2, 9, 9, 9, 9, 9, 8, 9, 9, 9, 9, 9, 9, 10, 9, 9, 9, 9, 9, 9, 9]
def zln : List Nat := [0, 0, 0, 200, 3, 0, 10, 10, 10, 0, 5, 5, 5, 0, 2, 0, 6, 7, 10, 10, 10, 0, 6, 7, 10, 10, 10, 0, 7, 6, 6, 0, 6, 7, 10, 10, 10, 0, 7, 6, 6, 0, 6, 7, 10, 10, 10, 0, 6, 6, 7, 46, 460, 92, 2, 15, 200, 6, 6, 7, 46, 46]
def zft : List (List Nat) := [[0, 2, 2, 2], [0, 0, 2, 2, 2, 2], [0, 0, 0, 2, 2, 2, 2, 2], [1], [2, 2], [0, 2, 2, 2], [2, 0, 0, 0, 0, 0], [2, 2, 2, 2, 2, 0, 2, 2], [0, 0, 2, 2, 2, 2, 2, 0, 2, 2, 0, 2, 1, 2, 0, 0, 0, 0, 0, 0, 0, 0, 2, 2, 2, 2, 2, 0], [], [], [2, 2]]
def zfk : List (List Nat) := [[0, 9, 9, 9], [0, 0, 9, 9, 9, 2], [0, 0, 0, 9, 9, 9, 9, 9], [0], [6, 9], [0, 9, 9, 9], [9, 0, 0, 0, 0, 0], [4, 0, 5, 3, 11, 0, 1, 1], [0, 0, 9, 9, 9, 9, 9, 0, 9, 10, 0, 9, 0, 9, 0, 0, 0, 0, 0, 0, 0, 0, 9, 9, 9, 9, 9, 0], [], [], [2, 2]]
def zfl : List (List Nat) := [[0, 10, 10, 10], [0, 0, 7, 6, 6, 0], [0, 0, 0, 6, 7, 10, 10, 10], [0], [0, 3], [0, 5, 5, 5], [200, 0, 0, 0, 0, 0], [0, 0, 0, 0, 2, 0, 0, 0], [0, 0, 6, 6, 7, 46, 460, 0, 92, 2, 0, 15, 0, 200, 0, 0, 0, 0, 0, 0, 0, 0, 6, 6, 7, 46, 46, 0], [], [], [0, 0]]
def zfn : List Nat := [4, 6, 8, 1, 2, 4, 6, 8, 28]
def kd (c : Nat) : Nat := zkd.getD c 99
def ln (c : Nat) : Nat := zln.getD c 0
def ft (K j : Nat) : Nat := (zft.getD K []).getD j 0
def fk (K j : Nat) : Nat := (zfk.getD K []).getD j 0
def fl (K j : Nat) : Nat := (zfl.getD K []).getD j 0
def fn (K : Nat) : Nat := zfn.getD K 0
def ok (c K n : Nat) : Prop := c < NC ∧ kd c = K ∧ ln c = n
abbrev classes : List vw_C := [(RX1, TX1, 4), (RX2, TX2, 6), (RX4, TX4, 8), (RX5, TX5, 1), (RX6, TX6, 2), (RX7, TX7, 4), (RX8, TX8, 6), (RX9, TX9, 8), (RX10, TX10, 28)]
def fv (E : Ev) (P : PH) (c K j : Nat) : Value := if ft K j = 0 then .int (P.1 c j) else if ft K j = 1 then .long (P.2.1 c) else .ref (ad E (P.2.2 c j))
def en (E : Ev) (P : PH) (c : Nat) : va_E :=
  if kd c = 9 then .inl (E.2.2.2.1, ln c, .inl (P.1 c))
  else if kd c = 10 then .inl (E.2.2.2.2.1, ln c, .inl (P.1 c))
  else if kd c = 11 then .inl (E.2.2.2.2.2, ln c, .inr (.inr (.inr (.inr (fun j => some (ad E (P.2.2 c j)))))))
  else .inr (kd c, (List.range (fn (kd c))).map (fv E P c (kd c)))
def wl (E : Ev) (P : PH) : va_W := (List.range NC).map (fun c => (ad E c, en E P c))
def WT (P : PH) : Prop := ∀ c j, c < NC → ft (kd c) j = 2 → ok (P.2.2 c j) (fk (kd c) j) (fl (kd c) j)
def tys3 (E : Ev) : List (ClassId × FieldType) := [(E.2.2.2.1, .int), (E.2.2.2.2.1, .boolean), (E.2.2.2.2.2, .object RX4)]
def Rep (E : Ev) (P : PH) (H : Heap) : Prop := va_P (E.1, E.2.1) classes (wl E P) H ∧ WT P
def EK (E : Ev) (U : State) : Prop := va_K (E.1, E.2.1) classes (tys3 E) U
def EvOK (E : Ev) : Prop := ∀ c c', c < NC → c' < NC → ad E c = ad E c' → c = c'
def AE (E : Ev) : Nat → Prop := fun q => ∃ c, c < NC ∧ ad E c = q
/-! updates -/
def sA (P : PH) (c : Nat) (f : Nat → Int32) : PH := (fun c' => if c' = c then f else P.1 c', P.2)
def sI (P : PH) (c i : Nat) (v : Int32) : PH := sA P c (upd (P.1 c) i v)
def sL (P : PH) (c : Nat) (v : Int64) : PH := (P.1, fun c' => if c' = c then v else P.2.1 c', P.2.2)
def sR (P : PH) (c i d : Nat) : PH := (P.1, P.2.1, fun c' => if c' = c then (fun j => if j = i then d else P.2.2 c j) else P.2.2 c')
theorem wl_get {E : Ev} {P : PH} {c : Nat} (h : c < NC) : (wl E P)[c]? = some (ad E c, en E P c) := by
  unfold wl
  rw [List.getElem?_map, List.getElem?_range h]
  rfl
theorem wl_set {E : Ev} {P P' : PH} {c : Nat} (hc : c < NC) (h : ∀ c', c' ≠ c → en E P' c' = en E P c') : (wl E P).set c (ad E c, en E P' c) = wl E P' := by
  have hlen : c < (wl E P).length := by unfold wl; rw [List.length_map, List.length_range]; exact hc
  apply List.ext_getElem?
  intro k
  by_cases hk : k = c
  · subst hk
    rw [List.getElem?_set_self hlen, wl_get hc]
  · rw [List.getElem?_set_ne (Ne.symm hk)]
    by_cases hn : k < NC
    · rw [wl_get hn, wl_get hn, h k hk]
    · rw [List.getElem?_eq_none (by unfold wl; rw [List.length_map, List.length_range]; omega), List.getElem?_eq_none (by unfold wl; rw [List.length_map, List.length_range]; omega)]
theorem wl_D {E : Ev} {P : PH} {A : Nat → Prop} (hi : EvOK E) (hA : ∀ c, c < NC → A (ad E c)) : va_D A (wl E P) := by
  have key : ∀ (k : Nat) (q : Nat × va_E), (wl E P)[k]? = some q → k < NC ∧ q.1 = ad E k := by
    intro k q hq
    by_cases hn : k < NC
    · rw [wl_get hn] at hq
      cases hq
      exact ⟨hn, rfl⟩
    · rw [List.getElem?_eq_none (by unfold wl; rw [List.length_map, List.length_range]; omega)] at hq
      cases hq
  refine ⟨fun i j p q hp hq hpq => ?_, fun k q hq => ?_⟩
  · obtain ⟨a1, a2⟩ := key i p hp
    obtain ⟨b1, b2⟩ := key j q hq
    exact hi i j a1 b1 (by rw [← a2, ← b2]; exact hpq)
  · obtain ⟨a1, a2⟩ := key k q hq
    rw [a2]
    exact hA k a1
theorem en_i {E : Ev} {P : PH} {c n : Nat} (h : ok c 9 n) : en E P c = .inl (E.2.2.2.1, n, .inl (P.1 c)) := by
  unfold en
  rw [if_pos h.2.1, h.2.2]
theorem en_z {E : Ev} {P : PH} {c n : Nat} (h : ok c 10 n) : en E P c = .inl (E.2.2.2.2.1, n, .inl (P.1 c)) := by
  unfold en
  rw [if_neg (by rw [h.2.1]; decide), if_pos h.2.1, h.2.2]
theorem en_q {E : Ev} {P : PH} {c n : Nat} (h : ok c 11 n) : en E P c = .inl (E.2.2.2.2.2, n, .inr (.inr (.inr (.inr (fun j => some (ad E (P.2.2 c j))))))) := by
  unfold en
  rw [if_neg (by rw [h.2.1]; decide), if_neg (by rw [h.2.1]; decide), if_pos h.2.1, h.2.2]
theorem en_o {E : Ev} {P : PH} {c K n : Nat} (h : ok c K n) (hK : K < 9) : en E P c = .inr (K, (List.range (fn K)).map (fv E P c K)) := by
  unfold en
  rw [if_neg (by rw [h.2.1]; omega), if_neg (by rw [h.2.1]; omega), if_neg (by rw [h.2.1]; omega), h.2.1]
theorem en_ne {E : Ev} {P P' : PH} {c : Nat} (h1 : P'.1 c = P.1 c) (h2 : P'.2.1 c = P.2.1 c) (h3 : P'.2.2 c = P.2.2 c) : en E P' c = en E P c := by
  have : ∀ K, fv E P' c K = fv E P c K := fun K => by funext j; unfold fv; rw [h1, h2, h3]
  unfold en
  rw [this, h1, h3]
theorem sA_ne {P : PH} {c c' : Nat} {f : Nat → Int32} (h : c' ≠ c) : (sA P c f).1 c' = P.1 c' := if_neg h
theorem sA_eq {P : PH} {c : Nat} {f : Nat → Int32} : (sA P c f).1 c = f := if_pos rfl
theorem sL_ne {P : PH} {c c' : Nat} {v : Int64} (h : c' ≠ c) : (sL P c v).2.1 c' = P.2.1 c' := if_neg h
theorem sL_eq {P : PH} {c : Nat} {v : Int64} : (sL P c v).2.1 c = v := if_pos rfl
theorem sR_ne {P : PH} {c c' i d : Nat} (h : c' ≠ c) : (sR P c i d).2.2 c' = P.2.2 c' := if_neg h
theorem sR_eq {P : PH} {c i d : Nat} : (sR P c i d).2.2 c = fun j => if j = i then d else P.2.2 c j := if_pos rfl
/-- an array's cell rewritten -/
theorem wl_sA {E : Ev} {P : PH} {c n : Nat} {f : Nat → Int32} (h : ok c 9 n) : (wl E P).set c (ad E c, .inl (E.2.2.2.1, n, .inl f)) = wl E (sA P c f) := by
  rw [← wl_set (P := P) (P' := sA P c f) h.1 (fun c' hc => en_ne (sA_ne hc) rfl rfl), en_i h, sA_eq]
theorem wl_sAz {E : Ev} {P : PH} {c n : Nat} {f : Nat → Int32} (h : ok c 10 n) : (wl E P).set c (ad E c, .inl (E.2.2.2.2.1, n, .inl f)) = wl E (sA P c f) := by
  rw [← wl_set (P := P) (P' := sA P c f) h.1 (fun c' hc => en_ne (sA_ne hc) rfl rfl), en_z h, sA_eq]
theorem map_set {f g : Nat → Value} {n j : Nat} (hj : j < n) (h : ∀ k, k ≠ j → g k = f k) : ((List.range n).map f).set j (g j) = (List.range n).map g := by
  apply List.ext_getElem?
  intro k
  by_cases hk : k = j
  · subst hk
    rw [List.getElem?_set_self (by simp; exact hj), List.getElem?_map, List.getElem?_range hj]
    rfl
  · rw [List.getElem?_set_ne (Ne.symm hk)]
    by_cases hn : k < n
    · rw [List.getElem?_map, List.getElem?_map, List.getElem?_range hn]
      simp [h k hk]
    · rw [List.getElem?_eq_none (by simp; omega), List.getElem?_eq_none (by simp; omega)]
/-- an object's cell rewritten -/
theorem wl_sF {E : Ev} {P P' : PH} {c K n j : Nat} {v : Value} (h : ok c K n) (hK : K < 9) (hj : j < fn K) (hv : fv E P' c K j = v) (hs : ∀ k, k ≠ j → fv E P' c K k = fv E P c K k) (hne : ∀ c', c' ≠ c → en E P' c' = en E P c') :
    (wl E P).set c (ad E c, .inr (K, ((List.range (fn K)).map (fv E P c K)).set j v)) = wl E P' := by
  rw [← wl_set (P := P) (P' := P') h.1 hne, en_o h hK, ← hv, map_set hj hs]
theorem fv_get {E : Ev} {P : PH} {c K j : Nat} (hj : j < fn K) : ((List.range (fn K)).map (fv E P c K))[j]? = some (fv E P c K j) := by
  rw [List.getElem?_map, List.getElem?_range hj]
  rfl
theorem WT_sA {P : PH} {c : Nat} {f : Nat → Int32} (h : WT P) : WT (sA P c f) := h
theorem WT_sL {P : PH} {c : Nat} {v : Int64} (h : WT P) : WT (sL P c v) := h
theorem WT_sR {P : PH} {c i d : Nat} (h : WT P) (hd : ft (kd c) i = 2 → ok d (fk (kd c) i) (fl (kd c) i)) : WT (sR P c i d) := by
  intro c' j hc hf
  by_cases hcc : c' = c
  · subst hcc
    rw [sR_eq]
    by_cases hj : j = i
    · subst hj
      simp only [if_true]
      exact hd hf
    · simp only [if_neg hj]
      exact h _ _ hc hf
  · rw [sR_ne hcc]
    exact h _ _ hc hf
/-! the judgement: the machine, at the pure state (P, pc, locals, stack), comes to Q -/
abbrev Fx : Type := Program × Launch × Env × Room × State × MethodId × Array Value × List Frame × Method × Code × (Nat → Prop) × Nat × Nat
def xp (x : Fx) : Program := x.1
def xl (x : Fx) : Launch := x.2.1
def xe (x : Fx) : Env := x.2.2.1
def xR (x : Fx) : Room := x.2.2.2.1
def xs (x : Fx) : State := x.2.2.2.2.1
def xm (x : Fx) : MethodId := x.2.2.2.2.2.1
def xa (x : Fx) : Array Value := x.2.2.2.2.2.2.1
def xb (x : Fx) : List Frame := x.2.2.2.2.2.2.2.1
def xM (x : Fx) : Method := x.2.2.2.2.2.2.2.2.1
def xc (x : Fx) : Code := x.2.2.2.2.2.2.2.2.2.1
def xA (x : Fx) : Nat → Prop := x.2.2.2.2.2.2.2.2.2.2.1
def xk (x : Fx) : Nat := x.2.2.2.2.2.2.2.2.2.2.2.1
def xj (x : Fx) : Nat := x.2.2.2.2.2.2.2.2.2.2.2.2
def Wz (x : Fx) (E : Ev) (nL : Nat) (Q : State → Prop) (P : PH) (pc : Nat) (lv : List (Nat × Value)) (st : List Value) : Prop :=
  ∀ (H : Heap) (locs : List Loc) (ls : Array Slot), Rep E P H → va_S (xA x) (xs x).heap H locs → lv_has ls nL lv → W (xp x) (xl x) (xe x) (xR x) (xs x) (xm x) (xa x) (xb x) (xM x) (xc x) H locs (xk x) (xj x) Q (F0 (xm x) pc ls st)
def ZS (x : Fx) (E : Ev) (rm : Room) (cc : ByteArray) (nL : Nat) (own : String) (ret : Option FieldType) : Prop :=
  (xp x).tables.exec = Jvm.exec ∧ (xc x).code = cc ∧ (xc x).maxLocals = nL ∧ (xs x).vm.findClass own = some (xm x).cls ∧ (∀ w ∈ zt, w.before (xa x) (xs x) = true) ∧ (xM x).sig.returnType = ret ∧ (xM x).locks = false ∧ EK E (xs x) ∧ EvOK E ∧ (∀ c, c < NC → xA x (ad E c)) ∧ xR x = rm ∧ xk x ≤ 100 ∧ xj x ≤ 2000
/-- what a class' objects want -/
def CF (K : Nat) (C : String) (T : u_T) (N : Nat) (ty : Nat → FieldType) : Prop :=
  classes[K]? = some (C, T, N) ∧ (∀ w ∈ u_ws C T N, w ∈ zt) ∧ (∀ k, k < N → parseFieldDescriptor (T k).2.2.1 = some (ty k)) ∧ (∀ a, a < N → ∀ b, b < N → a ≠ b → (T a).2.1 ≠ (T b).2.1) ∧ fn K = N ∧ K < 9
section ROWS
variable {x : Fx} {E : Ev} {rm : Room} {cc : ByteArray} {nL : Nat} {own : String} {ret : Option FieldType} {Q : State → Prop} {P : PH} {pc : Nat} {lv : List (Nat × Value)} {st : List Value}
theorem z_sub (ks : List Nat) {lv' : List (Nat × Value)} (h : lv_pick lv ks = lv') (k : Wz x E nL Q P pc lv' st) : Wz x E nL Q P pc lv st := fun H locs ls h1 h2 h3 => k H locs ls h1 h2 (lv_sub h3 ks h)
theorem z_iconst (S : ZS x E rm cc nL own ret) {n : Int} {v : Int32} (d : decode cc pc = .ok (.iconst n, 1)) (hv : Int32.ofInt n = v) (k : Wz x E nL Q P (pc + 1) lv (.int v :: st)) : Wz x E nL Q P pc lv st := fun H locs ls h1 h2 h3 => lv_iconst S.1 S.2.1 d hv (k H locs ls h1 h2 h3)
theorem z_bipush (S : ZS x E rm cc nL own ret) {n : Int} {v : Int32} (d : decode cc pc = .ok (.bipush n, 2)) (hv : (Int8.ofInt n).toInt32 = v) (k : Wz x E nL Q P (pc + 2) lv (.int v :: st)) : Wz x E nL Q P pc lv st := fun H locs ls h1 h2 h3 => lv_bipush S.1 S.2.1 d hv (k H locs ls h1 h2 h3)
theorem z_sipush (S : ZS x E rm cc nL own ret) {n : Int} {v : Int32} (d : decode cc pc = .ok (.sipush n, 3)) (hv : (Int16.ofInt n).toInt32 = v) (k : Wz x E nL Q P (pc + 3) lv (.int v :: st)) : Wz x E nL Q P pc lv st := fun H locs ls h1 h2 h3 => lv_sipush S.1 S.2.1 d hv (k H locs ls h1 h2 h3)
theorem z_lconst (S : ZS x E rm cc nL own ret) {n : Fin 2} {v : Int64} (d : decode cc pc = .ok (.lconst n, 1)) (hv : Int64.ofNat (n : Nat) = v) (k : Wz x E nL Q P (pc + 1) lv (.long v :: st)) : Wz x E nL Q P pc lv st := fun H locs ls h1 h2 h3 => lv_lconst S.1 S.2.1 d hv (k H locs ls h1 h2 h3)
theorem z_ldc (S : ZS x E rm cc nL own ret) {index : Nat} {v : Int32} (hw : Cond.constant own index v ∈ zt) (d : decode cc pc = .ok (.ldc index, 2)) (k : Wz x E nL Q P (pc + 2) lv (.int v :: st)) : Wz x E nL Q P pc lv st := fun H locs ls h1 h2 h3 => lv_ldc S.1 S.2.1 S.2.2.2.1 (S.2.2.2.2.1 _ hw) d (k H locs ls h1 h2 h3)
theorem z_ldcw (S : ZS x E rm cc nL own ret) {index : Nat} {v : Int32} (hw : Cond.constant own index v ∈ zt) (d : decode cc pc = .ok (.ldc_w index, 3)) (k : Wz x E nL Q P (pc + 3) lv (.int v :: st)) : Wz x E nL Q P pc lv st := fun H locs ls h1 h2 h3 => lv_ldcw S.1 S.2.1 S.2.2.2.1 (S.2.2.2.2.1 _ hw) d (k H locs ls h1 h2 h3)
theorem z_ldc2 (S : ZS x E rm cc nL own ret) {index : Nat} {v : Int64} (hw : Cond.constantLong own index v ∈ zt) (d : decode cc pc = .ok (.ldc2_w index, 3)) (k : Wz x E nL Q P (pc + 3) lv (.long v :: st)) : Wz x E nL Q P pc lv st := fun H locs ls h1 h2 h3 => lv_ldc2 S.1 S.2.1 S.2.2.2.1 (S.2.2.2.2.1 _ hw) d (k H locs ls h1 h2 h3)
theorem z_iload_n (S : ZS x E rm cc nL own ret) (j : Nat) {q : Fin 4} {i : Nat} {v : Int32} (d : decode cc pc = .ok (.iload_n q, 1)) (hi : (q : Nat) = i) (hj : lv[j]? = some (i, .int v)) (k : Wz x E nL Q P (pc + 1) lv (.int v :: st)) : Wz x E nL Q P pc lv st := fun H locs ls h1 h2 h3 => lv_iload_n S.1 S.2.1 d hi (lv_at h3 j hj) (k H locs ls h1 h2 h3)
theorem z_iload (S : ZS x E rm cc nL own ret) (j : Nat) {i : Nat} {v : Int32} (d : decode cc pc = .ok (.iload i, 2)) (hj : lv[j]? = some (i, .int v)) (k : Wz x E nL Q P (pc + 2) lv (.int v :: st)) : Wz x E nL Q P pc lv st := fun H locs ls h1 h2 h3 => lv_iload S.1 S.2.1 d (lv_at h3 j hj) (k H locs ls h1 h2 h3)
theorem z_aload_n (S : ZS x E rm cc nL own ret) (j : Nat) {q : Fin 4} {i : Nat} {v : Nat} (d : decode cc pc = .ok (.aload_n q, 1)) (hi : (q : Nat) = i) (hj : lv[j]? = some (i, .ref v)) (k : Wz x E nL Q P (pc + 1) lv (.ref v :: st)) : Wz x E nL Q P pc lv st := fun H locs ls h1 h2 h3 => lv_aload_n S.1 S.2.1 d hi (lv_at h3 j hj) (k H locs ls h1 h2 h3)
theorem z_aload (S : ZS x E rm cc nL own ret) (j : Nat) {i : Nat} {v : Nat} (d : decode cc pc = .ok (.aload i, 2)) (hj : lv[j]? = some (i, .ref v)) (k : Wz x E nL Q P (pc + 2) lv (.ref v :: st)) : Wz x E nL Q P pc lv st := fun H locs ls h1 h2 h3 => lv_aload S.1 S.2.1 d (lv_at h3 j hj) (k H locs ls h1 h2 h3)
theorem z_istore_n (S : ZS x E rm cc nL own ret) {q : Fin 4} {i : Nat} {v : Int32} {lv' : List (Nat × Value)} (d : decode cc pc = .ok (.istore_n q, 1)) (hi : (q : Nat) = i) (hn : i < nL) (hl : (i, Value.int v) :: lv.filter (fun q => !(q.1 == i) && !(q.1 + 1 == i && q.2.category == 2)) = lv') (k : Wz x E nL Q P (pc + 1) lv' st) : Wz x E nL Q P pc lv (.int v :: st) := fun H locs _ h1 h2 h3 => lv_istore_n S.1 S.2.1 d hi h3 hn hl (fun ls h3 => k H locs ls h1 h2 h3)
theorem z_istore (S : ZS x E rm cc nL own ret) {i : Nat} {v : Int32} {lv' : List (Nat × Value)} (d : decode cc pc = .ok (.istore i, 2)) (hn : i < nL) (hl : (i, Value.int v) :: lv.filter (fun q => !(q.1 == i) && !(q.1 + 1 == i && q.2.category == 2)) = lv') (k : Wz x E nL Q P (pc + 2) lv' st) : Wz x E nL Q P pc lv (.int v :: st) := fun H locs _ h1 h2 h3 => lv_istore S.1 S.2.1 d h3 hn hl (fun ls h3 => k H locs ls h1 h2 h3)
theorem z_astore_n (S : ZS x E rm cc nL own ret) {q : Fin 4} {i : Nat} {v : Nat} {lv' : List (Nat × Value)} (d : decode cc pc = .ok (.astore_n q, 1)) (hi : (q : Nat) = i) (hn : i < nL) (hl : (i, Value.ref v) :: lv.filter (fun q => !(q.1 == i) && !(q.1 + 1 == i && q.2.category == 2)) = lv') (k : Wz x E nL Q P (pc + 1) lv' st) : Wz x E nL Q P pc lv (.ref v :: st) := fun H locs _ h1 h2 h3 => lv_astore_n S.1 S.2.1 d hi h3 hn hl (fun ls h3 => k H locs ls h1 h2 h3)
theorem z_iinc (S : ZS x E rm cc nL own ret) (j : Nat) {i : Nat} {n : Int} {u v : Int32} {lv' : List (Nat × Value)} (d : decode cc pc = .ok (.iinc i n, 3)) (hj : lv[j]? = some (i, .int u)) (hv : u + Int32.ofInt n = v) (hn : i < nL) (hl : (i, Value.int v) :: lv.filter (fun q => !(q.1 == i) && !(q.1 + 1 == i && q.2.category == 2)) = lv') (k : Wz x E nL Q P (pc + 3) lv' st) : Wz x E nL Q P pc lv st := fun H locs _ h1 h2 h3 => lv_iinc S.1 S.2.1 d h3 hj hv hn hl (fun ls h3 => k H locs ls h1 h2 h3)
theorem z_iadd (S : ZS x E rm cc nL own ret) {a b : Int32} (d : decode cc pc = .ok (.iadd, 1)) (k : Wz x E nL Q P (pc + 1) lv (.int (a + b) :: st)) : Wz x E nL Q P pc lv (.int b :: .int a :: st) := fun H locs ls h1 h2 h3 => lv_iadd S.1 S.2.1 d (k H locs ls h1 h2 h3)
theorem z_isub (S : ZS x E rm cc nL own ret) {a b : Int32} (d : decode cc pc = .ok (.isub, 1)) (k : Wz x E nL Q P (pc + 1) lv (.int (a - b) :: st)) : Wz x E nL Q P pc lv (.int b :: .int a :: st) := fun H locs ls h1 h2 h3 => lv_isub S.1 S.2.1 d (k H locs ls h1 h2 h3)
theorem z_imul (S : ZS x E rm cc nL own ret) {a b : Int32} (d : decode cc pc = .ok (.imul, 1)) (k : Wz x E nL Q P (pc + 1) lv (.int (a * b) :: st)) : Wz x E nL Q P pc lv (.int b :: .int a :: st) := fun H locs ls h1 h2 h3 => lv_imul S.1 S.2.1 d (k H locs ls h1 h2 h3)
theorem z_iand (S : ZS x E rm cc nL own ret) {a b : Int32} (d : decode cc pc = .ok (.iand, 1)) (k : Wz x E nL Q P (pc + 1) lv (.int (a &&& b) :: st)) : Wz x E nL Q P pc lv (.int b :: .int a :: st) := fun H locs ls h1 h2 h3 => lv_iand S.1 S.2.1 d (k H locs ls h1 h2 h3)
theorem z_ior (S : ZS x E rm cc nL own ret) {a b : Int32} (d : decode cc pc = .ok (.ior, 1)) (k : Wz x E nL Q P (pc + 1) lv (.int (a ||| b) :: st)) : Wz x E nL Q P pc lv (.int b :: .int a :: st) := fun H locs ls h1 h2 h3 => lv_ior S.1 S.2.1 d (k H locs ls h1 h2 h3)
theorem z_ixor (S : ZS x E rm cc nL own ret) {a b : Int32} (d : decode cc pc = .ok (.ixor, 1)) (k : Wz x E nL Q P (pc + 1) lv (.int (a ^^^ b) :: st)) : Wz x E nL Q P pc lv (.int b :: .int a :: st) := fun H locs ls h1 h2 h3 => lv_ixor S.1 S.2.1 d (k H locs ls h1 h2 h3)
theorem z_ishl (S : ZS x E rm cc nL own ret) {a b : Int32} (d : decode cc pc = .ok (.ishl, 1)) (k : Wz x E nL Q P (pc + 1) lv (.int (a <<< (b &&& 31)) :: st)) : Wz x E nL Q P pc lv (.int b :: .int a :: st) := fun H locs ls h1 h2 h3 => lv_ishl S.1 S.2.1 d (k H locs ls h1 h2 h3)
theorem z_ishr (S : ZS x E rm cc nL own ret) {a b : Int32} (d : decode cc pc = .ok (.ishr, 1)) (k : Wz x E nL Q P (pc + 1) lv (.int (a >>> (b &&& 31)) :: st)) : Wz x E nL Q P pc lv (.int b :: .int a :: st) := fun H locs ls h1 h2 h3 => lv_ishr S.1 S.2.1 d (k H locs ls h1 h2 h3)
theorem z_iushr (S : ZS x E rm cc nL own ret) {a b : Int32} (d : decode cc pc = .ok (.iushr, 1)) (k : Wz x E nL Q P (pc + 1) lv (.int (a.toUInt32 >>> (b.toUInt32 &&& Int32.toUInt32 31)).toInt32 :: st)) : Wz x E nL Q P pc lv (.int b :: .int a :: st) := fun H locs ls h1 h2 h3 => lv_iushr S.1 S.2.1 d rfl (k H locs ls h1 h2 h3)
theorem z_idiv (S : ZS x E rm cc nL own ret) {α : Type} {A : Option α} {q : α} {a b : Int32} (d : decode cc pc = .ok (.idiv, 1)) (hf : (if b = 0 then none else A) = some q) (k : A = some q → Wz x E nL Q P (pc + 1) lv (.int (a / b) :: st)) : Wz x E nL Q P pc lv (.int b :: .int a :: st) := by
  by_cases h : b = 0
  · rw [if_pos h] at hf
    cases hf
  · rw [if_neg h] at hf
    exact fun H locs ls h1 h2 h3 => lv_idiv S.1 S.2.1 d h (k hf H locs ls h1 h2 h3)
theorem z_irem (S : ZS x E rm cc nL own ret) {α : Type} {A : Option α} {q : α} {a b : Int32} (d : decode cc pc = .ok (.irem, 1)) (hf : (if b = 0 then none else A) = some q) (k : A = some q → Wz x E nL Q P (pc + 1) lv (.int (a - a / b * b) :: st)) : Wz x E nL Q P pc lv (.int b :: .int a :: st) := by
  by_cases h : b = 0
  · rw [if_pos h] at hf
    cases hf
  · rw [if_neg h] at hf
    exact fun H locs ls h1 h2 h3 => lv_irem S.1 S.2.1 d h (k hf H locs ls h1 h2 h3)
theorem z_ladd (S : ZS x E rm cc nL own ret) {a b : Int64} (d : decode cc pc = .ok (.ladd, 1)) (k : Wz x E nL Q P (pc + 1) lv (.long (a + b) :: st)) : Wz x E nL Q P pc lv (.long b :: .long a :: st) := fun H locs ls h1 h2 h3 => lv_ladd S.1 S.2.1 d (k H locs ls h1 h2 h3)
theorem z_dup (S : ZS x E rm cc nL own ret) {v : Value} (d : decode cc pc = .ok (.dup, 1)) (hv : v.category = 1) (k : Wz x E nL Q P (pc + 1) lv (v :: v :: st)) : Wz x E nL Q P pc lv (v :: st) := fun H locs ls h1 h2 h3 => lv_dup S.1 S.2.1 d hv (k H locs ls h1 h2 h3)
theorem z_dup2 (S : ZS x E rm cc nL own ret) {v w : Value} (d : decode cc pc = .ok (.dup2, 1)) (hv : v.category = 1) (hw : w.category = 1) (k : Wz x E nL Q P (pc + 1) lv (v :: w :: v :: w :: st)) : Wz x E nL Q P pc lv (v :: w :: st) := fun H locs ls h1 h2 h3 => lv_dup2_11 S.1 S.2.1 d hv hw (k H locs ls h1 h2 h3)
theorem z_goto (S : ZS x E rm cc nL own ret) {off : Int} {tgt : Nat} (d : decode cc pc = .ok (.goto off, 3)) (ht : (pc : Int) + off = (tgt : Int)) (k : Wz x E nL Q P tgt lv st) : Wz x E nL Q P pc lv st := fun H locs ls h1 h2 h3 => lv_goto S.1 S.2.1 d ht (k H locs ls h1 h2 h3)
theorem z_if_eq (S : ZS x E rm cc nL own ret) {α : Type} {A B : Option α} {q : α} {a : Int32} {off : Int} {tgt : Nat} {hdec : Decidable (a = 0)} (d : decode cc pc = .ok (.ifCond .eq off, 3)) (ht : (pc : Int) + off = (tgt : Int)) (hf : (if a = 0 then A else B) = some q) (kt : A = some q → Wz x E nL Q P tgt lv st) (kf : B = some q → Wz x E nL Q P (pc + 3) lv st) : Wz x E nL Q P pc lv (.int a :: st) := fun H locs ls h1 h2 h3 => lv_if_eq S.1 S.2.1 d ht (fun h => kt (by rw [if_pos h] at hf; exact hf) H locs ls h1 h2 h3) (fun h => kf (by rw [if_neg h] at hf; exact hf) H locs ls h1 h2 h3)
theorem z_if_ne (S : ZS x E rm cc nL own ret) {α : Type} {A B : Option α} {q : α} {a : Int32} {off : Int} {tgt : Nat} {hdec : Decidable (a = 0)} (d : decode cc pc = .ok (.ifCond .ne off, 3)) (ht : (pc : Int) + off = (tgt : Int)) (hf : (if a = 0 then A else B) = some q) (kt : A = some q → Wz x E nL Q P (pc + 3) lv st) (kf : B = some q → Wz x E nL Q P tgt lv st) : Wz x E nL Q P pc lv (.int a :: st) := fun H locs ls h1 h2 h3 => lv_if_ne S.1 S.2.1 d ht (fun h => kf (by rw [if_neg h] at hf; exact hf) H locs ls h1 h2 h3) (fun h => kt (by rw [if_pos h] at hf; exact hf) H locs ls h1 h2 h3)
theorem z_if_lt (S : ZS x E rm cc nL own ret) {α : Type} {A B : Option α} {q : α} {a : Int32} {off : Int} {tgt : Nat} {hdec : Decidable (a < 0)} (d : decode cc pc = .ok (.ifCond .lt off, 3)) (ht : (pc : Int) + off = (tgt : Int)) (hf : (if a < 0 then A else B) = some q) (kt : A = some q → Wz x E nL Q P tgt lv st) (kf : B = some q → Wz x E nL Q P (pc + 3) lv st) : Wz x E nL Q P pc lv (.int a :: st) := fun H locs ls h1 h2 h3 => lv_if_lt S.1 S.2.1 d ht (fun h => kt (by rw [if_pos h] at hf; exact hf) H locs ls h1 h2 h3) (fun h => kf (by rw [if_neg h] at hf; exact hf) H locs ls h1 h2 h3)
theorem z_if_le (S : ZS x E rm cc nL own ret) {α : Type} {A B : Option α} {q : α} {a : Int32} {off : Int} {tgt : Nat} {hdec : Decidable (a ≤ 0)} (d : decode cc pc = .ok (.ifCond .le off, 3)) (ht : (pc : Int) + off = (tgt : Int)) (hf : (if a ≤ 0 then A else B) = some q) (kt : A = some q → Wz x E nL Q P tgt lv st) (kf : B = some q → Wz x E nL Q P (pc + 3) lv st) : Wz x E nL Q P pc lv (.int a :: st) := fun H locs ls h1 h2 h3 => lv_if_le S.1 S.2.1 d ht (fun h => kt (by rw [if_pos h] at hf; exact hf) H locs ls h1 h2 h3) (fun h => kf (by rw [if_neg h] at hf; exact hf) H locs ls h1 h2 h3)
theorem z_if_gt (S : ZS x E rm cc nL own ret) {α : Type} {A B : Option α} {q : α} {a : Int32} {off : Int} {tgt : Nat} {hdec : Decidable (0 < a)} (d : decode cc pc = .ok (.ifCond .gt off, 3)) (ht : (pc : Int) + off = (tgt : Int)) (hf : (if 0 < a then A else B) = some q) (kt : A = some q → Wz x E nL Q P tgt lv st) (kf : B = some q → Wz x E nL Q P (pc + 3) lv st) : Wz x E nL Q P pc lv (.int a :: st) := fun H locs ls h1 h2 h3 => lv_if_gt S.1 S.2.1 d ht (fun h => kt (by rw [if_pos h] at hf; exact hf) H locs ls h1 h2 h3) (fun h => kf (by rw [if_neg h] at hf; exact hf) H locs ls h1 h2 h3)
theorem z_if_ge (S : ZS x E rm cc nL own ret) {α : Type} {A B : Option α} {q : α} {a : Int32} {off : Int} {tgt : Nat} {hdec : Decidable (0 ≤ a)} (d : decode cc pc = .ok (.ifCond .ge off, 3)) (ht : (pc : Int) + off = (tgt : Int)) (hf : (if 0 ≤ a then A else B) = some q) (kt : A = some q → Wz x E nL Q P tgt lv st) (kf : B = some q → Wz x E nL Q P (pc + 3) lv st) : Wz x E nL Q P pc lv (.int a :: st) := fun H locs ls h1 h2 h3 => lv_if_ge S.1 S.2.1 d ht (fun h => kt (by rw [if_pos h] at hf; exact hf) H locs ls h1 h2 h3) (fun h => kf (by rw [if_neg h] at hf; exact hf) H locs ls h1 h2 h3)
theorem z_icmp_eq (S : ZS x E rm cc nL own ret) {α : Type} {A B : Option α} {q : α} {a b : Int32} {off : Int} {tgt : Nat} {hdec : Decidable (a = b)} (d : decode cc pc = .ok (.if_icmp .eq off, 3)) (ht : (pc : Int) + off = (tgt : Int)) (hf : (if a = b then A else B) = some q) (kt : A = some q → Wz x E nL Q P tgt lv st) (kf : B = some q → Wz x E nL Q P (pc + 3) lv st) : Wz x E nL Q P pc lv (.int b :: .int a :: st) := fun H locs ls h1 h2 h3 => lv_icmp_eq S.1 S.2.1 d ht (fun h => kt (by rw [if_pos h] at hf; exact hf) H locs ls h1 h2 h3) (fun h => kf (by rw [if_neg h] at hf; exact hf) H locs ls h1 h2 h3)
theorem z_icmp_ne (S : ZS x E rm cc nL own ret) {α : Type} {A B : Option α} {q : α} {a b : Int32} {off : Int} {tgt : Nat} {hdec : Decidable (a = b)} (d : decode cc pc = .ok (.if_icmp .ne off, 3)) (ht : (pc : Int) + off = (tgt : Int)) (hf : (if a = b then A else B) = some q) (kt : A = some q → Wz x E nL Q P (pc + 3) lv st) (kf : B = some q → Wz x E nL Q P tgt lv st) : Wz x E nL Q P pc lv (.int b :: .int a :: st) := fun H locs ls h1 h2 h3 => lv_icmp_ne S.1 S.2.1 d ht (fun h => kf (by rw [if_neg h] at hf; exact hf) H locs ls h1 h2 h3) (fun h => kt (by rw [if_pos h] at hf; exact hf) H locs ls h1 h2 h3)
theorem z_icmp_lt (S : ZS x E rm cc nL own ret) {α : Type} {A B : Option α} {q : α} {a b : Int32} {off : Int} {tgt : Nat} {hdec : Decidable (a < b)} (d : decode cc pc = .ok (.if_icmp .lt off, 3)) (ht : (pc : Int) + off = (tgt : Int)) (hf : (if a < b then A else B) = some q) (kt : A = some q → Wz x E nL Q P tgt lv st) (kf : B = some q → Wz x E nL Q P (pc + 3) lv st) : Wz x E nL Q P pc lv (.int b :: .int a :: st) := fun H locs ls h1 h2 h3 => lv_icmp_lt S.1 S.2.1 d ht (fun h => kt (by rw [if_pos h] at hf; exact hf) H locs ls h1 h2 h3) (fun h => kf (by rw [if_neg h] at hf; exact hf) H locs ls h1 h2 h3)
theorem z_icmp_le (S : ZS x E rm cc nL own ret) {α : Type} {A B : Option α} {q : α} {a b : Int32} {off : Int} {tgt : Nat} {hdec : Decidable (a ≤ b)} (d : decode cc pc = .ok (.if_icmp .le off, 3)) (ht : (pc : Int) + off = (tgt : Int)) (hf : (if a ≤ b then A else B) = some q) (kt : A = some q → Wz x E nL Q P tgt lv st) (kf : B = some q → Wz x E nL Q P (pc + 3) lv st) : Wz x E nL Q P pc lv (.int b :: .int a :: st) := fun H locs ls h1 h2 h3 => lv_icmp_le S.1 S.2.1 d ht (fun h => kt (by rw [if_pos h] at hf; exact hf) H locs ls h1 h2 h3) (fun h => kf (by rw [if_neg h] at hf; exact hf) H locs ls h1 h2 h3)
theorem z_icmp_gt (S : ZS x E rm cc nL own ret) {α : Type} {A B : Option α} {q : α} {a b : Int32} {off : Int} {tgt : Nat} {hdec : Decidable (b < a)} (d : decode cc pc = .ok (.if_icmp .gt off, 3)) (ht : (pc : Int) + off = (tgt : Int)) (hf : (if b < a then A else B) = some q) (kt : A = some q → Wz x E nL Q P tgt lv st) (kf : B = some q → Wz x E nL Q P (pc + 3) lv st) : Wz x E nL Q P pc lv (.int b :: .int a :: st) := fun H locs ls h1 h2 h3 => lv_icmp_gt S.1 S.2.1 d ht (fun h => kt (by rw [if_pos h] at hf; exact hf) H locs ls h1 h2 h3) (fun h => kf (by rw [if_neg h] at hf; exact hf) H locs ls h1 h2 h3)
theorem z_icmp_ge (S : ZS x E rm cc nL own ret) {α : Type} {A B : Option α} {q : α} {a b : Int32} {off : Int} {tgt : Nat} {hdec : Decidable (b ≤ a)} (d : decode cc pc = .ok (.if_icmp .ge off, 3)) (ht : (pc : Int) + off = (tgt : Int)) (hf : (if b ≤ a then A else B) = some q) (kt : A = some q → Wz x E nL Q P tgt lv st) (kf : B = some q → Wz x E nL Q P (pc + 3) lv st) : Wz x E nL Q P pc lv (.int b :: .int a :: st) := fun H locs ls h1 h2 h3 => lv_icmp_ge S.1 S.2.1 d ht (fun h => kt (by rw [if_pos h] at hf; exact hf) H locs ls h1 h2 h3) (fun h => kf (by rw [if_neg h] at hf; exact hf) H locs ls h1 h2 h3)
theorem z_tif {α : Type} {A B : Option α} {q : α} {c G : Prop} {hdec : Decidable c} (hf : (if c then A else B) = some q) (kt : c → A = some q → G) (kf : ¬ c → B = some q → G) : G := by
  by_cases h : c
  · rw [if_pos h] at hf
    exact kt h hf
  · rw [if_neg h] at hf
    exact kf h hf
theorem z_let {α β : Type} {T : β} {B : β → Option α} {q : α} {G : Prop} (hf : (fun J => B J) T = some q) (k : ∀ J, J = T → B J = some q → G) : G := k T rfl hf
theorem z_tabIn (S : ZS x E rm cc nL own ret) {dflt lo hi : Int} {offs : Array Int} {len : Nat} {v : Int32} {off : Int} {tgt : Nat} (i : Nat) (d : decode cc pc = .ok (.tableswitch dflt lo hi offs, len)) (hv : v.toInt = lo + i) (hh : lo + i ≤ hi) (ho : offs[i]? = some off) (ht : (pc : Int) + off = (tgt : Int)) (k : Wz x E nL Q P tgt lv st) : Wz x E nL Q P pc lv (.int v :: st) :=
  fun H locs ls h1 h2 h3 => lv_tableIn S.1 S.2.1 d (by omega) (by omega) (by rw [show (v.toInt - lo).toNat = i by omega]; exact ho) ht (k H locs ls h1 h2 h3)
theorem z_tabOut (S : ZS x E rm cc nL own ret) {dflt lo hi : Int} {offs : Array Int} {len : Nat} {v : Int32} {tgt : Nat} (d : decode cc pc = .ok (.tableswitch dflt lo hi offs, len)) (h : v.toInt < lo ∨ hi < v.toInt) (ht : (pc : Int) + dflt = (tgt : Int)) (k : Wz x E nL Q P tgt lv st) : Wz x E nL Q P pc lv (.int v :: st) :=
  fun H locs ls h1 h2 h3 => lv_tableOut S.1 S.2.1 d h ht (k H locs ls h1 h2 h3)
theorem z_lookup (S : ZS x E rm cc nL own ret) {dflt : Int} {ps : Array (Int × Int)} {len : Nat} {v : Int32} {off : Int} {tgt : Nat} (d : decode cc pc = .ok (.lookupswitch dflt ps, len)) (hp : (ps.toList.zip (ps.toList.drop 1)).all (fun (a, next) => a.1 < next.1) = true) (ho : Op.lookupswitch.offset ps.toList dflt v.toInt = off) (ht : (pc : Int) + off = (tgt : Int)) (k : Wz x E nL Q P tgt lv st) : Wz x E nL Q P pc lv (.int v :: st) :=
  fun H locs ls h1 h2 h3 => lv_lookup S.1 S.2.1 d hp ho ht (k H locs ls h1 h2 h3)
theorem z_getI (S : ZS x E rm cc nL own ret) {K N h n : Nat} {C : String} {T : u_T} {ty : Nat → FieldType} (cf : CF K C T N ty) (hk : ok h K n) (j : Nat) {idx : Nat} (hj : j < N) (hft : ft K j = 0) (hw : Cond.fieldLink own idx (T j).1 (T j).2.1 (T j).2.2.1 ∈ zt) (d : decode cc pc = .ok (.getfield idx, 3)) (k : Wz x E nL Q P (pc + 3) lv (.int (P.1 h j) :: st)) : Wz x E nL Q P pc lv (.ref (ad E h) :: st) :=
  fun H locs ls h1 h2 h3 => va_get S.1 S.2.1 S.2.2.2.2.1 cf.2.1 S.2.2.2.1 S.2.2.2.2.2.2.2.1 h1.1 h ((wl_get hk.1).trans (by rw [en_o hk cf.2.2.2.2.2])) cf.1 j hj (S.2.2.2.2.1 _ hw) (fun _ z => z) (by rw [fv_get (by rw [cf.2.2.2.2.1]; exact hj)]; unfold fv; rw [if_pos hft]) d (k H locs ls h1 h2 h3)
theorem z_getL (S : ZS x E rm cc nL own ret) {K N h n : Nat} {C : String} {T : u_T} {ty : Nat → FieldType} (cf : CF K C T N ty) (hk : ok h K n) (j : Nat) {idx : Nat} (hj : j < N) (hft : ft K j = 1) (hw : Cond.fieldLink own idx (T j).1 (T j).2.1 (T j).2.2.1 ∈ zt) (d : decode cc pc = .ok (.getfield idx, 3)) (k : Wz x E nL Q P (pc + 3) lv (.long (P.2.1 h) :: st)) : Wz x E nL Q P pc lv (.ref (ad E h) :: st) :=
  fun H locs ls h1 h2 h3 => va_get S.1 S.2.1 S.2.2.2.2.1 cf.2.1 S.2.2.2.1 S.2.2.2.2.2.2.2.1 h1.1 h ((wl_get hk.1).trans (by rw [en_o hk cf.2.2.2.2.2])) cf.1 j hj (S.2.2.2.2.1 _ hw) (fun _ z => z) (by rw [fv_get (by rw [cf.2.2.2.2.1]; exact hj)]; unfold fv; rw [if_neg (by omega), if_pos hft]) d (k H locs ls h1 h2 h3)
theorem z_getR (S : ZS x E rm cc nL own ret) {K N h n K' n' : Nat} {C : String} {T : u_T} {ty : Nat → FieldType} (cf : CF K C T N ty) (hk : ok h K n) (j : Nat) {idx : Nat} (hj : j < N) (hft : ft K j = 2) (hK : fk K j = K') (hn : fl K j = n') (hw : Cond.fieldLink own idx (T j).1 (T j).2.1 (T j).2.2.1 ∈ zt) (d : decode cc pc = .ok (.getfield idx, 3)) (k : ok (P.2.2 h j) K' n' → Wz x E nL Q P (pc + 3) lv (.ref (ad E (P.2.2 h j)) :: st)) : Wz x E nL Q P pc lv (.ref (ad E h) :: st) :=
  fun H locs ls h1 h2 h3 => va_get S.1 S.2.1 S.2.2.2.2.1 cf.2.1 S.2.2.2.1 S.2.2.2.2.2.2.2.1 h1.1 h ((wl_get hk.1).trans (by rw [en_o hk cf.2.2.2.2.2])) cf.1 j hj (S.2.2.2.2.1 _ hw) (fun _ z => z) (by rw [fv_get (by rw [cf.2.2.2.2.1]; exact hj)]; unfold fv; rw [if_neg (by omega), if_neg (by omega)]) d (k (by have := h1.2 h j hk.1 (by rw [hk.2.1]; exact hft); rw [hk.2.1, hK, hn] at this; exact this) H locs ls h1 h2 h3)
theorem z_putI (S : ZS x E rm cc nL own ret) {K N h n : Nat} {C : String} {T : u_T} {ty : Nat → FieldType} (cf : CF K C T N ty) (hk : ok h K n) (j : Nat) {idx : Nat} {v : Int32} (hj : j < N) (hft : ft K j = 0) (hfin : (T j).2.2.2 = false) (hna : narrow (ty j) (.int v) = .int v) (hfi : fits (ty j) (.int v) = true) (hw : Cond.fieldLink own idx (T j).1 (T j).2.1 (T j).2.2.1 ∈ zt) (d : decode cc pc = .ok (.putfield idx, 3)) (k : Wz x E nL Q (sI P h j v) (pc + 3) lv st) : Wz x E nL Q P pc lv (.int v :: .ref (ad E h) :: st) :=
  fun H locs ls h1 h2 h3 => va_put S.1 S.2.1 S.2.2.2.2.1 cf.2.1 ty cf.2.2.1 cf.2.2.2.1 S.2.2.2.1 S.2.2.2.2.2.2.2.1 h1.1 (wl_D S.2.2.2.2.2.2.2.2.1 S.2.2.2.2.2.2.2.2.2.1) h2 h ((wl_get hk.1).trans (by rw [en_o hk cf.2.2.2.2.2])) cf.1 j hj (S.2.2.2.2.1 _ hw) (fun _ z => z) hfin (cf.2.2.1 j hj) hna hfi (by rw [List.length_map, List.length_range, cf.2.2.2.2.1]; exact hj) d
    (fun H1 locs1 g1 _ g3 => k H1 locs1 ls ⟨by
      rw [← wl_sF (P := P) (P' := sI P h j v) (v := .int v) hk cf.2.2.2.2.2 (by rw [cf.2.2.2.2.1]; exact hj) (by unfold fv; rw [if_pos hft]; unfold sI; rw [sA_eq]; simp [upd]) (fun k' hk' => by unfold fv sI; rw [sA_eq]; simp [upd, hk']; rfl) (fun c' hc => en_ne (sA_ne hc) rfl rfl)]
      exact g1, h1.2⟩ g3 h3)
theorem z_putL (S : ZS x E rm cc nL own ret) {K N h n : Nat} {C : String} {T : u_T} {ty : Nat → FieldType} (cf : CF K C T N ty) (hk : ok h K n) (j : Nat) {idx : Nat} {v : Int64} (hj : j < N) (hft : ft K j = 1) (hsole : ∀ k, k ≠ j → ¬ ft K k = 1) (hfin : (T j).2.2.2 = false) (hna : narrow (ty j) (.long v) = .long v) (hfi : fits (ty j) (.long v) = true) (hw : Cond.fieldLink own idx (T j).1 (T j).2.1 (T j).2.2.1 ∈ zt) (d : decode cc pc = .ok (.putfield idx, 3)) (k : Wz x E nL Q (sL P h v) (pc + 3) lv st) : Wz x E nL Q P pc lv (.long v :: .ref (ad E h) :: st) :=
  fun H locs ls h1 h2 h3 => va_put S.1 S.2.1 S.2.2.2.2.1 cf.2.1 ty cf.2.2.1 cf.2.2.2.1 S.2.2.2.1 S.2.2.2.2.2.2.2.1 h1.1 (wl_D S.2.2.2.2.2.2.2.2.1 S.2.2.2.2.2.2.2.2.2.1) h2 h ((wl_get hk.1).trans (by rw [en_o hk cf.2.2.2.2.2])) cf.1 j hj (S.2.2.2.2.1 _ hw) (fun _ z => z) hfin (cf.2.2.1 j hj) hna hfi (by rw [List.length_map, List.length_range, cf.2.2.2.2.1]; exact hj) d
    (fun H1 locs1 g1 _ g3 => k H1 locs1 ls ⟨by
      rw [← wl_sF (P := P) (P' := sL P h v) (v := .long v) hk cf.2.2.2.2.2 (by rw [cf.2.2.2.2.1]; exact hj) (by unfold fv; rw [if_neg (by omega), if_pos hft, sL_eq]) (fun k' hk' => by unfold fv; rw [if_neg (hsole k' hk'), if_neg (hsole k' hk')]; rfl) (fun c' hc => en_ne rfl (sL_ne hc) rfl)]
      exact g1, h1.2⟩ g3 h3)
theorem z_putR (S : ZS x E rm cc nL own ret) {K N h n c : Nat} {C : String} {T : u_T} {ty : Nat → FieldType} (cf : CF K C T N ty) (hk : ok h K n) (j : Nat) {idx : Nat} (hc : ok c (fk K j) (fl K j)) (hj : j < N) (hft : ft K j = 2) (hfin : (T j).2.2.2 = false) (hna : narrow (ty j) (.ref (ad E c)) = .ref (ad E c)) (hfi : fits (ty j) (.ref (ad E c)) = true) (hw : Cond.fieldLink own idx (T j).1 (T j).2.1 (T j).2.2.1 ∈ zt) (d : decode cc pc = .ok (.putfield idx, 3)) (k : Wz x E nL Q (sR P h j c) (pc + 3) lv st) : Wz x E nL Q P pc lv (.ref (ad E c) :: .ref (ad E h) :: st) :=
  fun H locs ls h1 h2 h3 => va_put S.1 S.2.1 S.2.2.2.2.1 cf.2.1 ty cf.2.2.1 cf.2.2.2.1 S.2.2.2.1 S.2.2.2.2.2.2.2.1 h1.1 (wl_D S.2.2.2.2.2.2.2.2.1 S.2.2.2.2.2.2.2.2.2.1) h2 h ((wl_get hk.1).trans (by rw [en_o hk cf.2.2.2.2.2])) cf.1 j hj (S.2.2.2.2.1 _ hw) (fun _ z => z) hfin (cf.2.2.1 j hj) hna hfi (by rw [List.length_map, List.length_range, cf.2.2.2.2.1]; exact hj) d
    (fun H1 locs1 g1 _ g3 => k H1 locs1 ls ⟨by
      rw [← wl_sF (P := P) (P' := sR P h j c) (v := .ref (ad E c)) hk cf.2.2.2.2.2 (by rw [cf.2.2.2.2.1]; exact hj) (by unfold fv; rw [if_neg (by omega), if_neg (by omega), sR_eq]; simp) (fun k' hk' => by unfold fv; rw [sR_eq]; simp [hk']; rfl) (fun c' hc => en_ne rfl rfl (sR_ne hc))]
      exact g1, WT_sR h1.2 (fun _ => by rw [hk.2.1]; exact hc)⟩ g3 h3)
theorem z_in {α : Type} {A : Option α} {q : α} {i : Int32} {n : Nat} {hdec : Decidable (i < 0 ∨ n ≤ i.toNatClampNeg)} (hf : (if (i < 0 ∨ n ≤ i.toNatClampNeg) then none else A) = some q) : vp_in i n ∧ A = some q := by
  by_cases h : (i < 0 ∨ n ≤ i.toNatClampNeg)
  · rw [if_pos h] at hf
    cases hf
  · rw [if_neg h] at hf
    exact ⟨h, hf⟩
theorem z_iald (S : ZS x E rm cc nL own ret) {α : Type} {A : Option α} {q : α} {a n : Nat} {i : Int32} {hdec : Decidable (i < 0 ∨ n ≤ i.toNatClampNeg)} (hk : ok a 9 n) (d : decode cc pc = .ok (.iaload, 1)) (hf : (if (i < 0 ∨ n ≤ i.toNatClampNeg) then none else A) = some q) (k : A = some q → Wz x E nL Q P (pc + 1) lv (.int (P.1 a i.toNatClampNeg) :: st)) : Wz x E nL Q P pc lv (.int i :: .ref (ad E a) :: st) :=
  fun H locs ls h1 h2 h3 => va_iald S.1 S.2.1 S.2.2.2.2.2.2.2.1 h1.1 a 0 ((wl_get hk.1).trans (by rw [en_i hk])) rfl (z_in hf).1 d (k (z_in hf).2 H locs ls h1 h2 h3)
theorem z_bald (S : ZS x E rm cc nL own ret) {α : Type} {A : Option α} {q : α} {a n : Nat} {i : Int32} {hdec : Decidable (i < 0 ∨ n ≤ i.toNatClampNeg)} (hk : ok a 10 n) (d : decode cc pc = .ok (.baload, 1)) (hf : (if (i < 0 ∨ n ≤ i.toNatClampNeg) then none else A) = some q) (k : A = some q → Wz x E nL Q P (pc + 1) lv (.int (P.1 a i.toNatClampNeg) :: st)) : Wz x E nL Q P pc lv (.int i :: .ref (ad E a) :: st) :=
  fun H locs ls h1 h2 h3 => va_zald S.1 S.2.1 S.2.2.2.2.2.2.2.1 h1.1 a 1 ((wl_get hk.1).trans (by rw [en_z hk])) rfl (z_in hf).1 d (k (z_in hf).2 H locs ls h1 h2 h3)
theorem z_aald (S : ZS x E rm cc nL own ret) {α : Type} {A : Option α} {q : α} {a n : Nat} {i : Int32} {hdec : Decidable (i < 0 ∨ n ≤ i.toNatClampNeg)} (hk : ok a 11 n) (hn : n ≤ 2) (d : decode cc pc = .ok (.aaload, 1)) (hf : (if (i < 0 ∨ n ≤ i.toNatClampNeg) then none else A) = some q) (k : ok (P.2.2 a i.toNatClampNeg) 2 0 → A = some q → Wz x E nL Q P (pc + 1) lv (.ref (ad E (P.2.2 a i.toNatClampNeg)) :: st)) : Wz x E nL Q P pc lv (.int i :: .ref (ad E a) :: st) :=
  fun H locs ls h1 h2 h3 => va_aldq (f := fun j => some (ad E (P.2.2 a j))) S.1 S.2.1 S.2.2.2.2.2.2.2.1 h1.1 a 2 ((wl_get hk.1).trans (by rw [en_q hk])) rfl (z_in hf).1 d (k (by
    have hv := (z_in hf).1
    have h5 : i.toNatClampNeg < 2 := Nat.lt_of_lt_of_le (Nat.not_le.mp fun z => hv (Or.inr z)) hn
    have e1 : ∀ j, j < 2 → ft 11 j = 2 := by decide
    have e2 : ∀ j, j < 2 → fk 11 j = 2 ∧ fl 11 j = 0 := by decide
    have h6 := h1.2 a i.toNatClampNeg hk.1 (by rw [hk.2.1]; exact e1 _ h5)
    rw [hk.2.1, (e2 _ h5).1, (e2 _ h5).2] at h6
    exact h6) (z_in hf).2 H locs ls h1 h2 h3)
theorem z_iast (S : ZS x E rm cc nL own ret) {α : Type} {A : Option α} {q : α} {a n : Nat} {i v : Int32} {hdec : Decidable (i < 0 ∨ n ≤ i.toNatClampNeg)} (hk : ok a 9 n) (d : decode cc pc = .ok (.iastore, 1)) (hf : (if (i < 0 ∨ n ≤ i.toNatClampNeg) then none else A) = some q) (k : A = some q → Wz x E nL Q (sI P a i.toNatClampNeg v) (pc + 1) lv st) : Wz x E nL Q P pc lv (.int v :: .int i :: .ref (ad E a) :: st) :=
  fun H locs ls h1 h2 h3 => va_iast S.1 S.2.1 S.2.2.2.2.2.2.2.1 h1.1 (wl_D S.2.2.2.2.2.2.2.2.1 S.2.2.2.2.2.2.2.2.2.1) h2 a 0 ((wl_get hk.1).trans (by rw [en_i hk])) rfl (z_in hf).1 d (fun H1 locs1 g1 _ g3 => k (z_in hf).2 H1 locs1 ls ⟨by rw [wl_sA hk] at g1; exact g1, h1.2⟩ g3 h3)
theorem z_bast (S : ZS x E rm cc nL own ret) {α : Type} {A : Option α} {q : α} {a n : Nat} {i v : Int32} {hdec : Decidable (i < 0 ∨ n ≤ i.toNatClampNeg)} (hk : ok a 10 n) (hv : vp_nar .boolean v = v) (d : decode cc pc = .ok (.bastore, 1)) (hf : (if (i < 0 ∨ n ≤ i.toNatClampNeg) then none else A) = some q) (k : A = some q → Wz x E nL Q (sI P a i.toNatClampNeg v) (pc + 1) lv st) : Wz x E nL Q P pc lv (.int v :: .int i :: .ref (ad E a) :: st) :=
  fun H locs ls h1 h2 h3 => va_zast S.1 S.2.1 S.2.2.2.2.2.2.2.1 h1.1 (wl_D S.2.2.2.2.2.2.2.2.1 S.2.2.2.2.2.2.2.2.2.1) h2 a 1 ((wl_get hk.1).trans (by rw [en_z hk])) rfl (z_in hf).1 d (fun H1 locs1 g1 _ g3 => k (z_in hf).2 H1 locs1 ls ⟨by rw [hv, wl_sAz hk] at g1; exact g1, h1.2⟩ g3 h3)
theorem z_copy (S : ZS x E rm cc nL own ret) {α : Type} {A : Option α} {q : α} {a a0 n n0 : Nat} {sp dp m : Int32} {idx : Nat} {hdec : Decidable (sp < 0 ∨ dp < 0 ∨ m < 0 ∨ n0 < sp.toNatClampNeg + m.toNatClampNeg ∨ n < dp.toNatClampNeg + m.toNatClampNeg)} (hk0 : ok a0 9 n0) (hk : ok a 9 n) (hw : Cond.methodLink own idx arraycopyName ∈ zt) (hnat : Cond.native arraycopyName ∈ zt) (hstat : Cond.static arraycopyName ∈ zt) (hini : Cond.initialized "java/lang/System" ∈ zt) (hr1 : 1 ≤ rm.frames) (hr2 : (st.map fun v => v.category).sum + 18 ≤ rm.locals) (d : decode cc pc = .ok (.invokestatic idx, 3))
    (hf : (if (sp < 0 ∨ dp < 0 ∨ m < 0 ∨ n0 < sp.toNatClampNeg + m.toNatClampNeg ∨ n < dp.toNatClampNeg + m.toNatClampNeg) then none else A) = some q) (k : A = some q → Wz x E nL Q (sA P a (va_cpy (P.1 a0) (P.1 a) sp.toNatClampNeg dp.toNatClampNeg m.toNatClampNeg)) (pc + 3) lv st) : Wz x E nL Q P pc lv (.int m :: .int dp :: .ref (ad E a) :: .int sp :: .ref (ad E a0) :: st) := by
  by_cases hg : (sp < 0 ∨ dp < 0 ∨ m < 0 ∨ n0 < sp.toNatClampNeg + m.toNatClampNeg ∨ n < dp.toNatClampNeg + m.toNatClampNeg)
  · rw [if_pos hg] at hf
    cases hf
  · rw [if_neg hg] at hf
    simp only [not_or] at hg
    intro H locs ls h1 h2 h3
    refine va_copyi S.1 S.2.1 (by rw [S.2.2.1]; exact h3.1.symm) S.2.2.2.1 (S.2.2.2.2.1 _ hw) (S.2.2.2.2.1 _ hnat) (S.2.2.2.2.1 _ hstat) (S.2.2.2.2.1 _ hini) S.2.2.2.2.2.2.2.1 h1.1 (wl_D S.2.2.2.2.2.2.2.2.1 S.2.2.2.2.2.2.2.2.2.1) h2 a0 a 0 0 ((wl_get hk0.1).trans (by rw [en_i hk0])) ((wl_get hk.1).trans (by rw [en_i hk])) rfl rfl rfl hg.1 hg.2.1 hg.2.2.1 (by omega) (by omega) (fun _ _ => rfl) (by rw [S.2.2.2.2.2.2.2.2.2.2.1]; exact hr1) ?_ d (fun H1 locs1 g1 _ g3 => k hf H1 locs1 ls ⟨by rw [wl_sA hk] at g1; exact g1, h1.2⟩ g3 h3)
    rw [S.2.2.2.2.2.2.2.2.2.2.1]
    have e : nativeFrameWords "java/lang/System" "arraycopy" 5 = 7 := by decide
    rw [e]
    omega
/-! answers and contracts -/
def QI (E : Ev) (x : Fx) (r : Int32) (P' : PH) : State → Prop := MQ (xb x) (va_Qi (fun (v : Int32) (u : PH) => v = r ∧ u = P') (fun u t => Rep E u t.heap) (AE E)) (xa x) (xs x) 0 0 (AE E)
def QL (E : Ev) (x : Fx) (r : Int64) (P' : PH) : State → Prop := MQ (xb x) (va_Ql (fun (v : Int64) (u : PH) => v = r ∧ u = P') (fun u t => Rep E u t.heap) (AE E)) (xa x) (xs x) 0 0 (AE E)
def QV (E : Ev) (x : Fx) (P' : PH) : State → Prop := MQ (xb x) (va_Qv (fun (u : PH) => u = P') (fun u t => Rep E u t.heap) (AE E)) (xa x) (xs x) 0 0 (AE E)
/-- a method's frame: nothing made yet -/
def ZM (x : Fx) (E : Ev) : Prop := xA x = AE E ∧ xk x = 0 ∧ xj x = 0
theorem z_iret (S : ZS x E rm cc nL own ret) (M : ZM x E) {v : Int32} (hr : ret = some .int) (d : decode cc pc = .ok (.ireturn, 1)) : Wz x E nL (QI E x v P) P pc lv [.int v] := by
  intro H locs ls h1 h2 h3
  rw [M.2.1, M.2.2]
  rw [M.1] at h2
  exact W.iret S.1 S.2.1 (S.2.2.2.2.2.1.trans hr) (fun t ht _ => ⟨⟨v, P, rfl, ⟨rfl, rfl⟩, by show Rep E P t.heap; rw [ht]; exact h1⟩, h2.F ht⟩) h2.2.2 d S.2.2.2.2.2.2.1
theorem nb_b2i (b : Bool) : narrow .boolean (.int (b2i b)) = .int (b2i b) := by cases b <;> rfl
theorem fb_b2i (b : Bool) : fits .boolean (.int (b2i b)) = true := by cases b <;> rfl
theorem z_zret (S : ZS x E rm cc nL own ret) (M : ZM x E) {v : Bool} (hr : ret = some .boolean) (d : decode cc pc = .ok (.ireturn, 1)) : Wz x E nL (QI E x (b2i v) P) P pc lv [.int (b2i v)] := by
  intro H locs ls h1 h2 h3
  rw [M.2.1, M.2.2]
  rw [M.1] at h2
  exact W.zret S.1 S.2.1 (S.2.2.2.2.2.1.trans hr) (nb_b2i v) (fun t ht _ => ⟨⟨b2i v, P, rfl, ⟨rfl, rfl⟩, by show Rep E P t.heap; rw [ht]; exact h1⟩, h2.F ht⟩) h2.2.2 d S.2.2.2.2.2.2.1
theorem z_lret (S : ZS x E rm cc nL own ret) (M : ZM x E) {v : Int64} (hr : ret = some .long) (d : decode cc pc = .ok (.lreturn, 1)) : Wz x E nL (QL E x v P) P pc lv [.long v] := by
  intro H locs ls h1 h2 h3
  rw [M.2.1, M.2.2]
  rw [M.1] at h2
  exact W.lret S.1 S.2.1 (S.2.2.2.2.2.1.trans hr) (fun t ht _ => ⟨⟨v, P, rfl, ⟨rfl, rfl⟩, by show Rep E P t.heap; rw [ht]; exact h1⟩, h2.F ht⟩) h2.2.2 d S.2.2.2.2.2.2.1
theorem z_vret (S : ZS x E rm cc nL own ret) (M : ZM x E) (hr : ret = none) (d : decode cc pc = .ok (.return_, 1)) : Wz x E nL (QV E x P) P pc lv [] := by
  intro H locs ls h1 h2 h3
  rw [M.2.1, M.2.2]
  rw [M.1] at h2
  exact W.vret S.1 S.2.1 (S.2.2.2.2.2.1.trans hr) (fun t ht _ => ⟨⟨P, rfl, rfl, by show Rep E P t.heap; rw [ht]; exact h1⟩, h2.F ht⟩) h2.2.2 d S.2.2.2.2.2.2.1
theorem z_iretP (S : ZS x E rm cc nL own ret) (M : ZM x E) {v r : Int32} (hr : ret = some .int) (d : decode cc pc = .ok (.ireturn, 1)) (hf : some v = some r) : Wz x E nL (QI E x r P) P pc lv [.int v] := by
  cases hf
  exact z_iret S M hr d
theorem z_iretI (S : ZS x E rm cc nL own ret) (M : ZM x E) {v : Int32} {r : Int32 × PH} (hr : ret = some .int) (d : decode cc pc = .ok (.ireturn, 1)) (hf : some (v, P) = some r) : Wz x E nL (QI E x r.1 r.2) P pc lv [.int v] := by
  cases hf
  exact z_iret S M hr d
theorem z_zretP (S : ZS x E rm cc nL own ret) (M : ZM x E) {v r : Bool} (hr : ret = some .boolean) (d : decode cc pc = .ok (.ireturn, 1)) (hf : some v = some r) : Wz x E nL (QI E x (b2i r) P) P pc lv [.int (b2i v)] := by
  cases hf
  exact z_zret S M hr d
theorem z_zretI (S : ZS x E rm cc nL own ret) (M : ZM x E) {v : Bool} {r : Bool × PH} (hr : ret = some .boolean) (d : decode cc pc = .ok (.ireturn, 1)) (hf : some (v, P) = some r) : Wz x E nL (QI E x (b2i r.1) r.2) P pc lv [.int (b2i v)] := by
  cases hf
  exact z_zret S M hr d
theorem z_lretP (S : ZS x E rm cc nL own ret) (M : ZM x E) {v r : Int64} (hr : ret = some .long) (d : decode cc pc = .ok (.lreturn, 1)) (hf : some v = some r) : Wz x E nL (QL E x r P) P pc lv [.long v] := by
  cases hf
  exact z_lret S M hr d
theorem z_lretI (S : ZS x E rm cc nL own ret) (M : ZM x E) {v : Int64} {r : Int64 × PH} (hr : ret = some .long) (d : decode cc pc = .ok (.lreturn, 1)) (hf : some (v, P) = some r) : Wz x E nL (QL E x r.1 r.2) P pc lv [.long v] := by
  cases hf
  exact z_lret S M hr d
theorem z_vretI (S : ZS x E rm cc nL own ret) (M : ZM x E) {r : PH} (hr : ret = none) (d : decode cc pc = .ok (.return_, 1)) (hf : some P = some r) : Wz x E nL (QV E x r) P pc lv [] := by
  cases hf
  exact z_vret S M hr d
def CPre (E : Ev) (vs : List Value) (P : PH) : Array Value → State → Prop := va_Pc vs (fun U => EvOK E ∧ EK E U ∧ Rep E P U.heap)
def CtI (l : Launch) (E : Ev) (y : MethodName) (bytes : ByteArray) (maxL : Nat) (ret : Option FieldType) (rm : Room) (vs : List Value) (P : PH) (r : Int32) (P' : PH) : Prop := Met l y (.code y bytes maxL ret :: zt) rm (CPre E vs P) (va_Qi (fun (v : Int32) (u : PH) => v = r ∧ u = P') (fun u t => Rep E u t.heap) (AE E)) 0 0 (AE E)
def CtL (l : Launch) (E : Ev) (y : MethodName) (bytes : ByteArray) (maxL : Nat) (ret : Option FieldType) (rm : Room) (vs : List Value) (P : PH) (r : Int64) (P' : PH) : Prop := Met l y (.code y bytes maxL ret :: zt) rm (CPre E vs P) (va_Ql (fun (v : Int64) (u : PH) => v = r ∧ u = P') (fun u t => Rep E u t.heap) (AE E)) 0 0 (AE E)
def CtV (l : Launch) (E : Ev) (y : MethodName) (bytes : ByteArray) (maxL : Nat) (ret : Option FieldType) (rm : Room) (vs : List Value) (P : PH) (P' : PH) : Prop := Met l y (.code y bytes maxL ret :: zt) rm (CPre E vs P) (va_Qv (fun (u : PH) => u = P') (fun u t => Rep E u t.heap) (AE E)) 0 0 (AE E)
theorem z_body {l : Launch} {y : MethodName} {vs : List Value} {lv0 : List (Nat × Value)} {Qc : Array Value → State → Outcome → State → Prop} (hy : plainName y.cls = true) (ho : y.cls = own) (hn : (lg_sl vs).length ≤ nL) (hl : lv_args 0 vs = lv0)
    (body : ∀ x : Fx, xl x = l → ZS x E rm cc nL own ret → ZM x E → Wz x E nL (MQ (xb x) Qc (xa x) (xs x) 0 0 (AE E)) P 0 lv0 []) : Met l y (.code y cc nL ret :: zt) rm (CPre E vs P) Qc 0 0 (AE E) := by
  refine Met.ofW (cc := cc) (maxL := nL) (ret := ret) hy rfl ?_
  intro p e s m args below meth c s₁ B hml hv
  obtain ⟨rfl, hinj, hK, hR⟩ := hv
  have hts := atoms_spec (ws := .code y cc nL ret :: zt) B.pre
  have hown : s.vm.findClass own = some m.cls := ho ▸ findClass_of_methodNamed B.named
  have hlv := lv_entry vs (n := nL) hn
  rw [hl] at hlv
  rw [lg_entry_eq]
  exact body (p, l, e, rm, s, m, vs.toArray, below, meth, c, AE E, 0, 0) rfl ⟨B.exec, B.bytes, hml, hown, fun w hw => hts w (List.mem_cons_of_mem _ hw), B.returns, B.notSynchronized, hK, hinj, fun c hc => ⟨c, hc, rfl⟩, rfl, Nat.zero_le _, Nat.zero_le _⟩ ⟨rfl, rfl, rfl⟩ s.heap [] _ hR va_S.rf hlv
/-- what a call wants of the tables -/
def MO (y : MethodName) (bytes : ByteArray) (maxL : Nat) (ret : Option FieldType) (n : Nat) : Prop := Cond.code y bytes maxL ret ∈ zt ∧ Cond.initialized y.cls ∈ zt ∧ (y.cls ≠ "java/lang/invoke/MethodHandle" ∧ y.cls ≠ "java/lang/invoke/VarHandle") ∧ (parseMethodDescriptor y.desc).map (fun d => d.parameters.length) = some n
theorem z_goodIn {y : MethodName} {bytes : ByteArray} {maxL : Nat} {ret : Option FieldType} (h : Cond.code y bytes maxL ret ∈ zt) : GoodIn zt (.code y bytes maxL ret :: zt) := by
  intro w hw
  have hm : w ∈ zt := by
    rcases List.mem_cons.mp hw with rfl | hw
    · exact h
    · exact hw
  exact ⟨hm, zt_good hm⟩
theorem z_blind {vs : List Value} : FrameBlind (CPre E vs P) := fun a U g mk q => ⟨q.1, q.2.1, va_K.moved (u := U) (U := U.calling g mk a) (Vm.Alike.refl U.vm) q.2.2.1, q.2.2.2⟩
theorem z_runV {T : Nat} {C : String} {y : MethodName} {bytes : ByteArray} {maxL n idx b K nb : Nat} {rt : Option FieldType} {rc : Room} {As : List Value} {Qc : Array Value → State → Outcome → State → Prop} {H : Heap} {locs : List Loc} {ls : Array Slot} {tT : u_T}
    (S : ZS x E rm cc nL own ret) (mo : MO y bytes maxL rt n) (hin : Cond.instanceMethod y ∈ zt) (hsel : Cond.selects C y y ∈ zt) (hlink : Cond.methodLink own idx y ∈ zt) (hk : ok b K nb) (hK : K < 9) (hcl : classes[K]? = some (C, tT, T)) (hrc : rc.cells = 0) (hrs : rc.slots = 0) (hR : rc.frames + 1 ≤ rm.frames ∧ 8 + (maxL + 11) + rc.locals ≤ rm.locals)
    (hM : Met (xl x) y (.code y bytes maxL rt :: zt) rc (CPre E (.ref (ad E b) :: As) P) Qc 0 0 (AE E)) (hcs : xk x ≤ rm.cells ∧ xj x ≤ rm.slots) (h1 : Rep E P H) (h3 : ls.size = nL) (hn : As.length = n) (hW : (st.map fun v => v.category).sum ≤ 8) (hdg : decode cc pc = .ok (.invokevirtual idx, 3)) :
    va_Run (xp x) (xl x) (xe x) (xR x) (xs x) (xm x) (xa x) (xb x) (xM x) (xc x) H locs (xk x) (xj x) 0 0 (F0 (xm x) pc ls (As.reverse ++ .ref (ad E b) :: st)) st (Qc (Value.ref (ad E b) :: As).toArray) (AE E) := by
  obtain ⟨hx, hb, hml, hown, hts, -, -, hEK, hinj, -, hRm, hk1, hk2⟩ := S
  have hbl : FrameBlind (CPre E (.ref (ad E b) :: As) P) := z_blind
  refine va_runV (nL := nL) (Ts := zt) (own := own) (C := C) (b := ad E b) (As := As) ⟨hx, hb, hml, hown, hts⟩ hM ⟨⟨hrc, hrs, by rw [hRm]; exact hR.1, by rw [hRm]; exact hR.2, pay_in hts (z_goodIn mo.1), List.mem_cons_self, hts _ mo.1, hts _ mo.2.1, mo.2.2.1, fun sig h => ?_, hts _ hlink⟩, hts _ hin, hts _ hsel⟩ ⟨hbl, va_recv hEK h1.1 hcl ((wl_get hk.1).trans (by rw [en_o hk hK])), fun U hU hWm => ⟨rfl, hinj, va_K.moved hWm.alike hEK, by rw [hU]; exact h1⟩⟩ rfl hn h3 rfl (lv_room hW) hdg (by rw [hRm]; exact hcs)
  have h2 := mo.2.2.2
  rw [h] at h2
  exact (Option.some.inj h2).symm
theorem z_runS {y : MethodName} {bytes : ByteArray} {maxL n idx : Nat} {rt : Option FieldType} {rc : Room} {As : List Value} {Qc : Array Value → State → Outcome → State → Prop} {H : Heap} {locs : List Loc} {ls : Array Slot}
    (S : ZS x E rm cc nL own ret) (mo : MO y bytes maxL rt n) (hst : Cond.static y ∈ zt) (hlink : Cond.methodLink own idx y ∈ zt) (hrc : rc.cells = 0) (hrs : rc.slots = 0) (hR : rc.frames + 1 ≤ rm.frames ∧ 8 + (maxL + 11) + rc.locals ≤ rm.locals)
    (hM : Met (xl x) y (.code y bytes maxL rt :: zt) rc (CPre E As P) Qc 0 0 (AE E)) (hcs : xk x ≤ rm.cells ∧ xj x ≤ rm.slots) (h1 : Rep E P H) (h3 : ls.size = nL) (hn : As.length = n) (hW : (st.map fun v => v.category).sum ≤ 8) (hdg : decode cc pc = .ok (.invokestatic idx, 3)) :
    va_Run (xp x) (xl x) (xe x) (xR x) (xs x) (xm x) (xa x) (xb x) (xM x) (xc x) H locs (xk x) (xj x) 0 0 (F0 (xm x) pc ls (As.reverse ++ st)) st (Qc As.toArray) (AE E) := by
  obtain ⟨hx, hb, hml, hown, hts, -, -, hEK, hinj, -, hRm, hk1, hk2⟩ := S
  have hbl : FrameBlind (CPre E As P) := z_blind
  refine va_runS (nL := nL) (Ts := zt) (own := own) (As := As) ⟨hx, hb, hml, hown, hts⟩ hM ⟨⟨hrc, hrs, by rw [hRm]; exact hR.1, by rw [hRm]; exact hR.2, pay_in hts (z_goodIn mo.1), List.mem_cons_self, hts _ mo.1, hts _ mo.2.1, mo.2.2.1, fun sig h => ?_, hts _ hlink⟩, hts _ hst⟩ ⟨hbl, fun U hU hWm => ⟨rfl, hinj, va_K.moved hWm.alike hEK, by rw [hU]; exact h1⟩⟩ rfl hn h3 rfl (lv_room hW) hdg (by rw [hRm]; exact hcs)
  have h2 := mo.2.2.2
  rw [h] at h2
  exact (Option.some.inj h2).symm
theorem z_callVI {T : Nat} {C : String} {y : MethodName} {bytes : ByteArray} {maxL n idx b K nb : Nat} {rt : Option FieldType} {rc : Room} {tT : u_T} {α β : Type} {F : Option α} {g : α → Option β} {q : β} (As : List Value) {st0 : List Value} (S : ZS x E rm cc nL own ret) (mo : MO y bytes maxL rt n) (hin : Cond.instanceMethod y ∈ zt) (hsel : Cond.selects C y y ∈ zt) (hlink : Cond.methodLink own idx y ∈ zt) (hk : ok b K nb) (hK : K < 9) (hcl : classes[K]? = some (C, tT, T)) (hrc : rc.cells = 0) (hrs : rc.slots = 0) (hR : rc.frames + 1 ≤ rm.frames ∧ 8 + (maxL + 11) + rc.locals ≤ rm.locals) (hcs : xk x ≤ rm.cells ∧ xj x ≤ rm.slots) (hn : As.length = n) (hW : (st.map fun v => v.category).sum ≤ 8) (hst0 : st0 = (As.reverse ++ .ref (ad E b) :: st)) (d : decode cc pc = .ok (.invokevirtual idx, 3)) (ri : α → Int32) (rp : α → PH)
    (hM : ∀ a, F = some a → CtI (xl x) E y bytes maxL rt rc (.ref (ad E b) :: As) P (ri a) (rp a)) (hf : F.bind g = some q) (k : ∀ a, g a = some q → Wz x E nL Q (rp a) (pc + 3) lv (.int (ri a) :: st)) : Wz x E nL Q P pc lv st0 := by
  subst hst0
  obtain ⟨a, ha, hg⟩ := Option.bind_eq_some_iff.mp hf
  intro H locs ls h1 h2 h3
  refine va_calli (z_runV S mo hin hsel hlink hk hK hcl hrc hrs hR (hM a ha) hcs h1 h3.1 hn hW d) h2 (fun q _ h => ?_) (fun q h => ?_) (fun r u t H1 locs1 ht _ hw hB _ _ hS => ?_)
  · obtain ⟨c, hc, rfl⟩ := h
    exact S.2.2.2.2.2.2.2.2.2.1 c hc
  · obtain ⟨c, hc, rfl⟩ := h
    exact S.2.2.2.2.2.2.2.2.2.1 c hc
  · obtain ⟨rfl, rfl⟩ := hw
    rw [ht] at hB
    exact k a hg H1 locs1 ls hB hS h3
theorem z_callVL {T : Nat} {C : String} {y : MethodName} {bytes : ByteArray} {maxL n idx b K nb : Nat} {rt : Option FieldType} {rc : Room} {tT : u_T} {α β : Type} {F : Option α} {g : α → Option β} {q : β} (As : List Value) {st0 : List Value} (S : ZS x E rm cc nL own ret) (mo : MO y bytes maxL rt n) (hin : Cond.instanceMethod y ∈ zt) (hsel : Cond.selects C y y ∈ zt) (hlink : Cond.methodLink own idx y ∈ zt) (hk : ok b K nb) (hK : K < 9) (hcl : classes[K]? = some (C, tT, T)) (hrc : rc.cells = 0) (hrs : rc.slots = 0) (hR : rc.frames + 1 ≤ rm.frames ∧ 8 + (maxL + 11) + rc.locals ≤ rm.locals) (hcs : xk x ≤ rm.cells ∧ xj x ≤ rm.slots) (hn : As.length = n) (hW : (st.map fun v => v.category).sum ≤ 8) (hst0 : st0 = (As.reverse ++ .ref (ad E b) :: st)) (d : decode cc pc = .ok (.invokevirtual idx, 3)) (ri : α → Int64) (rp : α → PH)
    (hM : ∀ a, F = some a → CtL (xl x) E y bytes maxL rt rc (.ref (ad E b) :: As) P (ri a) (rp a)) (hf : F.bind g = some q) (k : ∀ a, g a = some q → Wz x E nL Q (rp a) (pc + 3) lv (.long (ri a) :: st)) : Wz x E nL Q P pc lv st0 := by
  subst hst0
  obtain ⟨a, ha, hg⟩ := Option.bind_eq_some_iff.mp hf
  intro H locs ls h1 h2 h3
  refine va_calll (z_runV S mo hin hsel hlink hk hK hcl hrc hrs hR (hM a ha) hcs h1 h3.1 hn hW d) h2 (fun q _ h => ?_) (fun q h => ?_) (fun r u t H1 locs1 ht _ hw hB _ _ hS => ?_)
  · obtain ⟨c, hc, rfl⟩ := h
    exact S.2.2.2.2.2.2.2.2.2.1 c hc
  · obtain ⟨c, hc, rfl⟩ := h
    exact S.2.2.2.2.2.2.2.2.2.1 c hc
  · obtain ⟨rfl, rfl⟩ := hw
    rw [ht] at hB
    exact k a hg H1 locs1 ls hB hS h3
theorem z_callVV {T : Nat} {C : String} {y : MethodName} {bytes : ByteArray} {maxL n idx b K nb : Nat} {rt : Option FieldType} {rc : Room} {tT : u_T} {α β : Type} {F : Option α} {g : α → Option β} {q : β} (As : List Value) {st0 : List Value} (S : ZS x E rm cc nL own ret) (mo : MO y bytes maxL rt n) (hin : Cond.instanceMethod y ∈ zt) (hsel : Cond.selects C y y ∈ zt) (hlink : Cond.methodLink own idx y ∈ zt) (hk : ok b K nb) (hK : K < 9) (hcl : classes[K]? = some (C, tT, T)) (hrc : rc.cells = 0) (hrs : rc.slots = 0) (hR : rc.frames + 1 ≤ rm.frames ∧ 8 + (maxL + 11) + rc.locals ≤ rm.locals) (hcs : xk x ≤ rm.cells ∧ xj x ≤ rm.slots) (hn : As.length = n) (hW : (st.map fun v => v.category).sum ≤ 8) (hst0 : st0 = (As.reverse ++ .ref (ad E b) :: st)) (d : decode cc pc = .ok (.invokevirtual idx, 3)) (rp : α → PH)
    (hM : ∀ a, F = some a → CtV (xl x) E y bytes maxL rt rc (.ref (ad E b) :: As) P (rp a)) (hf : F.bind g = some q) (k : ∀ a, g a = some q → Wz x E nL Q (rp a) (pc + 3) lv st) : Wz x E nL Q P pc lv st0 := by
  subst hst0
  obtain ⟨a, ha, hg⟩ := Option.bind_eq_some_iff.mp hf
  intro H locs ls h1 h2 h3
  refine va_callv (z_runV S mo hin hsel hlink hk hK hcl hrc hrs hR (hM a ha) hcs h1 h3.1 hn hW d) h2 (fun q _ h => ?_) (fun q h => ?_) (fun u t H1 locs1 ht _ hw hB _ _ hS => ?_)
  · obtain ⟨c, hc, rfl⟩ := h
    exact S.2.2.2.2.2.2.2.2.2.1 c hc
  · obtain ⟨c, hc, rfl⟩ := h
    exact S.2.2.2.2.2.2.2.2.2.1 c hc
  · subst hw
    rw [ht] at hB
    exact k a hg H1 locs1 ls hB hS h3
theorem z_callSI {y : MethodName} {bytes : ByteArray} {maxL n idx : Nat} {rt : Option FieldType} {rc : Room} {α β : Type} {F : Option α} {g : α → Option β} {q : β} (As : List Value) {st0 : List Value} (S : ZS x E rm cc nL own ret) (mo : MO y bytes maxL rt n) (hst : Cond.static y ∈ zt) (hlink : Cond.methodLink own idx y ∈ zt) (hrc : rc.cells = 0) (hrs : rc.slots = 0) (hR : rc.frames + 1 ≤ rm.frames ∧ 8 + (maxL + 11) + rc.locals ≤ rm.locals) (hcs : xk x ≤ rm.cells ∧ xj x ≤ rm.slots) (hn : As.length = n) (hW : (st.map fun v => v.category).sum ≤ 8) (hst0 : st0 = (As.reverse ++ st)) (d : decode cc pc = .ok (.invokestatic idx, 3)) (ri : α → Int32) (rp : α → PH)
    (hM : ∀ a, F = some a → CtI (xl x) E y bytes maxL rt rc As P (ri a) (rp a)) (hf : F.bind g = some q) (k : ∀ a, g a = some q → Wz x E nL Q (rp a) (pc + 3) lv (.int (ri a) :: st)) : Wz x E nL Q P pc lv st0 := by
  subst hst0
  obtain ⟨a, ha, hg⟩ := Option.bind_eq_some_iff.mp hf
  intro H locs ls h1 h2 h3
  refine va_calli (z_runS S mo hst hlink hrc hrs hR (hM a ha) hcs h1 h3.1 hn hW d) h2 (fun q _ h => ?_) (fun q h => ?_) (fun r u t H1 locs1 ht _ hw hB _ _ hS => ?_)
  · obtain ⟨c, hc, rfl⟩ := h
    exact S.2.2.2.2.2.2.2.2.2.1 c hc
  · obtain ⟨c, hc, rfl⟩ := h
    exact S.2.2.2.2.2.2.2.2.2.1 c hc
  · obtain ⟨rfl, rfl⟩ := hw
    rw [ht] at hB
    exact k a hg H1 locs1 ls hB hS h3
theorem z_callSL {y : MethodName} {bytes : ByteArray} {maxL n idx : Nat} {rt : Option FieldType} {rc : Room} {α β : Type} {F : Option α} {g : α → Option β} {q : β} (As : List Value) {st0 : List Value} (S : ZS x E rm cc nL own ret) (mo : MO y bytes maxL rt n) (hst : Cond.static y ∈ zt) (hlink : Cond.methodLink own idx y ∈ zt) (hrc : rc.cells = 0) (hrs : rc.slots = 0) (hR : rc.frames + 1 ≤ rm.frames ∧ 8 + (maxL + 11) + rc.locals ≤ rm.locals) (hcs : xk x ≤ rm.cells ∧ xj x ≤ rm.slots) (hn : As.length = n) (hW : (st.map fun v => v.category).sum ≤ 8) (hst0 : st0 = (As.reverse ++ st)) (d : decode cc pc = .ok (.invokestatic idx, 3)) (ri : α → Int64) (rp : α → PH)
    (hM : ∀ a, F = some a → CtL (xl x) E y bytes maxL rt rc As P (ri a) (rp a)) (hf : F.bind g = some q) (k : ∀ a, g a = some q → Wz x E nL Q (rp a) (pc + 3) lv (.long (ri a) :: st)) : Wz x E nL Q P pc lv st0 := by
  subst hst0
  obtain ⟨a, ha, hg⟩ := Option.bind_eq_some_iff.mp hf
  intro H locs ls h1 h2 h3
  refine va_calll (z_runS S mo hst hlink hrc hrs hR (hM a ha) hcs h1 h3.1 hn hW d) h2 (fun q _ h => ?_) (fun q h => ?_) (fun r u t H1 locs1 ht _ hw hB _ _ hS => ?_)
  · obtain ⟨c, hc, rfl⟩ := h
    exact S.2.2.2.2.2.2.2.2.2.1 c hc
  · obtain ⟨c, hc, rfl⟩ := h
    exact S.2.2.2.2.2.2.2.2.2.1 c hc
  · obtain ⟨rfl, rfl⟩ := hw
    rw [ht] at hB
    exact k a hg H1 locs1 ls hB hS h3
theorem z_callSV {y : MethodName} {bytes : ByteArray} {maxL n idx : Nat} {rt : Option FieldType} {rc : Room} {α β : Type} {F : Option α} {g : α → Option β} {q : β} (As : List Value) {st0 : List Value} (S : ZS x E rm cc nL own ret) (mo : MO y bytes maxL rt n) (hst : Cond.static y ∈ zt) (hlink : Cond.methodLink own idx y ∈ zt) (hrc : rc.cells = 0) (hrs : rc.slots = 0) (hR : rc.frames + 1 ≤ rm.frames ∧ 8 + (maxL + 11) + rc.locals ≤ rm.locals) (hcs : xk x ≤ rm.cells ∧ xj x ≤ rm.slots) (hn : As.length = n) (hW : (st.map fun v => v.category).sum ≤ 8) (hst0 : st0 = (As.reverse ++ st)) (d : decode cc pc = .ok (.invokestatic idx, 3)) (rp : α → PH)
    (hM : ∀ a, F = some a → CtV (xl x) E y bytes maxL rt rc As P (rp a)) (hf : F.bind g = some q) (k : ∀ a, g a = some q → Wz x E nL Q (rp a) (pc + 3) lv st) : Wz x E nL Q P pc lv st0 := by
  subst hst0
  obtain ⟨a, ha, hg⟩ := Option.bind_eq_some_iff.mp hf
  intro H locs ls h1 h2 h3
  refine va_callv (z_runS S mo hst hlink hrc hrs hR (hM a ha) hcs h1 h3.1 hn hW d) h2 (fun q _ h => ?_) (fun q h => ?_) (fun u t H1 locs1 ht _ hw hB _ _ hS => ?_)
  · obtain ⟨c, hc, rfl⟩ := h
    exact S.2.2.2.2.2.2.2.2.2.1 c hc
  · obtain ⟨c, hc, rfl⟩ := h
    exact S.2.2.2.2.2.2.2.2.2.1 c hc
  · subst hw
    rw [ht] at hB
    exact k a hg H1 locs1 ls hB hS h3
theorem z_nm {α : Type} {T : Int32 → Option α} {q : α} {e : Int32} (hf : (some e).bind T = some q) (k : ∀ v : Int32, T v = some q → Wz x E nL Q P pc lv (.int v :: st)) : Wz x E nL Q P pc lv (.int e :: st) := k e hf
theorem z_nmP {α : Type} {T : PH → Option α} {q : α} {e : PH} (hf : (some e).bind T = some q) (k : ∀ v : PH, T v = some q → Wz x E nL Q v pc lv st) : Wz x E nL Q e pc lv st := k e hf
end ROWS
