def R_law : String := "GhostRoomsLaw"
def lw_P (b : Addr) (xs : List Int32) (args : Array Value) (s : State) : Prop := args = #[.ref b] ∧ s.IntsAt b xs ∧ xs.length ≤ 256 ∧ (Jvm.Cond.and given_1 narrow_1).before args s = true
def lw_Q (_ : Array Value) (s : State) (o : Outcome) (t : State) : Prop := o = .returned (some (.int 1)) ∧ Framed s o t [] 600000 7302250
def lw_Z (below : List Frame) (a : Array Value) (s : State) : State → Prop := fun t => ∃ o, t.status = .running ∧ Ended t below o ∧ lw_Q a s o t
/-- the law's own end, with 1 on the stack, nothing written that was there before, its room as the claim has it -/
theorem lw_ret {p : Program} {l : Launch} {e : Env} {s : State} {m : MethodId} {below : List Frame} {meth : Method} {c : Code} {b : Nat} (hx : p.tables.exec = Jvm.exec) (hb : c.code = code) (hr : meth.sig.returnType = ret) (hlocks : meth.locks = false) {pc : Nat} {H : Heap} {ls : Array Slot} (hdg : decode code pc = .ok (.ireturn, 1)) : W p l e room_1 s m #[Value.ref b] below meth c H [] 600000 7302250 (lw_Z below #[Value.ref b] s) (F0 m pc ls [.int 1]) := by
  intro T hT X
  obtain ⟨fs, hret, hrun, hended, hW, hframe⟩ := X.leave (v := some (.int 1)) (hlocks := hlocks) (fun h => by rw [hr] at h; cases h)
  have hmeth' : T.vm.method? m = some meth := X.method'
  refine ⟨T.setFrames fs, ?_, .returned (some (.int 1)), hrun, hended, rfl, ⟨_, rfl⟩, hW, hframe⟩
  jvm_step X.here [X.here.top, hx, hb, hdg, hmeth', hr, ret, narrow_b1]
  (try refine ⟨rfl, ?_⟩); (try refine ⟨rfl, ?_⟩)
  first | (intro acts; rw [hret _ acts rfl rfl rfl]) | rw [hret _ _ rfl rfl rfl]
  exact Steps.refl _
/-- what holds at the law's entry: the machine, the code, the tables' words (any of lw_tbl by 'hts w (by decide +kernel)'), the script of L ints xs at the cell b, what the Statement gives of the start (any of its parts by flat_of_before) -/
def lw_At (p : Program) (s : State) (m : MethodId) (meth : Method) (c : Code) (b L : Nat) (xs : Nat → Int32) : Prop :=
  p.tables.exec = Jvm.exec ∧ c.code = code ∧ meth.sig.returnType = ret ∧ c.maxLocals = 4 ∧ s.vm.findClass R_law = some m.cls ∧ (∀ w ∈ lw_tbl, w.before #[Value.ref b] s = true) ∧ va_X b L xs s s.heap ∧ b < s.heap.size ∧ meth.locks = false ∧ (Jvm.Cond.and given_1 narrow_1).before #[Value.ref b] s = true

/-! the law's loop -/

theorem ok_root : ok 0 7 0 := ⟨by decide, rfl, rfl⟩
theorem ok_model : ok 47 8 0 := ⟨by decide, rfl, rfl⟩
def LWs (x : Fx) (b L : Nat) (f : Nat → Int32) : Prop := va_X b L f (xs x) (xs x).heap ∧ b < (xs x).heap.size ∧ xA x = (fun q => (xs x).heap.size ≤ q) ∧ xa x = #[Value.ref b]
section LROWS
variable {x : Fx} {E : Ev} {cc : ByteArray} {nL : Nat} {own : String} {rt : Option FieldType} {Q : State → Prop} {P : PH} {pc : Nat} {lv : List (Nat × Value)} {st : List Value} {b L : Nat} {f : Nat → Int32}
theorem z_roomL (S : ZS x E room_1 cc nL own rt) : xk x ≤ room_1.cells ∧ xj x ≤ room_1.slots := ⟨Nat.le_trans S.2.2.2.2.2.2.2.2.2.2.2.1 (Nat.le_of_ble_eq_true rfl), Nat.le_trans S.2.2.2.2.2.2.2.2.2.2.2.2 (Nat.le_of_ble_eq_true rfl)⟩
theorem z_slen (S : ZS x E room_1 cc nL own rt) (X : LWs x b L f) (d : decode cc pc = .ok (.arraylength, 1)) (k : Wz x E nL Q P (pc + 1) lv (.int (Int32.ofNat L) :: st)) : Wz x E nL Q P pc lv (.ref b :: st) :=
  fun H locs ls h1 h2 h3 => va_slen S.1 S.2.1 X.1 X.2.1 (by rw [X.2.2.1]; exact Nat.not_le.mpr X.2.1) h2 d (k H locs ls h1 h2 h3)
theorem z_sld (S : ZS x E room_1 cc nL own rt) (X : LWs x b L f) {α : Type} {A : Option α} {q : α} {i : Int32} {hdec : Decidable (i < 0 ∨ L ≤ i.toNatClampNeg)} (d : decode cc pc = .ok (.iaload, 1)) (hf : (if (i < 0 ∨ L ≤ i.toNatClampNeg) then none else A) = some q) (k : A = some q → Wz x E nL Q P (pc + 1) lv (.int (f i.toNatClampNeg) :: st)) : Wz x E nL Q P pc lv (.int i :: .ref b :: st) :=
  fun H locs ls h1 h2 h3 => va_sld S.1 S.2.1 X.1 X.2.1 (by rw [X.2.2.1]; exact Nat.not_le.mpr X.2.1) h2 (z_in hf).1 d (k (z_in hf).2 H locs ls h1 h2 h3)
theorem z_lcmp (S : ZS x E room_1 cc nL own rt) {a c : Int64} (d : decode cc pc = .ok (.lcmp, 1)) (k : Wz x E nL Q P (pc + 1) lv (.int (lg_cmp a c) :: st)) : Wz x E nL Q P pc lv (.long c :: .long a :: st) :=
  fun H locs ls h1 h2 h3 => W.lcmp S.1 S.2.1 d (k H locs ls h1 h2 h3)
theorem z_lawret (S : ZS x E room_1 code nL own ret) (X : LWs x b L f) (d : decode code pc = .ok (.ireturn, 1)) : Wz x E nL (lw_Z (xb x) #[Value.ref b] (xs x)) P pc lv [.int 1] := by
  intro H locs ls h1 h2 h3
  have hr := z_roomL S
  rw [X.2.2.1] at h2
  refine va_forget h2.2.2 ?_
  refine W.widen (k := 600000) (n := 7302250) hr.1 hr.2 ?_
  rw [S.2.2.2.2.2.2.2.2.2.2.1, X.2.2.2]
  exact lw_ret S.1 S.2.1 S.2.2.2.2.2.1 S.2.2.2.2.2.2.1 d
end LROWS
theorem dL_law_0 : decode cL_law 0 = .ok (.new 7, 3) := by decide +kernel
theorem dL_law_3 : decode cL_law 3 = .ok (.dup, 1) := by decide +kernel
theorem dL_law_4 : decode cL_law 4 = .ok (.invokespecial 9, 3) := by decide +kernel
theorem dL_law_7 : decode cL_law 7 = .ok (.astore_n 1, 1) := by decide +kernel
theorem dL_law_8 : decode cL_law 8 = .ok (.new 10, 3) := by decide +kernel
theorem dL_law_11 : decode cL_law 11 = .ok (.dup, 1) := by decide +kernel
theorem dL_law_12 : decode cL_law 12 = .ok (.invokespecial 12, 3) := by decide +kernel
theorem dL_law_15 : decode cL_law 15 = .ok (.astore_n 2, 1) := by decide +kernel
theorem dL_law_16 : decode cL_law 16 = .ok (.iconst 0, 1) := by decide +kernel
theorem dL_law_17 : decode cL_law 17 = .ok (.istore_n 3, 1) := by decide +kernel
theorem dL_law_18 : decode cL_law 18 = .ok (.iload_n 3, 1) := by decide +kernel
theorem dL_law_19 : decode cL_law 19 = .ok (.aload_n 0, 1) := by decide +kernel
theorem dL_law_20 : decode cL_law 20 = .ok (.arraylength, 1) := by decide +kernel
theorem dL_law_21 : decode cL_law 21 = .ok (.iconst 4, 1) := by decide +kernel
theorem dL_law_22 : decode cL_law 22 = .ok (.isub, 1) := by decide +kernel
theorem dL_law_23 : decode cL_law 23 = .ok (.if_icmp .gt 902, 3) := by decide +kernel
theorem dL_law_26 : decode cL_law 26 = .ok (.aload_n 0, 1) := by decide +kernel
theorem dL_law_27 : decode cL_law 27 = .ok (.iload_n 3, 1) := by decide +kernel
theorem dL_law_28 : decode cL_law 28 = .ok (.iaload, 1) := by decide +kernel
theorem dL_law_29 : decode cL_law 29 = .ok (.bipush 31, 2) := by decide +kernel
theorem dL_law_31 : decode cL_law 31 = .ok (.iand, 1) := by decide +kernel
theorem dL_law_32 : decode cL_law 32 = .ok (.tableswitch 887 0 29 #[136, 159, 172, 185, 218, 251, 284, 307, 320, 343, 386, 419, 452, 465, 488, 511, 534, 547, 560, 593, 636, 649, 672, 695, 728, 771, 804, 827, 850, 873], 136) := by decide +kernel
theorem dL_law_168 : decode cL_law 168 = .ok (.aload_n 1, 1) := by decide +kernel
theorem dL_law_169 : decode cL_law 169 = .ok (.aload_n 0, 1) := by decide +kernel
theorem dL_law_170 : decode cL_law 170 = .ok (.iload_n 3, 1) := by decide +kernel
theorem dL_law_171 : decode cL_law 171 = .ok (.iconst 1, 1) := by decide +kernel
theorem dL_law_172 : decode cL_law 172 = .ok (.iadd, 1) := by decide +kernel
theorem dL_law_173 : decode cL_law 173 = .ok (.iaload, 1) := by decide +kernel
theorem dL_law_174 : decode cL_law 174 = .ok (.invokevirtual 13, 3) := by decide +kernel
theorem dL_law_177 : decode cL_law 177 = .ok (.aload_n 2, 1) := by decide +kernel
theorem dL_law_178 : decode cL_law 178 = .ok (.aload_n 0, 1) := by decide +kernel
theorem dL_law_179 : decode cL_law 179 = .ok (.iload_n 3, 1) := by decide +kernel
theorem dL_law_180 : decode cL_law 180 = .ok (.iconst 1, 1) := by decide +kernel
theorem dL_law_181 : decode cL_law 181 = .ok (.iadd, 1) := by decide +kernel
theorem dL_law_182 : decode cL_law 182 = .ok (.iaload, 1) := by decide +kernel
theorem dL_law_183 : decode cL_law 183 = .ok (.invokevirtual 17, 3) := by decide +kernel
theorem dL_law_186 : decode cL_law 186 = .ok (.if_icmp .eq 733, 3) := by decide +kernel
theorem dL_law_189 : decode cL_law 189 = .ok (.iconst 0, 1) := by decide +kernel
theorem dL_law_190 : decode cL_law 190 = .ok (.ireturn, 1) := by decide +kernel
theorem dL_law_191 : decode cL_law 191 = .ok (.aload_n 1, 1) := by decide +kernel
theorem dL_law_192 : decode cL_law 192 = .ok (.invokevirtual 18, 3) := by decide +kernel
theorem dL_law_195 : decode cL_law 195 = .ok (.aload_n 2, 1) := by decide +kernel
theorem dL_law_196 : decode cL_law 196 = .ok (.invokevirtual 22, 3) := by decide +kernel
theorem dL_law_199 : decode cL_law 199 = .ok (.if_icmp .eq 720, 3) := by decide +kernel
theorem dL_law_202 : decode cL_law 202 = .ok (.iconst 0, 1) := by decide +kernel
theorem dL_law_203 : decode cL_law 203 = .ok (.ireturn, 1) := by decide +kernel
theorem dL_law_204 : decode cL_law 204 = .ok (.aload_n 1, 1) := by decide +kernel
theorem dL_law_205 : decode cL_law 205 = .ok (.invokevirtual 23, 3) := by decide +kernel
theorem dL_law_208 : decode cL_law 208 = .ok (.aload_n 2, 1) := by decide +kernel
theorem dL_law_209 : decode cL_law 209 = .ok (.invokevirtual 26, 3) := by decide +kernel
theorem dL_law_212 : decode cL_law 212 = .ok (.if_icmp .eq 707, 3) := by decide +kernel
theorem dL_law_215 : decode cL_law 215 = .ok (.iconst 0, 1) := by decide +kernel
theorem dL_law_216 : decode cL_law 216 = .ok (.ireturn, 1) := by decide +kernel
theorem dL_law_217 : decode cL_law 217 = .ok (.aload_n 1, 1) := by decide +kernel
theorem dL_law_218 : decode cL_law 218 = .ok (.aload_n 0, 1) := by decide +kernel
theorem dL_law_219 : decode cL_law 219 = .ok (.iload_n 3, 1) := by decide +kernel
theorem dL_law_220 : decode cL_law 220 = .ok (.iconst 1, 1) := by decide +kernel
theorem dL_law_221 : decode cL_law 221 = .ok (.iadd, 1) := by decide +kernel
theorem dL_law_222 : decode cL_law 222 = .ok (.iaload, 1) := by decide +kernel
theorem dL_law_223 : decode cL_law 223 = .ok (.aload_n 0, 1) := by decide +kernel
theorem dL_law_224 : decode cL_law 224 = .ok (.iload_n 3, 1) := by decide +kernel
theorem dL_law_225 : decode cL_law 225 = .ok (.iconst 2, 1) := by decide +kernel
theorem dL_law_226 : decode cL_law 226 = .ok (.iadd, 1) := by decide +kernel
theorem dL_law_227 : decode cL_law 227 = .ok (.iaload, 1) := by decide +kernel
theorem dL_law_228 : decode cL_law 228 = .ok (.invokevirtual 27, 3) := by decide +kernel
theorem dL_law_231 : decode cL_law 231 = .ok (.aload_n 2, 1) := by decide +kernel
theorem dL_law_232 : decode cL_law 232 = .ok (.aload_n 0, 1) := by decide +kernel
theorem dL_law_233 : decode cL_law 233 = .ok (.iload_n 3, 1) := by decide +kernel
theorem dL_law_234 : decode cL_law 234 = .ok (.iconst 1, 1) := by decide +kernel
theorem dL_law_235 : decode cL_law 235 = .ok (.iadd, 1) := by decide +kernel
theorem dL_law_236 : decode cL_law 236 = .ok (.iaload, 1) := by decide +kernel
theorem dL_law_237 : decode cL_law 237 = .ok (.aload_n 0, 1) := by decide +kernel
theorem dL_law_238 : decode cL_law 238 = .ok (.iload_n 3, 1) := by decide +kernel
theorem dL_law_239 : decode cL_law 239 = .ok (.iconst 2, 1) := by decide +kernel
theorem dL_law_240 : decode cL_law 240 = .ok (.iadd, 1) := by decide +kernel
theorem dL_law_241 : decode cL_law 241 = .ok (.iaload, 1) := by decide +kernel
theorem dL_law_242 : decode cL_law 242 = .ok (.invokevirtual 31, 3) := by decide +kernel
theorem dL_law_245 : decode cL_law 245 = .ok (.if_icmp .eq 674, 3) := by decide +kernel
theorem dL_law_248 : decode cL_law 248 = .ok (.iconst 0, 1) := by decide +kernel
theorem dL_law_249 : decode cL_law 249 = .ok (.ireturn, 1) := by decide +kernel
theorem dL_law_250 : decode cL_law 250 = .ok (.aload_n 1, 1) := by decide +kernel
theorem dL_law_251 : decode cL_law 251 = .ok (.aload_n 0, 1) := by decide +kernel
theorem dL_law_252 : decode cL_law 252 = .ok (.iload_n 3, 1) := by decide +kernel
theorem dL_law_253 : decode cL_law 253 = .ok (.iconst 1, 1) := by decide +kernel
theorem dL_law_254 : decode cL_law 254 = .ok (.iadd, 1) := by decide +kernel
theorem dL_law_255 : decode cL_law 255 = .ok (.iaload, 1) := by decide +kernel
theorem dL_law_256 : decode cL_law 256 = .ok (.aload_n 0, 1) := by decide +kernel
theorem dL_law_257 : decode cL_law 257 = .ok (.iload_n 3, 1) := by decide +kernel
theorem dL_law_258 : decode cL_law 258 = .ok (.iconst 2, 1) := by decide +kernel
theorem dL_law_259 : decode cL_law 259 = .ok (.iadd, 1) := by decide +kernel
theorem dL_law_260 : decode cL_law 260 = .ok (.iaload, 1) := by decide +kernel
theorem dL_law_261 : decode cL_law 261 = .ok (.invokevirtual 32, 3) := by decide +kernel
theorem dL_law_264 : decode cL_law 264 = .ok (.aload_n 2, 1) := by decide +kernel
theorem dL_law_265 : decode cL_law 265 = .ok (.aload_n 0, 1) := by decide +kernel
theorem dL_law_266 : decode cL_law 266 = .ok (.iload_n 3, 1) := by decide +kernel
theorem dL_law_267 : decode cL_law 267 = .ok (.iconst 1, 1) := by decide +kernel
theorem dL_law_268 : decode cL_law 268 = .ok (.iadd, 1) := by decide +kernel
theorem dL_law_269 : decode cL_law 269 = .ok (.iaload, 1) := by decide +kernel
theorem dL_law_270 : decode cL_law 270 = .ok (.aload_n 0, 1) := by decide +kernel
theorem dL_law_271 : decode cL_law 271 = .ok (.iload_n 3, 1) := by decide +kernel
theorem dL_law_272 : decode cL_law 272 = .ok (.iconst 2, 1) := by decide +kernel
theorem dL_law_273 : decode cL_law 273 = .ok (.iadd, 1) := by decide +kernel
theorem dL_law_274 : decode cL_law 274 = .ok (.iaload, 1) := by decide +kernel
theorem dL_law_275 : decode cL_law 275 = .ok (.invokevirtual 35, 3) := by decide +kernel
theorem dL_law_278 : decode cL_law 278 = .ok (.if_icmp .eq 641, 3) := by decide +kernel
theorem dL_law_281 : decode cL_law 281 = .ok (.iconst 0, 1) := by decide +kernel
theorem dL_law_282 : decode cL_law 282 = .ok (.ireturn, 1) := by decide +kernel
theorem dL_law_283 : decode cL_law 283 = .ok (.aload_n 1, 1) := by decide +kernel
theorem dL_law_284 : decode cL_law 284 = .ok (.aload_n 0, 1) := by decide +kernel
theorem dL_law_285 : decode cL_law 285 = .ok (.iload_n 3, 1) := by decide +kernel
theorem dL_law_286 : decode cL_law 286 = .ok (.iconst 1, 1) := by decide +kernel
theorem dL_law_287 : decode cL_law 287 = .ok (.iadd, 1) := by decide +kernel
theorem dL_law_288 : decode cL_law 288 = .ok (.iaload, 1) := by decide +kernel
theorem dL_law_289 : decode cL_law 289 = .ok (.aload_n 0, 1) := by decide +kernel
theorem dL_law_290 : decode cL_law 290 = .ok (.iload_n 3, 1) := by decide +kernel
theorem dL_law_291 : decode cL_law 291 = .ok (.iconst 2, 1) := by decide +kernel
theorem dL_law_292 : decode cL_law 292 = .ok (.iadd, 1) := by decide +kernel
theorem dL_law_293 : decode cL_law 293 = .ok (.iaload, 1) := by decide +kernel
theorem dL_law_294 : decode cL_law 294 = .ok (.invokevirtual 36, 3) := by decide +kernel
theorem dL_law_297 : decode cL_law 297 = .ok (.aload_n 2, 1) := by decide +kernel
theorem dL_law_298 : decode cL_law 298 = .ok (.aload_n 0, 1) := by decide +kernel
theorem dL_law_299 : decode cL_law 299 = .ok (.iload_n 3, 1) := by decide +kernel
theorem dL_law_300 : decode cL_law 300 = .ok (.iconst 1, 1) := by decide +kernel
theorem dL_law_301 : decode cL_law 301 = .ok (.iadd, 1) := by decide +kernel
theorem dL_law_302 : decode cL_law 302 = .ok (.iaload, 1) := by decide +kernel
theorem dL_law_303 : decode cL_law 303 = .ok (.aload_n 0, 1) := by decide +kernel
theorem dL_law_304 : decode cL_law 304 = .ok (.iload_n 3, 1) := by decide +kernel
theorem dL_law_305 : decode cL_law 305 = .ok (.iconst 2, 1) := by decide +kernel
theorem dL_law_306 : decode cL_law 306 = .ok (.iadd, 1) := by decide +kernel
theorem dL_law_307 : decode cL_law 307 = .ok (.iaload, 1) := by decide +kernel
theorem dL_law_308 : decode cL_law 308 = .ok (.invokevirtual 39, 3) := by decide +kernel
theorem dL_law_311 : decode cL_law 311 = .ok (.if_icmp .eq 608, 3) := by decide +kernel
theorem dL_law_314 : decode cL_law 314 = .ok (.iconst 0, 1) := by decide +kernel
theorem dL_law_315 : decode cL_law 315 = .ok (.ireturn, 1) := by decide +kernel
theorem dL_law_316 : decode cL_law 316 = .ok (.aload_n 1, 1) := by decide +kernel
theorem dL_law_317 : decode cL_law 317 = .ok (.aload_n 0, 1) := by decide +kernel
theorem dL_law_318 : decode cL_law 318 = .ok (.iload_n 3, 1) := by decide +kernel
theorem dL_law_319 : decode cL_law 319 = .ok (.iconst 1, 1) := by decide +kernel
theorem dL_law_320 : decode cL_law 320 = .ok (.iadd, 1) := by decide +kernel
theorem dL_law_321 : decode cL_law 321 = .ok (.iaload, 1) := by decide +kernel
theorem dL_law_322 : decode cL_law 322 = .ok (.invokevirtual 40, 3) := by decide +kernel
theorem dL_law_325 : decode cL_law 325 = .ok (.aload_n 2, 1) := by decide +kernel
theorem dL_law_326 : decode cL_law 326 = .ok (.aload_n 0, 1) := by decide +kernel
theorem dL_law_327 : decode cL_law 327 = .ok (.iload_n 3, 1) := by decide +kernel
theorem dL_law_328 : decode cL_law 328 = .ok (.iconst 1, 1) := by decide +kernel
theorem dL_law_329 : decode cL_law 329 = .ok (.iadd, 1) := by decide +kernel
theorem dL_law_330 : decode cL_law 330 = .ok (.iaload, 1) := by decide +kernel
theorem dL_law_331 : decode cL_law 331 = .ok (.invokevirtual 43, 3) := by decide +kernel
theorem dL_law_334 : decode cL_law 334 = .ok (.if_icmp .eq 585, 3) := by decide +kernel
theorem dL_law_337 : decode cL_law 337 = .ok (.iconst 0, 1) := by decide +kernel
theorem dL_law_338 : decode cL_law 338 = .ok (.ireturn, 1) := by decide +kernel
theorem dL_law_339 : decode cL_law 339 = .ok (.aload_n 1, 1) := by decide +kernel
theorem dL_law_340 : decode cL_law 340 = .ok (.invokevirtual 44, 3) := by decide +kernel
theorem dL_law_343 : decode cL_law 343 = .ok (.aload_n 2, 1) := by decide +kernel
theorem dL_law_344 : decode cL_law 344 = .ok (.invokevirtual 47, 3) := by decide +kernel
theorem dL_law_347 : decode cL_law 347 = .ok (.if_icmp .eq 572, 3) := by decide +kernel
theorem dL_law_350 : decode cL_law 350 = .ok (.iconst 0, 1) := by decide +kernel
theorem dL_law_351 : decode cL_law 351 = .ok (.ireturn, 1) := by decide +kernel
theorem dL_law_352 : decode cL_law 352 = .ok (.aload_n 1, 1) := by decide +kernel
theorem dL_law_353 : decode cL_law 353 = .ok (.aload_n 0, 1) := by decide +kernel
theorem dL_law_354 : decode cL_law 354 = .ok (.iload_n 3, 1) := by decide +kernel
theorem dL_law_355 : decode cL_law 355 = .ok (.iconst 1, 1) := by decide +kernel
theorem dL_law_356 : decode cL_law 356 = .ok (.iadd, 1) := by decide +kernel
theorem dL_law_357 : decode cL_law 357 = .ok (.iaload, 1) := by decide +kernel
theorem dL_law_358 : decode cL_law 358 = .ok (.invokevirtual 48, 3) := by decide +kernel
theorem dL_law_361 : decode cL_law 361 = .ok (.aload_n 2, 1) := by decide +kernel
theorem dL_law_362 : decode cL_law 362 = .ok (.aload_n 0, 1) := by decide +kernel
theorem dL_law_363 : decode cL_law 363 = .ok (.iload_n 3, 1) := by decide +kernel
theorem dL_law_364 : decode cL_law 364 = .ok (.iconst 1, 1) := by decide +kernel
theorem dL_law_365 : decode cL_law 365 = .ok (.iadd, 1) := by decide +kernel
theorem dL_law_366 : decode cL_law 366 = .ok (.iaload, 1) := by decide +kernel
theorem dL_law_367 : decode cL_law 367 = .ok (.invokevirtual 51, 3) := by decide +kernel
theorem dL_law_370 : decode cL_law 370 = .ok (.if_icmp .eq 549, 3) := by decide +kernel
theorem dL_law_373 : decode cL_law 373 = .ok (.iconst 0, 1) := by decide +kernel
theorem dL_law_374 : decode cL_law 374 = .ok (.ireturn, 1) := by decide +kernel
theorem dL_law_375 : decode cL_law 375 = .ok (.aload_n 1, 1) := by decide +kernel
theorem dL_law_376 : decode cL_law 376 = .ok (.aload_n 0, 1) := by decide +kernel
theorem dL_law_377 : decode cL_law 377 = .ok (.iload_n 3, 1) := by decide +kernel
theorem dL_law_378 : decode cL_law 378 = .ok (.iconst 1, 1) := by decide +kernel
theorem dL_law_379 : decode cL_law 379 = .ok (.iadd, 1) := by decide +kernel
theorem dL_law_380 : decode cL_law 380 = .ok (.iaload, 1) := by decide +kernel
theorem dL_law_381 : decode cL_law 381 = .ok (.aload_n 0, 1) := by decide +kernel
theorem dL_law_382 : decode cL_law 382 = .ok (.iload_n 3, 1) := by decide +kernel
theorem dL_law_383 : decode cL_law 383 = .ok (.iconst 2, 1) := by decide +kernel
theorem dL_law_384 : decode cL_law 384 = .ok (.iadd, 1) := by decide +kernel
theorem dL_law_385 : decode cL_law 385 = .ok (.iaload, 1) := by decide +kernel
theorem dL_law_386 : decode cL_law 386 = .ok (.aload_n 0, 1) := by decide +kernel
theorem dL_law_387 : decode cL_law 387 = .ok (.iload_n 3, 1) := by decide +kernel
theorem dL_law_388 : decode cL_law 388 = .ok (.iconst 3, 1) := by decide +kernel
theorem dL_law_389 : decode cL_law 389 = .ok (.iadd, 1) := by decide +kernel
theorem dL_law_390 : decode cL_law 390 = .ok (.iaload, 1) := by decide +kernel
theorem dL_law_391 : decode cL_law 391 = .ok (.invokevirtual 52, 3) := by decide +kernel
theorem dL_law_394 : decode cL_law 394 = .ok (.aload_n 2, 1) := by decide +kernel
theorem dL_law_395 : decode cL_law 395 = .ok (.aload_n 0, 1) := by decide +kernel
theorem dL_law_396 : decode cL_law 396 = .ok (.iload_n 3, 1) := by decide +kernel
theorem dL_law_397 : decode cL_law 397 = .ok (.iconst 1, 1) := by decide +kernel
theorem dL_law_398 : decode cL_law 398 = .ok (.iadd, 1) := by decide +kernel
theorem dL_law_399 : decode cL_law 399 = .ok (.iaload, 1) := by decide +kernel
theorem dL_law_400 : decode cL_law 400 = .ok (.aload_n 0, 1) := by decide +kernel
theorem dL_law_401 : decode cL_law 401 = .ok (.iload_n 3, 1) := by decide +kernel
theorem dL_law_402 : decode cL_law 402 = .ok (.iconst 2, 1) := by decide +kernel
theorem dL_law_403 : decode cL_law 403 = .ok (.iadd, 1) := by decide +kernel
theorem dL_law_404 : decode cL_law 404 = .ok (.iaload, 1) := by decide +kernel
theorem dL_law_405 : decode cL_law 405 = .ok (.aload_n 0, 1) := by decide +kernel
theorem dL_law_406 : decode cL_law 406 = .ok (.iload_n 3, 1) := by decide +kernel
theorem dL_law_407 : decode cL_law 407 = .ok (.iconst 3, 1) := by decide +kernel
theorem dL_law_408 : decode cL_law 408 = .ok (.iadd, 1) := by decide +kernel
theorem dL_law_409 : decode cL_law 409 = .ok (.iaload, 1) := by decide +kernel
theorem dL_law_410 : decode cL_law 410 = .ok (.invokevirtual 56, 3) := by decide +kernel
theorem dL_law_413 : decode cL_law 413 = .ok (.if_icmp .eq 506, 3) := by decide +kernel
theorem dL_law_416 : decode cL_law 416 = .ok (.iconst 0, 1) := by decide +kernel
theorem dL_law_417 : decode cL_law 417 = .ok (.ireturn, 1) := by decide +kernel
theorem dL_law_418 : decode cL_law 418 = .ok (.aload_n 1, 1) := by decide +kernel
theorem dL_law_419 : decode cL_law 419 = .ok (.aload_n 0, 1) := by decide +kernel
theorem dL_law_420 : decode cL_law 420 = .ok (.iload_n 3, 1) := by decide +kernel
theorem dL_law_421 : decode cL_law 421 = .ok (.iconst 1, 1) := by decide +kernel
theorem dL_law_422 : decode cL_law 422 = .ok (.iadd, 1) := by decide +kernel
theorem dL_law_423 : decode cL_law 423 = .ok (.iaload, 1) := by decide +kernel
theorem dL_law_424 : decode cL_law 424 = .ok (.aload_n 0, 1) := by decide +kernel
theorem dL_law_425 : decode cL_law 425 = .ok (.iload_n 3, 1) := by decide +kernel
theorem dL_law_426 : decode cL_law 426 = .ok (.iconst 2, 1) := by decide +kernel
theorem dL_law_427 : decode cL_law 427 = .ok (.iadd, 1) := by decide +kernel
theorem dL_law_428 : decode cL_law 428 = .ok (.iaload, 1) := by decide +kernel
theorem dL_law_429 : decode cL_law 429 = .ok (.invokevirtual 57, 3) := by decide +kernel
theorem dL_law_432 : decode cL_law 432 = .ok (.aload_n 2, 1) := by decide +kernel
theorem dL_law_433 : decode cL_law 433 = .ok (.aload_n 0, 1) := by decide +kernel
theorem dL_law_434 : decode cL_law 434 = .ok (.iload_n 3, 1) := by decide +kernel
theorem dL_law_435 : decode cL_law 435 = .ok (.iconst 1, 1) := by decide +kernel
theorem dL_law_436 : decode cL_law 436 = .ok (.iadd, 1) := by decide +kernel
theorem dL_law_437 : decode cL_law 437 = .ok (.iaload, 1) := by decide +kernel
theorem dL_law_438 : decode cL_law 438 = .ok (.aload_n 0, 1) := by decide +kernel
theorem dL_law_439 : decode cL_law 439 = .ok (.iload_n 3, 1) := by decide +kernel
theorem dL_law_440 : decode cL_law 440 = .ok (.iconst 2, 1) := by decide +kernel
theorem dL_law_441 : decode cL_law 441 = .ok (.iadd, 1) := by decide +kernel
theorem dL_law_442 : decode cL_law 442 = .ok (.iaload, 1) := by decide +kernel
theorem dL_law_443 : decode cL_law 443 = .ok (.invokevirtual 60, 3) := by decide +kernel
theorem dL_law_446 : decode cL_law 446 = .ok (.if_icmp .eq 473, 3) := by decide +kernel
theorem dL_law_449 : decode cL_law 449 = .ok (.iconst 0, 1) := by decide +kernel
theorem dL_law_450 : decode cL_law 450 = .ok (.ireturn, 1) := by decide +kernel
theorem dL_law_451 : decode cL_law 451 = .ok (.aload_n 1, 1) := by decide +kernel
theorem dL_law_452 : decode cL_law 452 = .ok (.aload_n 0, 1) := by decide +kernel
theorem dL_law_453 : decode cL_law 453 = .ok (.iload_n 3, 1) := by decide +kernel
theorem dL_law_454 : decode cL_law 454 = .ok (.iconst 1, 1) := by decide +kernel
theorem dL_law_455 : decode cL_law 455 = .ok (.iadd, 1) := by decide +kernel
theorem dL_law_456 : decode cL_law 456 = .ok (.iaload, 1) := by decide +kernel
theorem dL_law_457 : decode cL_law 457 = .ok (.aload_n 0, 1) := by decide +kernel
theorem dL_law_458 : decode cL_law 458 = .ok (.iload_n 3, 1) := by decide +kernel
theorem dL_law_459 : decode cL_law 459 = .ok (.iconst 2, 1) := by decide +kernel
theorem dL_law_460 : decode cL_law 460 = .ok (.iadd, 1) := by decide +kernel
theorem dL_law_461 : decode cL_law 461 = .ok (.iaload, 1) := by decide +kernel
theorem dL_law_462 : decode cL_law 462 = .ok (.invokevirtual 61, 3) := by decide +kernel
theorem dL_law_465 : decode cL_law 465 = .ok (.aload_n 2, 1) := by decide +kernel
theorem dL_law_466 : decode cL_law 466 = .ok (.aload_n 0, 1) := by decide +kernel
theorem dL_law_467 : decode cL_law 467 = .ok (.iload_n 3, 1) := by decide +kernel
theorem dL_law_468 : decode cL_law 468 = .ok (.iconst 1, 1) := by decide +kernel
theorem dL_law_469 : decode cL_law 469 = .ok (.iadd, 1) := by decide +kernel
theorem dL_law_470 : decode cL_law 470 = .ok (.iaload, 1) := by decide +kernel
theorem dL_law_471 : decode cL_law 471 = .ok (.aload_n 0, 1) := by decide +kernel
theorem dL_law_472 : decode cL_law 472 = .ok (.iload_n 3, 1) := by decide +kernel
theorem dL_law_473 : decode cL_law 473 = .ok (.iconst 2, 1) := by decide +kernel
theorem dL_law_474 : decode cL_law 474 = .ok (.iadd, 1) := by decide +kernel
theorem dL_law_475 : decode cL_law 475 = .ok (.iaload, 1) := by decide +kernel
theorem dL_law_476 : decode cL_law 476 = .ok (.invokevirtual 64, 3) := by decide +kernel
theorem dL_law_479 : decode cL_law 479 = .ok (.if_icmp .eq 440, 3) := by decide +kernel
theorem dL_law_482 : decode cL_law 482 = .ok (.iconst 0, 1) := by decide +kernel
theorem dL_law_483 : decode cL_law 483 = .ok (.ireturn, 1) := by decide +kernel
theorem dL_law_484 : decode cL_law 484 = .ok (.aload_n 1, 1) := by decide +kernel
theorem dL_law_485 : decode cL_law 485 = .ok (.invokevirtual 65, 3) := by decide +kernel
theorem dL_law_488 : decode cL_law 488 = .ok (.aload_n 2, 1) := by decide +kernel
theorem dL_law_489 : decode cL_law 489 = .ok (.invokevirtual 68, 3) := by decide +kernel
theorem dL_law_492 : decode cL_law 492 = .ok (.if_icmp .eq 427, 3) := by decide +kernel
theorem dL_law_495 : decode cL_law 495 = .ok (.iconst 0, 1) := by decide +kernel
theorem dL_law_496 : decode cL_law 496 = .ok (.ireturn, 1) := by decide +kernel
theorem dL_law_497 : decode cL_law 497 = .ok (.aload_n 1, 1) := by decide +kernel
theorem dL_law_498 : decode cL_law 498 = .ok (.aload_n 0, 1) := by decide +kernel
theorem dL_law_499 : decode cL_law 499 = .ok (.iload_n 3, 1) := by decide +kernel
theorem dL_law_500 : decode cL_law 500 = .ok (.iconst 1, 1) := by decide +kernel
theorem dL_law_501 : decode cL_law 501 = .ok (.iadd, 1) := by decide +kernel
theorem dL_law_502 : decode cL_law 502 = .ok (.iaload, 1) := by decide +kernel
theorem dL_law_503 : decode cL_law 503 = .ok (.invokevirtual 69, 3) := by decide +kernel
theorem dL_law_506 : decode cL_law 506 = .ok (.aload_n 2, 1) := by decide +kernel
theorem dL_law_507 : decode cL_law 507 = .ok (.aload_n 0, 1) := by decide +kernel
theorem dL_law_508 : decode cL_law 508 = .ok (.iload_n 3, 1) := by decide +kernel
theorem dL_law_509 : decode cL_law 509 = .ok (.iconst 1, 1) := by decide +kernel
theorem dL_law_510 : decode cL_law 510 = .ok (.iadd, 1) := by decide +kernel
theorem dL_law_511 : decode cL_law 511 = .ok (.iaload, 1) := by decide +kernel
theorem dL_law_512 : decode cL_law 512 = .ok (.invokevirtual 72, 3) := by decide +kernel
theorem dL_law_515 : decode cL_law 515 = .ok (.if_icmp .eq 404, 3) := by decide +kernel
theorem dL_law_518 : decode cL_law 518 = .ok (.iconst 0, 1) := by decide +kernel
theorem dL_law_519 : decode cL_law 519 = .ok (.ireturn, 1) := by decide +kernel
theorem dL_law_520 : decode cL_law 520 = .ok (.aload_n 1, 1) := by decide +kernel
theorem dL_law_521 : decode cL_law 521 = .ok (.aload_n 0, 1) := by decide +kernel
theorem dL_law_522 : decode cL_law 522 = .ok (.iload_n 3, 1) := by decide +kernel
theorem dL_law_523 : decode cL_law 523 = .ok (.iconst 1, 1) := by decide +kernel
theorem dL_law_524 : decode cL_law 524 = .ok (.iadd, 1) := by decide +kernel
theorem dL_law_525 : decode cL_law 525 = .ok (.iaload, 1) := by decide +kernel
theorem dL_law_526 : decode cL_law 526 = .ok (.invokevirtual 73, 3) := by decide +kernel
theorem dL_law_529 : decode cL_law 529 = .ok (.aload_n 2, 1) := by decide +kernel
theorem dL_law_530 : decode cL_law 530 = .ok (.aload_n 0, 1) := by decide +kernel
theorem dL_law_531 : decode cL_law 531 = .ok (.iload_n 3, 1) := by decide +kernel
theorem dL_law_532 : decode cL_law 532 = .ok (.iconst 1, 1) := by decide +kernel
theorem dL_law_533 : decode cL_law 533 = .ok (.iadd, 1) := by decide +kernel
theorem dL_law_534 : decode cL_law 534 = .ok (.iaload, 1) := by decide +kernel
theorem dL_law_535 : decode cL_law 535 = .ok (.invokevirtual 76, 3) := by decide +kernel
theorem dL_law_538 : decode cL_law 538 = .ok (.if_icmp .eq 381, 3) := by decide +kernel
theorem dL_law_541 : decode cL_law 541 = .ok (.iconst 0, 1) := by decide +kernel
theorem dL_law_542 : decode cL_law 542 = .ok (.ireturn, 1) := by decide +kernel
theorem dL_law_543 : decode cL_law 543 = .ok (.aload_n 1, 1) := by decide +kernel
theorem dL_law_544 : decode cL_law 544 = .ok (.aload_n 0, 1) := by decide +kernel
theorem dL_law_545 : decode cL_law 545 = .ok (.iload_n 3, 1) := by decide +kernel
theorem dL_law_546 : decode cL_law 546 = .ok (.iconst 1, 1) := by decide +kernel
theorem dL_law_547 : decode cL_law 547 = .ok (.iadd, 1) := by decide +kernel
theorem dL_law_548 : decode cL_law 548 = .ok (.iaload, 1) := by decide +kernel
theorem dL_law_549 : decode cL_law 549 = .ok (.invokevirtual 77, 3) := by decide +kernel
theorem dL_law_552 : decode cL_law 552 = .ok (.aload_n 2, 1) := by decide +kernel
theorem dL_law_553 : decode cL_law 553 = .ok (.aload_n 0, 1) := by decide +kernel
theorem dL_law_554 : decode cL_law 554 = .ok (.iload_n 3, 1) := by decide +kernel
theorem dL_law_555 : decode cL_law 555 = .ok (.iconst 1, 1) := by decide +kernel
theorem dL_law_556 : decode cL_law 556 = .ok (.iadd, 1) := by decide +kernel
theorem dL_law_557 : decode cL_law 557 = .ok (.iaload, 1) := by decide +kernel
theorem dL_law_558 : decode cL_law 558 = .ok (.invokevirtual 80, 3) := by decide +kernel
theorem dL_law_561 : decode cL_law 561 = .ok (.if_icmp .eq 358, 3) := by decide +kernel
theorem dL_law_564 : decode cL_law 564 = .ok (.iconst 0, 1) := by decide +kernel
theorem dL_law_565 : decode cL_law 565 = .ok (.ireturn, 1) := by decide +kernel
theorem dL_law_566 : decode cL_law 566 = .ok (.aload_n 1, 1) := by decide +kernel
theorem dL_law_567 : decode cL_law 567 = .ok (.invokevirtual 81, 3) := by decide +kernel
theorem dL_law_570 : decode cL_law 570 = .ok (.aload_n 2, 1) := by decide +kernel
theorem dL_law_571 : decode cL_law 571 = .ok (.invokevirtual 84, 3) := by decide +kernel
theorem dL_law_574 : decode cL_law 574 = .ok (.if_icmp .eq 345, 3) := by decide +kernel
theorem dL_law_577 : decode cL_law 577 = .ok (.iconst 0, 1) := by decide +kernel
theorem dL_law_578 : decode cL_law 578 = .ok (.ireturn, 1) := by decide +kernel
theorem dL_law_579 : decode cL_law 579 = .ok (.aload_n 1, 1) := by decide +kernel
theorem dL_law_580 : decode cL_law 580 = .ok (.invokevirtual 85, 3) := by decide +kernel
theorem dL_law_583 : decode cL_law 583 = .ok (.aload_n 2, 1) := by decide +kernel
theorem dL_law_584 : decode cL_law 584 = .ok (.invokevirtual 88, 3) := by decide +kernel
theorem dL_law_587 : decode cL_law 587 = .ok (.if_icmp .eq 332, 3) := by decide +kernel
theorem dL_law_590 : decode cL_law 590 = .ok (.iconst 0, 1) := by decide +kernel
theorem dL_law_591 : decode cL_law 591 = .ok (.ireturn, 1) := by decide +kernel
theorem dL_law_592 : decode cL_law 592 = .ok (.aload_n 1, 1) := by decide +kernel
theorem dL_law_593 : decode cL_law 593 = .ok (.aload_n 0, 1) := by decide +kernel
theorem dL_law_594 : decode cL_law 594 = .ok (.iload_n 3, 1) := by decide +kernel
theorem dL_law_595 : decode cL_law 595 = .ok (.iconst 1, 1) := by decide +kernel
theorem dL_law_596 : decode cL_law 596 = .ok (.iadd, 1) := by decide +kernel
theorem dL_law_597 : decode cL_law 597 = .ok (.iaload, 1) := by decide +kernel
theorem dL_law_598 : decode cL_law 598 = .ok (.aload_n 0, 1) := by decide +kernel
theorem dL_law_599 : decode cL_law 599 = .ok (.iload_n 3, 1) := by decide +kernel
theorem dL_law_600 : decode cL_law 600 = .ok (.iconst 2, 1) := by decide +kernel
theorem dL_law_601 : decode cL_law 601 = .ok (.iadd, 1) := by decide +kernel
theorem dL_law_602 : decode cL_law 602 = .ok (.iaload, 1) := by decide +kernel
theorem dL_law_603 : decode cL_law 603 = .ok (.invokevirtual 89, 3) := by decide +kernel
theorem dL_law_606 : decode cL_law 606 = .ok (.aload_n 2, 1) := by decide +kernel
theorem dL_law_607 : decode cL_law 607 = .ok (.aload_n 0, 1) := by decide +kernel
theorem dL_law_608 : decode cL_law 608 = .ok (.iload_n 3, 1) := by decide +kernel
theorem dL_law_609 : decode cL_law 609 = .ok (.iconst 1, 1) := by decide +kernel
theorem dL_law_610 : decode cL_law 610 = .ok (.iadd, 1) := by decide +kernel
theorem dL_law_611 : decode cL_law 611 = .ok (.iaload, 1) := by decide +kernel
theorem dL_law_612 : decode cL_law 612 = .ok (.aload_n 0, 1) := by decide +kernel
theorem dL_law_613 : decode cL_law 613 = .ok (.iload_n 3, 1) := by decide +kernel
theorem dL_law_614 : decode cL_law 614 = .ok (.iconst 2, 1) := by decide +kernel
theorem dL_law_615 : decode cL_law 615 = .ok (.iadd, 1) := by decide +kernel
theorem dL_law_616 : decode cL_law 616 = .ok (.iaload, 1) := by decide +kernel
theorem dL_law_617 : decode cL_law 617 = .ok (.invokevirtual 92, 3) := by decide +kernel
theorem dL_law_620 : decode cL_law 620 = .ok (.if_icmp .eq 299, 3) := by decide +kernel
theorem dL_law_623 : decode cL_law 623 = .ok (.iconst 0, 1) := by decide +kernel
theorem dL_law_624 : decode cL_law 624 = .ok (.ireturn, 1) := by decide +kernel
theorem dL_law_625 : decode cL_law 625 = .ok (.aload_n 1, 1) := by decide +kernel
theorem dL_law_626 : decode cL_law 626 = .ok (.aload_n 0, 1) := by decide +kernel
theorem dL_law_627 : decode cL_law 627 = .ok (.iload_n 3, 1) := by decide +kernel
theorem dL_law_628 : decode cL_law 628 = .ok (.iconst 1, 1) := by decide +kernel
theorem dL_law_629 : decode cL_law 629 = .ok (.iadd, 1) := by decide +kernel
theorem dL_law_630 : decode cL_law 630 = .ok (.iaload, 1) := by decide +kernel
theorem dL_law_631 : decode cL_law 631 = .ok (.aload_n 0, 1) := by decide +kernel
theorem dL_law_632 : decode cL_law 632 = .ok (.iload_n 3, 1) := by decide +kernel
theorem dL_law_633 : decode cL_law 633 = .ok (.iconst 2, 1) := by decide +kernel
theorem dL_law_634 : decode cL_law 634 = .ok (.iadd, 1) := by decide +kernel
theorem dL_law_635 : decode cL_law 635 = .ok (.iaload, 1) := by decide +kernel
theorem dL_law_636 : decode cL_law 636 = .ok (.aload_n 0, 1) := by decide +kernel
theorem dL_law_637 : decode cL_law 637 = .ok (.iload_n 3, 1) := by decide +kernel
theorem dL_law_638 : decode cL_law 638 = .ok (.iconst 3, 1) := by decide +kernel
theorem dL_law_639 : decode cL_law 639 = .ok (.iadd, 1) := by decide +kernel
theorem dL_law_640 : decode cL_law 640 = .ok (.iaload, 1) := by decide +kernel
theorem dL_law_641 : decode cL_law 641 = .ok (.invokevirtual 93, 3) := by decide +kernel
theorem dL_law_644 : decode cL_law 644 = .ok (.aload_n 2, 1) := by decide +kernel
theorem dL_law_645 : decode cL_law 645 = .ok (.aload_n 0, 1) := by decide +kernel
theorem dL_law_646 : decode cL_law 646 = .ok (.iload_n 3, 1) := by decide +kernel
theorem dL_law_647 : decode cL_law 647 = .ok (.iconst 1, 1) := by decide +kernel
theorem dL_law_648 : decode cL_law 648 = .ok (.iadd, 1) := by decide +kernel
theorem dL_law_649 : decode cL_law 649 = .ok (.iaload, 1) := by decide +kernel
theorem dL_law_650 : decode cL_law 650 = .ok (.aload_n 0, 1) := by decide +kernel
theorem dL_law_651 : decode cL_law 651 = .ok (.iload_n 3, 1) := by decide +kernel
theorem dL_law_652 : decode cL_law 652 = .ok (.iconst 2, 1) := by decide +kernel
theorem dL_law_653 : decode cL_law 653 = .ok (.iadd, 1) := by decide +kernel
theorem dL_law_654 : decode cL_law 654 = .ok (.iaload, 1) := by decide +kernel
theorem dL_law_655 : decode cL_law 655 = .ok (.aload_n 0, 1) := by decide +kernel
theorem dL_law_656 : decode cL_law 656 = .ok (.iload_n 3, 1) := by decide +kernel
theorem dL_law_657 : decode cL_law 657 = .ok (.iconst 3, 1) := by decide +kernel
theorem dL_law_658 : decode cL_law 658 = .ok (.iadd, 1) := by decide +kernel
theorem dL_law_659 : decode cL_law 659 = .ok (.iaload, 1) := by decide +kernel
theorem dL_law_660 : decode cL_law 660 = .ok (.invokevirtual 96, 3) := by decide +kernel
theorem dL_law_663 : decode cL_law 663 = .ok (.if_icmp .eq 256, 3) := by decide +kernel
theorem dL_law_666 : decode cL_law 666 = .ok (.iconst 0, 1) := by decide +kernel
theorem dL_law_667 : decode cL_law 667 = .ok (.ireturn, 1) := by decide +kernel
theorem dL_law_668 : decode cL_law 668 = .ok (.aload_n 1, 1) := by decide +kernel
theorem dL_law_669 : decode cL_law 669 = .ok (.invokevirtual 97, 3) := by decide +kernel
theorem dL_law_672 : decode cL_law 672 = .ok (.aload_n 2, 1) := by decide +kernel
theorem dL_law_673 : decode cL_law 673 = .ok (.invokevirtual 100, 3) := by decide +kernel
theorem dL_law_676 : decode cL_law 676 = .ok (.if_icmp .eq 243, 3) := by decide +kernel
theorem dL_law_679 : decode cL_law 679 = .ok (.iconst 0, 1) := by decide +kernel
theorem dL_law_680 : decode cL_law 680 = .ok (.ireturn, 1) := by decide +kernel
theorem dL_law_681 : decode cL_law 681 = .ok (.aload_n 1, 1) := by decide +kernel
theorem dL_law_682 : decode cL_law 682 = .ok (.aload_n 0, 1) := by decide +kernel
theorem dL_law_683 : decode cL_law 683 = .ok (.iload_n 3, 1) := by decide +kernel
theorem dL_law_684 : decode cL_law 684 = .ok (.iconst 1, 1) := by decide +kernel
theorem dL_law_685 : decode cL_law 685 = .ok (.iadd, 1) := by decide +kernel
theorem dL_law_686 : decode cL_law 686 = .ok (.iaload, 1) := by decide +kernel
theorem dL_law_687 : decode cL_law 687 = .ok (.invokevirtual 101, 3) := by decide +kernel
theorem dL_law_690 : decode cL_law 690 = .ok (.aload_n 2, 1) := by decide +kernel
theorem dL_law_691 : decode cL_law 691 = .ok (.aload_n 0, 1) := by decide +kernel
theorem dL_law_692 : decode cL_law 692 = .ok (.iload_n 3, 1) := by decide +kernel
theorem dL_law_693 : decode cL_law 693 = .ok (.iconst 1, 1) := by decide +kernel
theorem dL_law_694 : decode cL_law 694 = .ok (.iadd, 1) := by decide +kernel
theorem dL_law_695 : decode cL_law 695 = .ok (.iaload, 1) := by decide +kernel
theorem dL_law_696 : decode cL_law 696 = .ok (.invokevirtual 104, 3) := by decide +kernel
theorem dL_law_699 : decode cL_law 699 = .ok (.if_icmp .eq 220, 3) := by decide +kernel
theorem dL_law_702 : decode cL_law 702 = .ok (.iconst 0, 1) := by decide +kernel
theorem dL_law_703 : decode cL_law 703 = .ok (.ireturn, 1) := by decide +kernel
theorem dL_law_704 : decode cL_law 704 = .ok (.aload_n 1, 1) := by decide +kernel
theorem dL_law_705 : decode cL_law 705 = .ok (.aload_n 0, 1) := by decide +kernel
theorem dL_law_706 : decode cL_law 706 = .ok (.iload_n 3, 1) := by decide +kernel
theorem dL_law_707 : decode cL_law 707 = .ok (.iconst 1, 1) := by decide +kernel
theorem dL_law_708 : decode cL_law 708 = .ok (.iadd, 1) := by decide +kernel
theorem dL_law_709 : decode cL_law 709 = .ok (.iaload, 1) := by decide +kernel
theorem dL_law_710 : decode cL_law 710 = .ok (.invokevirtual 105, 3) := by decide +kernel
theorem dL_law_713 : decode cL_law 713 = .ok (.aload_n 2, 1) := by decide +kernel
theorem dL_law_714 : decode cL_law 714 = .ok (.aload_n 0, 1) := by decide +kernel
theorem dL_law_715 : decode cL_law 715 = .ok (.iload_n 3, 1) := by decide +kernel
theorem dL_law_716 : decode cL_law 716 = .ok (.iconst 1, 1) := by decide +kernel
theorem dL_law_717 : decode cL_law 717 = .ok (.iadd, 1) := by decide +kernel
theorem dL_law_718 : decode cL_law 718 = .ok (.iaload, 1) := by decide +kernel
theorem dL_law_719 : decode cL_law 719 = .ok (.invokevirtual 108, 3) := by decide +kernel
theorem dL_law_722 : decode cL_law 722 = .ok (.if_icmp .eq 197, 3) := by decide +kernel
theorem dL_law_725 : decode cL_law 725 = .ok (.iconst 0, 1) := by decide +kernel
theorem dL_law_726 : decode cL_law 726 = .ok (.ireturn, 1) := by decide +kernel
theorem dL_law_727 : decode cL_law 727 = .ok (.aload_n 1, 1) := by decide +kernel
theorem dL_law_728 : decode cL_law 728 = .ok (.aload_n 0, 1) := by decide +kernel
theorem dL_law_729 : decode cL_law 729 = .ok (.iload_n 3, 1) := by decide +kernel
theorem dL_law_730 : decode cL_law 730 = .ok (.iconst 1, 1) := by decide +kernel
theorem dL_law_731 : decode cL_law 731 = .ok (.iadd, 1) := by decide +kernel
theorem dL_law_732 : decode cL_law 732 = .ok (.iaload, 1) := by decide +kernel
theorem dL_law_733 : decode cL_law 733 = .ok (.aload_n 0, 1) := by decide +kernel
theorem dL_law_734 : decode cL_law 734 = .ok (.iload_n 3, 1) := by decide +kernel
theorem dL_law_735 : decode cL_law 735 = .ok (.iconst 2, 1) := by decide +kernel
theorem dL_law_736 : decode cL_law 736 = .ok (.iadd, 1) := by decide +kernel
theorem dL_law_737 : decode cL_law 737 = .ok (.iaload, 1) := by decide +kernel
theorem dL_law_738 : decode cL_law 738 = .ok (.invokevirtual 109, 3) := by decide +kernel
theorem dL_law_741 : decode cL_law 741 = .ok (.aload_n 2, 1) := by decide +kernel
theorem dL_law_742 : decode cL_law 742 = .ok (.aload_n 0, 1) := by decide +kernel
theorem dL_law_743 : decode cL_law 743 = .ok (.iload_n 3, 1) := by decide +kernel
theorem dL_law_744 : decode cL_law 744 = .ok (.iconst 1, 1) := by decide +kernel
theorem dL_law_745 : decode cL_law 745 = .ok (.iadd, 1) := by decide +kernel
theorem dL_law_746 : decode cL_law 746 = .ok (.iaload, 1) := by decide +kernel
theorem dL_law_747 : decode cL_law 747 = .ok (.aload_n 0, 1) := by decide +kernel
theorem dL_law_748 : decode cL_law 748 = .ok (.iload_n 3, 1) := by decide +kernel
theorem dL_law_749 : decode cL_law 749 = .ok (.iconst 2, 1) := by decide +kernel
theorem dL_law_750 : decode cL_law 750 = .ok (.iadd, 1) := by decide +kernel
theorem dL_law_751 : decode cL_law 751 = .ok (.iaload, 1) := by decide +kernel
theorem dL_law_752 : decode cL_law 752 = .ok (.invokevirtual 112, 3) := by decide +kernel
theorem dL_law_755 : decode cL_law 755 = .ok (.if_icmp .eq 164, 3) := by decide +kernel
theorem dL_law_758 : decode cL_law 758 = .ok (.iconst 0, 1) := by decide +kernel
theorem dL_law_759 : decode cL_law 759 = .ok (.ireturn, 1) := by decide +kernel
theorem dL_law_760 : decode cL_law 760 = .ok (.aload_n 1, 1) := by decide +kernel
theorem dL_law_761 : decode cL_law 761 = .ok (.aload_n 0, 1) := by decide +kernel
theorem dL_law_762 : decode cL_law 762 = .ok (.iload_n 3, 1) := by decide +kernel
theorem dL_law_763 : decode cL_law 763 = .ok (.iconst 1, 1) := by decide +kernel
theorem dL_law_764 : decode cL_law 764 = .ok (.iadd, 1) := by decide +kernel
theorem dL_law_765 : decode cL_law 765 = .ok (.iaload, 1) := by decide +kernel
theorem dL_law_766 : decode cL_law 766 = .ok (.aload_n 0, 1) := by decide +kernel
theorem dL_law_767 : decode cL_law 767 = .ok (.iload_n 3, 1) := by decide +kernel
theorem dL_law_768 : decode cL_law 768 = .ok (.iconst 2, 1) := by decide +kernel
theorem dL_law_769 : decode cL_law 769 = .ok (.iadd, 1) := by decide +kernel
theorem dL_law_770 : decode cL_law 770 = .ok (.iaload, 1) := by decide +kernel
theorem dL_law_771 : decode cL_law 771 = .ok (.aload_n 0, 1) := by decide +kernel
theorem dL_law_772 : decode cL_law 772 = .ok (.iload_n 3, 1) := by decide +kernel
theorem dL_law_773 : decode cL_law 773 = .ok (.iconst 3, 1) := by decide +kernel
theorem dL_law_774 : decode cL_law 774 = .ok (.iadd, 1) := by decide +kernel
theorem dL_law_775 : decode cL_law 775 = .ok (.iaload, 1) := by decide +kernel
theorem dL_law_776 : decode cL_law 776 = .ok (.invokevirtual 113, 3) := by decide +kernel
theorem dL_law_779 : decode cL_law 779 = .ok (.aload_n 2, 1) := by decide +kernel
theorem dL_law_780 : decode cL_law 780 = .ok (.aload_n 0, 1) := by decide +kernel
theorem dL_law_781 : decode cL_law 781 = .ok (.iload_n 3, 1) := by decide +kernel
theorem dL_law_782 : decode cL_law 782 = .ok (.iconst 1, 1) := by decide +kernel
theorem dL_law_783 : decode cL_law 783 = .ok (.iadd, 1) := by decide +kernel
theorem dL_law_784 : decode cL_law 784 = .ok (.iaload, 1) := by decide +kernel
theorem dL_law_785 : decode cL_law 785 = .ok (.aload_n 0, 1) := by decide +kernel
theorem dL_law_786 : decode cL_law 786 = .ok (.iload_n 3, 1) := by decide +kernel
theorem dL_law_787 : decode cL_law 787 = .ok (.iconst 2, 1) := by decide +kernel
theorem dL_law_788 : decode cL_law 788 = .ok (.iadd, 1) := by decide +kernel
theorem dL_law_789 : decode cL_law 789 = .ok (.iaload, 1) := by decide +kernel
theorem dL_law_790 : decode cL_law 790 = .ok (.aload_n 0, 1) := by decide +kernel
theorem dL_law_791 : decode cL_law 791 = .ok (.iload_n 3, 1) := by decide +kernel
theorem dL_law_792 : decode cL_law 792 = .ok (.iconst 3, 1) := by decide +kernel
theorem dL_law_793 : decode cL_law 793 = .ok (.iadd, 1) := by decide +kernel
theorem dL_law_794 : decode cL_law 794 = .ok (.iaload, 1) := by decide +kernel
theorem dL_law_795 : decode cL_law 795 = .ok (.invokevirtual 116, 3) := by decide +kernel
theorem dL_law_798 : decode cL_law 798 = .ok (.if_icmp .eq 121, 3) := by decide +kernel
theorem dL_law_801 : decode cL_law 801 = .ok (.iconst 0, 1) := by decide +kernel
theorem dL_law_802 : decode cL_law 802 = .ok (.ireturn, 1) := by decide +kernel
theorem dL_law_803 : decode cL_law 803 = .ok (.aload_n 1, 1) := by decide +kernel
theorem dL_law_804 : decode cL_law 804 = .ok (.aload_n 0, 1) := by decide +kernel
theorem dL_law_805 : decode cL_law 805 = .ok (.iload_n 3, 1) := by decide +kernel
theorem dL_law_806 : decode cL_law 806 = .ok (.iconst 1, 1) := by decide +kernel
theorem dL_law_807 : decode cL_law 807 = .ok (.iadd, 1) := by decide +kernel
theorem dL_law_808 : decode cL_law 808 = .ok (.iaload, 1) := by decide +kernel
theorem dL_law_809 : decode cL_law 809 = .ok (.aload_n 0, 1) := by decide +kernel
theorem dL_law_810 : decode cL_law 810 = .ok (.iload_n 3, 1) := by decide +kernel
theorem dL_law_811 : decode cL_law 811 = .ok (.iconst 2, 1) := by decide +kernel
theorem dL_law_812 : decode cL_law 812 = .ok (.iadd, 1) := by decide +kernel
theorem dL_law_813 : decode cL_law 813 = .ok (.iaload, 1) := by decide +kernel
theorem dL_law_814 : decode cL_law 814 = .ok (.invokevirtual 117, 3) := by decide +kernel
theorem dL_law_817 : decode cL_law 817 = .ok (.aload_n 2, 1) := by decide +kernel
theorem dL_law_818 : decode cL_law 818 = .ok (.aload_n 0, 1) := by decide +kernel
theorem dL_law_819 : decode cL_law 819 = .ok (.iload_n 3, 1) := by decide +kernel
theorem dL_law_820 : decode cL_law 820 = .ok (.iconst 1, 1) := by decide +kernel
theorem dL_law_821 : decode cL_law 821 = .ok (.iadd, 1) := by decide +kernel
theorem dL_law_822 : decode cL_law 822 = .ok (.iaload, 1) := by decide +kernel
theorem dL_law_823 : decode cL_law 823 = .ok (.aload_n 0, 1) := by decide +kernel
theorem dL_law_824 : decode cL_law 824 = .ok (.iload_n 3, 1) := by decide +kernel
theorem dL_law_825 : decode cL_law 825 = .ok (.iconst 2, 1) := by decide +kernel
theorem dL_law_826 : decode cL_law 826 = .ok (.iadd, 1) := by decide +kernel
theorem dL_law_827 : decode cL_law 827 = .ok (.iaload, 1) := by decide +kernel
theorem dL_law_828 : decode cL_law 828 = .ok (.invokevirtual 120, 3) := by decide +kernel
theorem dL_law_831 : decode cL_law 831 = .ok (.if_icmp .eq 88, 3) := by decide +kernel
theorem dL_law_834 : decode cL_law 834 = .ok (.iconst 0, 1) := by decide +kernel
theorem dL_law_835 : decode cL_law 835 = .ok (.ireturn, 1) := by decide +kernel
theorem dL_law_836 : decode cL_law 836 = .ok (.aload_n 1, 1) := by decide +kernel
theorem dL_law_837 : decode cL_law 837 = .ok (.aload_n 0, 1) := by decide +kernel
theorem dL_law_838 : decode cL_law 838 = .ok (.iload_n 3, 1) := by decide +kernel
theorem dL_law_839 : decode cL_law 839 = .ok (.iconst 1, 1) := by decide +kernel
theorem dL_law_840 : decode cL_law 840 = .ok (.iadd, 1) := by decide +kernel
theorem dL_law_841 : decode cL_law 841 = .ok (.iaload, 1) := by decide +kernel
theorem dL_law_842 : decode cL_law 842 = .ok (.invokevirtual 121, 3) := by decide +kernel
theorem dL_law_845 : decode cL_law 845 = .ok (.aload_n 2, 1) := by decide +kernel
theorem dL_law_846 : decode cL_law 846 = .ok (.aload_n 0, 1) := by decide +kernel
theorem dL_law_847 : decode cL_law 847 = .ok (.iload_n 3, 1) := by decide +kernel
theorem dL_law_848 : decode cL_law 848 = .ok (.iconst 1, 1) := by decide +kernel
theorem dL_law_849 : decode cL_law 849 = .ok (.iadd, 1) := by decide +kernel
theorem dL_law_850 : decode cL_law 850 = .ok (.iaload, 1) := by decide +kernel
theorem dL_law_851 : decode cL_law 851 = .ok (.invokevirtual 124, 3) := by decide +kernel
theorem dL_law_854 : decode cL_law 854 = .ok (.if_icmp .eq 65, 3) := by decide +kernel
theorem dL_law_857 : decode cL_law 857 = .ok (.iconst 0, 1) := by decide +kernel
theorem dL_law_858 : decode cL_law 858 = .ok (.ireturn, 1) := by decide +kernel
theorem dL_law_859 : decode cL_law 859 = .ok (.aload_n 1, 1) := by decide +kernel
theorem dL_law_860 : decode cL_law 860 = .ok (.aload_n 0, 1) := by decide +kernel
theorem dL_law_861 : decode cL_law 861 = .ok (.iload_n 3, 1) := by decide +kernel
theorem dL_law_862 : decode cL_law 862 = .ok (.iconst 1, 1) := by decide +kernel
theorem dL_law_863 : decode cL_law 863 = .ok (.iadd, 1) := by decide +kernel
theorem dL_law_864 : decode cL_law 864 = .ok (.iaload, 1) := by decide +kernel
theorem dL_law_865 : decode cL_law 865 = .ok (.invokevirtual 125, 3) := by decide +kernel
theorem dL_law_868 : decode cL_law 868 = .ok (.aload_n 2, 1) := by decide +kernel
theorem dL_law_869 : decode cL_law 869 = .ok (.aload_n 0, 1) := by decide +kernel
theorem dL_law_870 : decode cL_law 870 = .ok (.iload_n 3, 1) := by decide +kernel
theorem dL_law_871 : decode cL_law 871 = .ok (.iconst 1, 1) := by decide +kernel
theorem dL_law_872 : decode cL_law 872 = .ok (.iadd, 1) := by decide +kernel
theorem dL_law_873 : decode cL_law 873 = .ok (.iaload, 1) := by decide +kernel
theorem dL_law_874 : decode cL_law 874 = .ok (.invokevirtual 128, 3) := by decide +kernel
theorem dL_law_877 : decode cL_law 877 = .ok (.if_icmp .eq 42, 3) := by decide +kernel
theorem dL_law_880 : decode cL_law 880 = .ok (.iconst 0, 1) := by decide +kernel
theorem dL_law_881 : decode cL_law 881 = .ok (.ireturn, 1) := by decide +kernel
theorem dL_law_882 : decode cL_law 882 = .ok (.aload_n 1, 1) := by decide +kernel
theorem dL_law_883 : decode cL_law 883 = .ok (.aload_n 0, 1) := by decide +kernel
theorem dL_law_884 : decode cL_law 884 = .ok (.iload_n 3, 1) := by decide +kernel
theorem dL_law_885 : decode cL_law 885 = .ok (.iconst 1, 1) := by decide +kernel
theorem dL_law_886 : decode cL_law 886 = .ok (.iadd, 1) := by decide +kernel
theorem dL_law_887 : decode cL_law 887 = .ok (.iaload, 1) := by decide +kernel
theorem dL_law_888 : decode cL_law 888 = .ok (.invokevirtual 129, 3) := by decide +kernel
theorem dL_law_891 : decode cL_law 891 = .ok (.aload_n 2, 1) := by decide +kernel
theorem dL_law_892 : decode cL_law 892 = .ok (.aload_n 0, 1) := by decide +kernel
theorem dL_law_893 : decode cL_law 893 = .ok (.iload_n 3, 1) := by decide +kernel
theorem dL_law_894 : decode cL_law 894 = .ok (.iconst 1, 1) := by decide +kernel
theorem dL_law_895 : decode cL_law 895 = .ok (.iadd, 1) := by decide +kernel
theorem dL_law_896 : decode cL_law 896 = .ok (.iaload, 1) := by decide +kernel
theorem dL_law_897 : decode cL_law 897 = .ok (.invokevirtual 132, 3) := by decide +kernel
theorem dL_law_900 : decode cL_law 900 = .ok (.if_icmp .eq 19, 3) := by decide +kernel
theorem dL_law_903 : decode cL_law 903 = .ok (.iconst 0, 1) := by decide +kernel
theorem dL_law_904 : decode cL_law 904 = .ok (.ireturn, 1) := by decide +kernel
theorem dL_law_905 : decode cL_law 905 = .ok (.aload_n 1, 1) := by decide +kernel
theorem dL_law_906 : decode cL_law 906 = .ok (.invokevirtual 133, 3) := by decide +kernel
theorem dL_law_909 : decode cL_law 909 = .ok (.aload_n 2, 1) := by decide +kernel
theorem dL_law_910 : decode cL_law 910 = .ok (.invokevirtual 137, 3) := by decide +kernel
theorem dL_law_913 : decode cL_law 913 = .ok (.lcmp, 1) := by decide +kernel
theorem dL_law_914 : decode cL_law 914 = .ok (.ifCond .eq 5, 3) := by decide +kernel
theorem dL_law_917 : decode cL_law 917 = .ok (.iconst 0, 1) := by decide +kernel
theorem dL_law_918 : decode cL_law 918 = .ok (.ireturn, 1) := by decide +kernel
theorem dL_law_919 : decode cL_law 919 = .ok (.iinc 3 4, 3) := by decide +kernel
theorem dL_law_922 : decode cL_law 922 = .ok (.goto (-904), 3) := by decide +kernel
theorem dL_law_925 : decode cL_law 925 = .ok (.iconst 1, 1) := by decide +kernel
theorem dL_law_926 : decode cL_law 926 = .ok (.ireturn, 1) := by decide +kernel
def f_law_L18 (L : Nat) (f : Nat → Int32) : Nat → PH → Int32 → Option Bool
  | 0, _, _ => none
  | n + 1, P, x3 =>
    (if ((Int32.ofNat L) - (4 : Int32)) < x3 then some true else (if (x3 < 0 ∨ L ≤ x3.toNatClampNeg) then none else (if ((f x3.toNatClampNeg) &&& (31 : Int32)) = (0 : Int32) then (if ((x3 + (1 : Int32)) < 0 ∨ L ≤ (x3 + (1 : Int32)).toNatClampNeg) then none else ((f_X9_type P 0 (f (x3 + (1 : Int32)).toNatClampNeg)).bind fun q2 => (if ((x3 + (1 : Int32)) < 0 ∨ L ≤ (x3 + (1 : Int32)).toNatClampNeg) then none else ((f_X10_type q2.2 47 (f (x3 + (1 : Int32)).toNatClampNeg)).bind fun q3 => (if q2.1 = q3.1 then f_law_L18 L f n q3.2 (x3 + (4 : Int32)) else some false))))) else (if ((f x3.toNatClampNeg) &&& (31 : Int32)) = (1 : Int32) then ((f_X9_clear P 0).bind fun q5 => ((f_X10_clear q5.2 47).bind fun q6 => (if q5.1 = q6.1 then f_law_L18 L f n q6.2 (x3 + (4 : Int32)) else some false))) else (if ((f x3.toNatClampNeg) &&& (31 : Int32)) = (2 : Int32) then ((f_X9_house P 0).bind fun q8 => ((f_X10_house q8.2 47).bind fun q9 => (if q8.1 = q9.1 then f_law_L18 L f n q9.2 (x3 + (4 : Int32)) else some false))) else (if ((f x3.toNatClampNeg) &&& (31 : Int32)) = (3 : Int32) then (if ((x3 + (1 : Int32)) < 0 ∨ L ≤ (x3 + (1 : Int32)).toNatClampNeg) then none else (if ((x3 + (2 : Int32)) < 0 ∨ L ≤ (x3 + (2 : Int32)).toNatClampNeg) then none else ((f_X9_person P 0 (f (x3 + (1 : Int32)).toNatClampNeg) (f (x3 + (2 : Int32)).toNatClampNeg)).bind fun q11 => (if ((x3 + (1 : Int32)) < 0 ∨ L ≤ (x3 + (1 : Int32)).toNatClampNeg) then none else (if ((x3 + (2 : Int32)) < 0 ∨ L ≤ (x3 + (2 : Int32)).toNatClampNeg) then none else ((f_X10_person P 47 (f (x3 + (1 : Int32)).toNatClampNeg) (f (x3 + (2 : Int32)).toNatClampNeg)).bind fun q12 => (if q11 = q12.1 then f_law_L18 L f n q12.2 (x3 + (4 : Int32)) else some false))))))) else (if ((f x3.toNatClampNeg) &&& (31 : Int32)) = (4 : Int32) then (if ((x3 + (1 : Int32)) < 0 ∨ L ≤ (x3 + (1 : Int32)).toNatClampNeg) then none else (if ((x3 + (2 : Int32)) < 0 ∨ L ≤ (x3 + (2 : Int32)).toNatClampNeg) then none else ((f_X9_room P 0 (f (x3 + (1 : Int32)).toNatClampNeg) (f (x3 + (2 : Int32)).toNatClampNeg)).bind fun q14 => (if ((x3 + (1 : Int32)) < 0 ∨ L ≤ (x3 + (1 : Int32)).toNatClampNeg) then none else (if ((x3 + (2 : Int32)) < 0 ∨ L ≤ (x3 + (2 : Int32)).toNatClampNeg) then none else ((f_X10_room P 47 (f (x3 + (1 : Int32)).toNatClampNeg) (f (x3 + (2 : Int32)).toNatClampNeg)).bind fun q15 => (if q14 = q15.1 then f_law_L18 L f n q15.2 (x3 + (4 : Int32)) else some false))))))) else (if ((f x3.toNatClampNeg) &&& (31 : Int32)) = (5 : Int32) then (if ((x3 + (1 : Int32)) < 0 ∨ L ≤ (x3 + (1 : Int32)).toNatClampNeg) then none else (if ((x3 + (2 : Int32)) < 0 ∨ L ≤ (x3 + (2 : Int32)).toNatClampNeg) then none else ((f_X9_right P 0 (f (x3 + (1 : Int32)).toNatClampNeg) (f (x3 + (2 : Int32)).toNatClampNeg)).bind fun q17 => (if ((x3 + (1 : Int32)) < 0 ∨ L ≤ (x3 + (1 : Int32)).toNatClampNeg) then none else (if ((x3 + (2 : Int32)) < 0 ∨ L ≤ (x3 + (2 : Int32)).toNatClampNeg) then none else ((f_X10_right P 47 (f (x3 + (1 : Int32)).toNatClampNeg) (f (x3 + (2 : Int32)).toNatClampNeg)).bind fun q18 => (if q17 = q18 then f_law_L18 L f n P (x3 + (4 : Int32)) else some false))))))) else (if ((f x3.toNatClampNeg) &&& (31 : Int32)) = (6 : Int32) then (if ((x3 + (1 : Int32)) < 0 ∨ L ≤ (x3 + (1 : Int32)).toNatClampNeg) then none else ((f_X9_now P 0 (f (x3 + (1 : Int32)).toNatClampNeg)).bind fun q20 => (if ((x3 + (1 : Int32)) < 0 ∨ L ≤ (x3 + (1 : Int32)).toNatClampNeg) then none else ((f_X10_now P 47 (f (x3 + (1 : Int32)).toNatClampNeg)).bind fun q21 => (if q20 = q21.1 then f_law_L18 L f n q21.2 (x3 + (4 : Int32)) else some false))))) else (if ((f x3.toNatClampNeg) &&& (31 : Int32)) = (7 : Int32) then ((f_X9_day P 0).bind fun q23 => ((f_X10_day q23.2 47).bind fun q24 => (if q23.1 = q24.1 then f_law_L18 L f n q24.2 (x3 + (4 : Int32)) else some false))) else (if ((f x3.toNatClampNeg) &&& (31 : Int32)) = (8 : Int32) then (if ((x3 + (1 : Int32)) < 0 ∨ L ≤ (x3 + (1 : Int32)).toNatClampNeg) then none else ((f_X9_dies P 0 (f (x3 + (1 : Int32)).toNatClampNeg)).bind fun q26 => (if ((x3 + (1 : Int32)) < 0 ∨ L ≤ (x3 + (1 : Int32)).toNatClampNeg) then none else ((f_X10_dies q26.2 47 (f (x3 + (1 : Int32)).toNatClampNeg)).bind fun q27 => (if q26.1 = q27.1 then f_law_L18 L f n q27.2 (x3 + (4 : Int32)) else some false))))) else (if ((f x3.toNatClampNeg) &&& (31 : Int32)) = (9 : Int32) then (if ((x3 + (1 : Int32)) < 0 ∨ L ≤ (x3 + (1 : Int32)).toNatClampNeg) then none else (if ((x3 + (2 : Int32)) < 0 ∨ L ≤ (x3 + (2 : Int32)).toNatClampNeg) then none else (if ((x3 + (3 : Int32)) < 0 ∨ L ≤ (x3 + (3 : Int32)).toNatClampNeg) then none else ((f_X9_grants P 0 (f (x3 + (1 : Int32)).toNatClampNeg) (f (x3 + (2 : Int32)).toNatClampNeg) (f (x3 + (3 : Int32)).toNatClampNeg)).bind fun q29 => (if ((x3 + (1 : Int32)) < 0 ∨ L ≤ (x3 + (1 : Int32)).toNatClampNeg) then none else (if ((x3 + (2 : Int32)) < 0 ∨ L ≤ (x3 + (2 : Int32)).toNatClampNeg) then none else (if ((x3 + (3 : Int32)) < 0 ∨ L ≤ (x3 + (3 : Int32)).toNatClampNeg) then none else ((f_X10_grants q29.2 47 (f (x3 + (1 : Int32)).toNatClampNeg) (f (x3 + (2 : Int32)).toNatClampNeg) (f (x3 + (3 : Int32)).toNatClampNeg)).bind fun q30 => (if q29.1 = q30.1 then f_law_L18 L f n q30.2 (x3 + (4 : Int32)) else some false))))))))) else (if ((f x3.toNatClampNeg) &&& (31 : Int32)) = (10 : Int32) then (if ((x3 + (1 : Int32)) < 0 ∨ L ≤ (x3 + (1 : Int32)).toNatClampNeg) then none else (if ((x3 + (2 : Int32)) < 0 ∨ L ≤ (x3 + (2 : Int32)).toNatClampNeg) then none else ((f_X9_exchanges P 0 (f (x3 + (1 : Int32)).toNatClampNeg) (f (x3 + (2 : Int32)).toNatClampNeg)).bind fun q32 => (if ((x3 + (1 : Int32)) < 0 ∨ L ≤ (x3 + (1 : Int32)).toNatClampNeg) then none else (if ((x3 + (2 : Int32)) < 0 ∨ L ≤ (x3 + (2 : Int32)).toNatClampNeg) then none else ((f_X10_exchanges q32.2 47 (f (x3 + (1 : Int32)).toNatClampNeg) (f (x3 + (2 : Int32)).toNatClampNeg)).bind fun q33 => (if q32.1 = q33.1 then f_law_L18 L f n q33.2 (x3 + (4 : Int32)) else some false))))))) else (if ((f x3.toNatClampNeg) &&& (31 : Int32)) = (11 : Int32) then (if ((x3 + (1 : Int32)) < 0 ∨ L ≤ (x3 + (1 : Int32)).toNatClampNeg) then none else (if ((x3 + (2 : Int32)) < 0 ∨ L ≤ (x3 + (2 : Int32)).toNatClampNeg) then none else ((f_X9_wills P 0 (f (x3 + (1 : Int32)).toNatClampNeg) (f (x3 + (2 : Int32)).toNatClampNeg)).bind fun q35 => (if ((x3 + (1 : Int32)) < 0 ∨ L ≤ (x3 + (1 : Int32)).toNatClampNeg) then none else (if ((x3 + (2 : Int32)) < 0 ∨ L ≤ (x3 + (2 : Int32)).toNatClampNeg) then none else ((f_X10_wills q35.2 47 (f (x3 + (1 : Int32)).toNatClampNeg) (f (x3 + (2 : Int32)).toNatClampNeg)).bind fun q36 => (if q35.1 = q36.1 then f_law_L18 L f n q36.2 (x3 + (4 : Int32)) else some false))))))) else (if ((f x3.toNatClampNeg) &&& (31 : Int32)) = (12 : Int32) then ((f_X9_undo P 0).bind fun q38 => ((f_X10_undo q38.2 47).bind fun q39 => (if q38.1 = q39.1 then f_law_L18 L f n q39.2 (x3 + (4 : Int32)) else some false))) else (if ((f x3.toNatClampNeg) &&& (31 : Int32)) = (13 : Int32) then (if ((x3 + (1 : Int32)) < 0 ∨ L ≤ (x3 + (1 : Int32)).toNatClampNeg) then none else ((f_X9_fromWhen P 0 (f (x3 + (1 : Int32)).toNatClampNeg)).bind fun q41 => (if ((x3 + (1 : Int32)) < 0 ∨ L ≤ (x3 + (1 : Int32)).toNatClampNeg) then none else ((f_X10_fromWhen P 47 (f (x3 + (1 : Int32)).toNatClampNeg)).bind fun q42 => (if q41 = q42.1 then f_law_L18 L f n q42.2 (x3 + (4 : Int32)) else some false))))) else (if ((f x3.toNatClampNeg) &&& (31 : Int32)) = (14 : Int32) then (if ((x3 + (1 : Int32)) < 0 ∨ L ≤ (x3 + (1 : Int32)).toNatClampNeg) then none else ((f_X9_needs P 0 (f (x3 + (1 : Int32)).toNatClampNeg)).bind fun q44 => (if ((x3 + (1 : Int32)) < 0 ∨ L ≤ (x3 + (1 : Int32)).toNatClampNeg) then none else ((f_X10_needs P 47 (f (x3 + (1 : Int32)).toNatClampNeg)).bind fun q45 => (if q44 = q45.1 then f_law_L18 L f n q45.2 (x3 + (4 : Int32)) else some false))))) else (if ((f x3.toNatClampNeg) &&& (31 : Int32)) = (15 : Int32) then (if ((x3 + (1 : Int32)) < 0 ∨ L ≤ (x3 + (1 : Int32)).toNatClampNeg) then none else ((f_X9_opens P 0 (f (x3 + (1 : Int32)).toNatClampNeg)).bind fun q47 => (if ((x3 + (1 : Int32)) < 0 ∨ L ≤ (x3 + (1 : Int32)).toNatClampNeg) then none else ((f_X10_opens P 47 (f (x3 + (1 : Int32)).toNatClampNeg)).bind fun q48 => (if q47 = q48.1 then f_law_L18 L f n q48.2 (x3 + (4 : Int32)) else some false))))) else (if ((f x3.toNatClampNeg) &&& (31 : Int32)) = (16 : Int32) then ((f_X9_exchange P 0).bind fun q50 => ((f_X10_exchange q50.2 47).bind fun q51 => (if q50.1 = q51.1 then f_law_L18 L f n q51.2 (x3 + (4 : Int32)) else some false))) else (if ((f x3.toNatClampNeg) &&& (31 : Int32)) = (17 : Int32) then ((f_X9_holdsOut P 0).bind fun q53 => ((f_X10_holdsOut P 47).bind fun q54 => (if q53 = q54.1 then f_law_L18 L f n q54.2 (x3 + (4 : Int32)) else some false))) else (if ((f x3.toNatClampNeg) &&& (31 : Int32)) = (18 : Int32) then (if ((x3 + (1 : Int32)) < 0 ∨ L ≤ (x3 + (1 : Int32)).toNatClampNeg) then none else (if ((x3 + (2 : Int32)) < 0 ∨ L ≤ (x3 + (2 : Int32)).toNatClampNeg) then none else ((f_X9_dinner P 0 (f (x3 + (1 : Int32)).toNatClampNeg) (f (x3 + (2 : Int32)).toNatClampNeg)).bind fun q56 => (if ((x3 + (1 : Int32)) < 0 ∨ L ≤ (x3 + (1 : Int32)).toNatClampNeg) then none else (if ((x3 + (2 : Int32)) < 0 ∨ L ≤ (x3 + (2 : Int32)).toNatClampNeg) then none else ((f_X10_dinner P 47 (f (x3 + (1 : Int32)).toNatClampNeg) (f (x3 + (2 : Int32)).toNatClampNeg)).bind fun q57 => (if q56 = q57.1 then f_law_L18 L f n q57.2 (x3 + (4 : Int32)) else some false))))))) else (if ((f x3.toNatClampNeg) &&& (31 : Int32)) = (19 : Int32) then (if ((x3 + (1 : Int32)) < 0 ∨ L ≤ (x3 + (1 : Int32)).toNatClampNeg) then none else (if ((x3 + (2 : Int32)) < 0 ∨ L ≤ (x3 + (2 : Int32)).toNatClampNeg) then none else (if ((x3 + (3 : Int32)) < 0 ∨ L ≤ (x3 + (3 : Int32)).toNatClampNeg) then none else ((f_X9_seen P 0 (f (x3 + (1 : Int32)).toNatClampNeg) (f (x3 + (2 : Int32)).toNatClampNeg) (f (x3 + (3 : Int32)).toNatClampNeg)).bind fun q59 => (if ((x3 + (1 : Int32)) < 0 ∨ L ≤ (x3 + (1 : Int32)).toNatClampNeg) then none else (if ((x3 + (2 : Int32)) < 0 ∨ L ≤ (x3 + (2 : Int32)).toNatClampNeg) then none else (if ((x3 + (3 : Int32)) < 0 ∨ L ≤ (x3 + (3 : Int32)).toNatClampNeg) then none else ((f_X10_seen q59.2 47 (f (x3 + (1 : Int32)).toNatClampNeg) (f (x3 + (2 : Int32)).toNatClampNeg) (f (x3 + (3 : Int32)).toNatClampNeg)).bind fun q60 => (if q59.1 = q60.1 then f_law_L18 L f n q60.2 (x3 + (4 : Int32)) else some false))))))))) else (if ((f x3.toNatClampNeg) &&& (31 : Int32)) = (20 : Int32) then ((f_X9_forget P 0).bind fun q62 => ((f_X10_forget q62.2 47).bind fun q63 => (if q62.1 = q63.1 then f_law_L18 L f n q63.2 (x3 + (4 : Int32)) else some false))) else (if ((f x3.toNatClampNeg) &&& (31 : Int32)) = (21 : Int32) then (if ((x3 + (1 : Int32)) < 0 ∨ L ≤ (x3 + (1 : Int32)).toNatClampNeg) then none else ((f_X9_said P 0 (f (x3 + (1 : Int32)).toNatClampNeg)).bind fun q65 => (if ((x3 + (1 : Int32)) < 0 ∨ L ≤ (x3 + (1 : Int32)).toNatClampNeg) then none else ((f_X10_said q65.2 47 (f (x3 + (1 : Int32)).toNatClampNeg)).bind fun q66 => (if q65.1 = q66.1 then f_law_L18 L f n q66.2 (x3 + (4 : Int32)) else some false))))) else (if ((f x3.toNatClampNeg) &&& (31 : Int32)) = (22 : Int32) then (if ((x3 + (1 : Int32)) < 0 ∨ L ≤ (x3 + (1 : Int32)).toNatClampNeg) then none else ((f_X9_last P 0 (f (x3 + (1 : Int32)).toNatClampNeg)).bind fun q68 => (if ((x3 + (1 : Int32)) < 0 ∨ L ≤ (x3 + (1 : Int32)).toNatClampNeg) then none else ((f_X10_last P 47 (f (x3 + (1 : Int32)).toNatClampNeg)).bind fun q69 => (if q68 = q69.1 then f_law_L18 L f n q69.2 (x3 + (4 : Int32)) else some false))))) else (if ((f x3.toNatClampNeg) &&& (31 : Int32)) = (23 : Int32) then (if ((x3 + (1 : Int32)) < 0 ∨ L ≤ (x3 + (1 : Int32)).toNatClampNeg) then none else (if ((x3 + (2 : Int32)) < 0 ∨ L ≤ (x3 + (2 : Int32)).toNatClampNeg) then none else ((f_X9_waits P 0 (f (x3 + (1 : Int32)).toNatClampNeg) (f (x3 + (2 : Int32)).toNatClampNeg)).bind fun q71 => (if ((x3 + (1 : Int32)) < 0 ∨ L ≤ (x3 + (1 : Int32)).toNatClampNeg) then none else (if ((x3 + (2 : Int32)) < 0 ∨ L ≤ (x3 + (2 : Int32)).toNatClampNeg) then none else ((f_X10_waits P 47 (f (x3 + (1 : Int32)).toNatClampNeg) (f (x3 + (2 : Int32)).toNatClampNeg)).bind fun q72 => (if q71 = q72.1 then f_law_L18 L f n q72.2 (x3 + (4 : Int32)) else some false))))))) else (if ((f x3.toNatClampNeg) &&& (31 : Int32)) = (24 : Int32) then (if ((x3 + (1 : Int32)) < 0 ∨ L ≤ (x3 + (1 : Int32)).toNatClampNeg) then none else (if ((x3 + (2 : Int32)) < 0 ∨ L ≤ (x3 + (2 : Int32)).toNatClampNeg) then none else (if ((x3 + (3 : Int32)) < 0 ∨ L ≤ (x3 + (3 : Int32)).toNatClampNeg) then none else ((f_X9_odds P 0 (f (x3 + (1 : Int32)).toNatClampNeg) (f (x3 + (2 : Int32)).toNatClampNeg) (f (x3 + (3 : Int32)).toNatClampNeg)).bind fun q74 => (if ((x3 + (1 : Int32)) < 0 ∨ L ≤ (x3 + (1 : Int32)).toNatClampNeg) then none else (if ((x3 + (2 : Int32)) < 0 ∨ L ≤ (x3 + (2 : Int32)).toNatClampNeg) then none else (if ((x3 + (3 : Int32)) < 0 ∨ L ≤ (x3 + (3 : Int32)).toNatClampNeg) then none else ((f_X10_odds P 47 (f (x3 + (1 : Int32)).toNatClampNeg) (f (x3 + (2 : Int32)).toNatClampNeg) (f (x3 + (3 : Int32)).toNatClampNeg)).bind fun q75 => (if q74 = q75.1 then f_law_L18 L f n q75.2 (x3 + (4 : Int32)) else some false))))))))) else (if ((f x3.toNatClampNeg) &&& (31 : Int32)) = (25 : Int32) then (if ((x3 + (1 : Int32)) < 0 ∨ L ≤ (x3 + (1 : Int32)).toNatClampNeg) then none else (if ((x3 + (2 : Int32)) < 0 ∨ L ≤ (x3 + (2 : Int32)).toNatClampNeg) then none else ((f_X9_rate P 0 (f (x3 + (1 : Int32)).toNatClampNeg) (f (x3 + (2 : Int32)).toNatClampNeg)).bind fun q77 => (if ((x3 + (1 : Int32)) < 0 ∨ L ≤ (x3 + (1 : Int32)).toNatClampNeg) then none else (if ((x3 + (2 : Int32)) < 0 ∨ L ≤ (x3 + (2 : Int32)).toNatClampNeg) then none else ((f_X10_rate q77.2 47 (f (x3 + (1 : Int32)).toNatClampNeg) (f (x3 + (2 : Int32)).toNatClampNeg)).bind fun q78 => (if q77.1 = q78.1 then f_law_L18 L f n q78.2 (x3 + (4 : Int32)) else some false))))))) else (if ((f x3.toNatClampNeg) &&& (31 : Int32)) = (26 : Int32) then (if ((x3 + (1 : Int32)) < 0 ∨ L ≤ (x3 + (1 : Int32)).toNatClampNeg) then none else ((f_X9_keep P 0 (f (x3 + (1 : Int32)).toNatClampNeg)).bind fun q80 => (if ((x3 + (1 : Int32)) < 0 ∨ L ≤ (x3 + (1 : Int32)).toNatClampNeg) then none else ((f_X10_keep q80.2 47 (f (x3 + (1 : Int32)).toNatClampNeg)).bind fun q81 => (if q80.1 = q81.1 then f_law_L18 L f n q81.2 (x3 + (4 : Int32)) else some false))))) else (if ((f x3.toNatClampNeg) &&& (31 : Int32)) = (27 : Int32) then (if ((x3 + (1 : Int32)) < 0 ∨ L ≤ (x3 + (1 : Int32)).toNatClampNeg) then none else ((f_X9_back P 0 (f (x3 + (1 : Int32)).toNatClampNeg)).bind fun q83 => (if ((x3 + (1 : Int32)) < 0 ∨ L ≤ (x3 + (1 : Int32)).toNatClampNeg) then none else ((f_X10_back q83.2 47 (f (x3 + (1 : Int32)).toNatClampNeg)).bind fun q84 => (if q83.1 = q84.1 then f_law_L18 L f n q84.2 (x3 + (4 : Int32)) else some false))))) else (if ((f x3.toNatClampNeg) &&& (31 : Int32)) = (28 : Int32) then (if ((x3 + (1 : Int32)) < 0 ∨ L ≤ (x3 + (1 : Int32)).toNatClampNeg) then none else ((f_X9_count P 0 (f (x3 + (1 : Int32)).toNatClampNeg)).bind fun q86 => (if ((x3 + (1 : Int32)) < 0 ∨ L ≤ (x3 + (1 : Int32)).toNatClampNeg) then none else ((f_X10_count P 47 (f (x3 + (1 : Int32)).toNatClampNeg)).bind fun q87 => (if q86 = q87 then f_law_L18 L f n P (x3 + (4 : Int32)) else some false))))) else (if ((f x3.toNatClampNeg) &&& (31 : Int32)) = (29 : Int32) then ((f_X9_trace P 0).bind fun q89 => ((f_X10_trace P 47).bind fun q90 => (if (lg_cmp q89 q90) = 0 then f_law_L18 L f n P (x3 + (4 : Int32)) else some false))) else f_law_L18 L f n P (x3 + (4 : Int32))))))))))))))))))))))))))))))))))
theorem w_law_L18 {x : Fx} {E : Ev} {b L : Nat} {f : Nat → Int32} (S : ZS x E room_1 code 4 RL ret) (X : LWs x b L f) : ∀ (n : Nat) (P : PH) (x3 : Int32), f_law_L18 L f n P x3 = some true → Wz x E 4 (lw_Z (xb x) #[Value.ref b] (xs x)) P 18 [(0, .ref b), (1, .ref (ad E 0)), (2, .ref (ad E 47)), (3, .int x3)] [] := by
  intro n
  induction n with
  | zero => intro P x3 hf; cases hf
  | succ n ih =>
    intro P x3 hf
    unfold f_law_L18 at hf
    refine z_iload_n S 3 dL_law_18 rfl rfl ?_
    refine z_aload_n S 0 dL_law_19 rfl rfl ?_
    refine z_slen S X dL_law_20 ?_
    refine z_iconst (v := 4) S dL_law_21 (by decide) ?_
    refine z_isub S dL_law_22 ?_
    refine z_icmp_gt (tgt := 925) S dL_law_23 (by decide) hf (fun hf => ?_) (fun hf => ?_)
    · refine z_iconst (v := 1) S dL_law_925 (by decide) ?_
      exact z_lawret S X dL_law_926
    · refine z_aload_n S 0 dL_law_26 rfl rfl ?_
      refine z_iload_n S 3 dL_law_27 rfl rfl ?_
      refine z_sld S X dL_law_28 hf (fun hf => ?_)
      refine z_bipush (v := 31) S dL_law_29 (by decide) ?_
      refine z_iand S dL_law_31 ?_
      refine z_tif hf (fun h1 hf => ?_) (fun h1 hf => ?_)
      · refine z_tabIn (tgt := 168) S 0 dL_law_32 (by rw [h1]; rfl) (by decide) rfl (by decide) ?_
        refine z_aload_n S 1 dL_law_168 rfl rfl ?_
        refine z_aload_n S 0 dL_law_169 rfl rfl ?_
        refine z_iload_n S 3 dL_law_170 rfl rfl ?_
        refine z_iconst (v := 1) S dL_law_171 (by decide) ?_
        refine z_iadd S dL_law_172 ?_
        refine z_sld S X dL_law_173 hf (fun hf => ?_)
        refine z_callVI (rc := r_X9_type) [.int (f (x3 + (1 : Int32)).toNatClampNeg)] S mo_X9_type wd277 wd278 wd276 ok_root (by decide) cl_7 rfl rfl (by decide) (z_roomL S) rfl (Nat.le_of_ble_eq_true rfl) rfl dL_law_174 (fun q => q.1) (fun q => q.2) (fun q hq => m_X9_type (xl x) E _ _ _ ok_root q hq) hf (fun q2 hf => ?_)
        refine z_aload_n S 2 dL_law_177 rfl rfl ?_
        refine z_aload_n S 0 dL_law_178 rfl rfl ?_
        refine z_iload_n S 3 dL_law_179 rfl rfl ?_
        refine z_iconst (v := 1) S dL_law_180 (by decide) ?_
        refine z_iadd S dL_law_181 ?_
        refine z_sld S X dL_law_182 hf (fun hf => ?_)
        refine z_callVI (rc := r_X10_type) [.int (f (x3 + (1 : Int32)).toNatClampNeg)] S mo_X10_type wd754 wd755 wd753 ok_model (by decide) cl_8 rfl rfl (by decide) (z_roomL S) rfl (Nat.le_of_ble_eq_true rfl) rfl dL_law_183 (fun q => q.1) (fun q => q.2) (fun q hq => m_X10_type (xl x) E _ _ _ ok_model q hq) hf (fun q3 hf => ?_)
        refine z_icmp_eq (tgt := 919) S dL_law_186 (by decide) hf (fun hf => ?_) (fun hf => ?_)
        · refine z_iinc (v := (x3 + (4 : Int32))) (lv' := [(3, .int (x3 + (4 : Int32))), (0, .ref b), (1, .ref (ad E 0)), (2, .ref (ad E 47))]) S 3 dL_law_919 rfl (by rfl) (by decide) rfl ?_
          refine z_goto (tgt := 18) S dL_law_922 (by decide) ?_
          refine z_sub [1, 2, 3, 0] rfl ?_
          exact ih q3.2 (x3 + (4 : Int32)) hf
        · refine z_iconst (v := 0) S dL_law_189 (by decide) ?_
          cases hf
      refine z_tif hf (fun h4 hf => ?_) (fun h4 hf => ?_)
      · refine z_tabIn (tgt := 191) S 1 dL_law_32 (by rw [h4]; rfl) (by decide) rfl (by decide) ?_
        refine z_aload_n S 1 dL_law_191 rfl rfl ?_
        refine z_callVI (rc := r_X9_clear) [] S mo_X9_clear wd285 wd286 wd284 ok_root (by decide) cl_7 rfl rfl (by decide) (z_roomL S) rfl (Nat.le_of_ble_eq_true rfl) rfl dL_law_192 (fun q => q.1) (fun q => q.2) (fun q hq => m_X9_clear (xl x) E _ _ ok_root q hq) hf (fun q5 hf => ?_)
        refine z_aload_n S 2 dL_law_195 rfl rfl ?_
        refine z_callVI (rc := r_X10_clear) [] S mo_X10_clear wd761 wd762 wd760 ok_model (by decide) cl_8 rfl rfl (by decide) (z_roomL S) rfl (Nat.le_of_ble_eq_true rfl) rfl dL_law_196 (fun q => q.1) (fun q => q.2) (fun q hq => m_X10_clear (xl x) E _ _ ok_model q hq) hf (fun q6 hf => ?_)
        refine z_icmp_eq (tgt := 919) S dL_law_199 (by decide) hf (fun hf => ?_) (fun hf => ?_)
        · refine z_iinc (v := (x3 + (4 : Int32))) (lv' := [(3, .int (x3 + (4 : Int32))), (0, .ref b), (1, .ref (ad E 0)), (2, .ref (ad E 47))]) S 3 dL_law_919 rfl (by rfl) (by decide) rfl ?_
          refine z_goto (tgt := 18) S dL_law_922 (by decide) ?_
          refine z_sub [1, 2, 3, 0] rfl ?_
          exact ih q6.2 (x3 + (4 : Int32)) hf
        · refine z_iconst (v := 0) S dL_law_202 (by decide) ?_
          cases hf
      refine z_tif hf (fun h7 hf => ?_) (fun h7 hf => ?_)
      · refine z_tabIn (tgt := 204) S 2 dL_law_32 (by rw [h7]; rfl) (by decide) rfl (by decide) ?_
        refine z_aload_n S 1 dL_law_204 rfl rfl ?_
        refine z_callVI (rc := r_X9_house) [] S mo_X9_house wd289 wd290 wd288 ok_root (by decide) cl_7 rfl rfl (by decide) (z_roomL S) rfl (Nat.le_of_ble_eq_true rfl) rfl dL_law_205 (fun q => q.1) (fun q => q.2) (fun q hq => m_X9_house (xl x) E _ _ ok_root q hq) hf (fun q8 hf => ?_)
        refine z_aload_n S 2 dL_law_208 rfl rfl ?_
        refine z_callVI (rc := r_X10_house) [] S mo_X10_house wd765 wd766 wd764 ok_model (by decide) cl_8 rfl rfl (by decide) (z_roomL S) rfl (Nat.le_of_ble_eq_true rfl) rfl dL_law_209 (fun q => q.1) (fun q => q.2) (fun q hq => m_X10_house (xl x) E _ _ ok_model q hq) hf (fun q9 hf => ?_)
        refine z_icmp_eq (tgt := 919) S dL_law_212 (by decide) hf (fun hf => ?_) (fun hf => ?_)
        · refine z_iinc (v := (x3 + (4 : Int32))) (lv' := [(3, .int (x3 + (4 : Int32))), (0, .ref b), (1, .ref (ad E 0)), (2, .ref (ad E 47))]) S 3 dL_law_919 rfl (by rfl) (by decide) rfl ?_
          refine z_goto (tgt := 18) S dL_law_922 (by decide) ?_
          refine z_sub [1, 2, 3, 0] rfl ?_
          exact ih q9.2 (x3 + (4 : Int32)) hf
        · refine z_iconst (v := 0) S dL_law_215 (by decide) ?_
          cases hf
      refine z_tif hf (fun h10 hf => ?_) (fun h10 hf => ?_)
      · refine z_tabIn (tgt := 217) S 3 dL_law_32 (by rw [h10]; rfl) (by decide) rfl (by decide) ?_
        refine z_aload_n S 1 dL_law_217 rfl rfl ?_
        refine z_aload_n S 0 dL_law_218 rfl rfl ?_
        refine z_iload_n S 3 dL_law_219 rfl rfl ?_
        refine z_iconst (v := 1) S dL_law_220 (by decide) ?_
        refine z_iadd S dL_law_221 ?_
        refine z_sld S X dL_law_222 hf (fun hf => ?_)
        refine z_aload_n S 0 dL_law_223 rfl rfl ?_
        refine z_iload_n S 3 dL_law_224 rfl rfl ?_
        refine z_iconst (v := 2) S dL_law_225 (by decide) ?_
        refine z_iadd S dL_law_226 ?_
        refine z_sld S X dL_law_227 hf (fun hf => ?_)
        refine z_callVI (rc := r_X9_person) [.int (f (x3 + (1 : Int32)).toNatClampNeg), .int (f (x3 + (2 : Int32)).toNatClampNeg)] S mo_X9_person wd362 wd363 wd361 ok_root (by decide) cl_7 rfl rfl (by decide) (z_roomL S) rfl (Nat.le_of_ble_eq_true rfl) rfl dL_law_228 (fun q => q) (fun _ => P) (fun q hq => m_X9_person (xl x) E _ _ _ _ ok_root q hq) hf (fun q11 hf => ?_)
        refine z_aload_n S 2 dL_law_231 rfl rfl ?_
        refine z_aload_n S 0 dL_law_232 rfl rfl ?_
        refine z_iload_n S 3 dL_law_233 rfl rfl ?_
        refine z_iconst (v := 1) S dL_law_234 (by decide) ?_
        refine z_iadd S dL_law_235 ?_
        refine z_sld S X dL_law_236 hf (fun hf => ?_)
        refine z_aload_n S 0 dL_law_237 rfl rfl ?_
        refine z_iload_n S 3 dL_law_238 rfl rfl ?_
        refine z_iconst (v := 2) S dL_law_239 (by decide) ?_
        refine z_iadd S dL_law_240 ?_
        refine z_sld S X dL_law_241 hf (fun hf => ?_)
        refine z_callVI (rc := r_X10_person) [.int (f (x3 + (1 : Int32)).toNatClampNeg), .int (f (x3 + (2 : Int32)).toNatClampNeg)] S mo_X10_person wd810 wd811 wd809 ok_model (by decide) cl_8 rfl rfl (by decide) (z_roomL S) rfl (Nat.le_of_ble_eq_true rfl) rfl dL_law_242 (fun q => q.1) (fun q => q.2) (fun q hq => m_X10_person (xl x) E _ _ _ _ ok_model q hq) hf (fun q12 hf => ?_)
        refine z_icmp_eq (tgt := 919) S dL_law_245 (by decide) hf (fun hf => ?_) (fun hf => ?_)
        · refine z_iinc (v := (x3 + (4 : Int32))) (lv' := [(3, .int (x3 + (4 : Int32))), (0, .ref b), (1, .ref (ad E 0)), (2, .ref (ad E 47))]) S 3 dL_law_919 rfl (by rfl) (by decide) rfl ?_
          refine z_goto (tgt := 18) S dL_law_922 (by decide) ?_
          refine z_sub [1, 2, 3, 0] rfl ?_
          exact ih q12.2 (x3 + (4 : Int32)) hf
        · refine z_iconst (v := 0) S dL_law_248 (by decide) ?_
          cases hf
      refine z_tif hf (fun h13 hf => ?_) (fun h13 hf => ?_)
      · refine z_tabIn (tgt := 250) S 4 dL_law_32 (by rw [h13]; rfl) (by decide) rfl (by decide) ?_
        refine z_aload_n S 1 dL_law_250 rfl rfl ?_
        refine z_aload_n S 0 dL_law_251 rfl rfl ?_
        refine z_iload_n S 3 dL_law_252 rfl rfl ?_
        refine z_iconst (v := 1) S dL_law_253 (by decide) ?_
        refine z_iadd S dL_law_254 ?_
        refine z_sld S X dL_law_255 hf (fun hf => ?_)
        refine z_aload_n S 0 dL_law_256 rfl rfl ?_
        refine z_iload_n S 3 dL_law_257 rfl rfl ?_
        refine z_iconst (v := 2) S dL_law_258 (by decide) ?_
        refine z_iadd S dL_law_259 ?_
        refine z_sld S X dL_law_260 hf (fun hf => ?_)
        refine z_callVI (rc := r_X9_room) [.int (f (x3 + (1 : Int32)).toNatClampNeg), .int (f (x3 + (2 : Int32)).toNatClampNeg)] S mo_X9_room wd409 wd410 wd408 ok_root (by decide) cl_7 rfl rfl (by decide) (z_roomL S) rfl (Nat.le_of_ble_eq_true rfl) rfl dL_law_261 (fun q => q) (fun _ => P) (fun q hq => m_X9_room (xl x) E _ _ _ _ ok_root q hq) hf (fun q14 hf => ?_)
        refine z_aload_n S 2 dL_law_264 rfl rfl ?_
        refine z_aload_n S 0 dL_law_265 rfl rfl ?_
        refine z_iload_n S 3 dL_law_266 rfl rfl ?_
        refine z_iconst (v := 1) S dL_law_267 (by decide) ?_
        refine z_iadd S dL_law_268 ?_
        refine z_sld S X dL_law_269 hf (fun hf => ?_)
        refine z_aload_n S 0 dL_law_270 rfl rfl ?_
        refine z_iload_n S 3 dL_law_271 rfl rfl ?_
        refine z_iconst (v := 2) S dL_law_272 (by decide) ?_
        refine z_iadd S dL_law_273 ?_
        refine z_sld S X dL_law_274 hf (fun hf => ?_)
        refine z_callVI (rc := r_X10_room) [.int (f (x3 + (1 : Int32)).toNatClampNeg), .int (f (x3 + (2 : Int32)).toNatClampNeg)] S mo_X10_room wd853 wd854 wd852 ok_model (by decide) cl_8 rfl rfl (by decide) (z_roomL S) rfl (Nat.le_of_ble_eq_true rfl) rfl dL_law_275 (fun q => q.1) (fun q => q.2) (fun q hq => m_X10_room (xl x) E _ _ _ _ ok_model q hq) hf (fun q15 hf => ?_)
        refine z_icmp_eq (tgt := 919) S dL_law_278 (by decide) hf (fun hf => ?_) (fun hf => ?_)
        · refine z_iinc (v := (x3 + (4 : Int32))) (lv' := [(3, .int (x3 + (4 : Int32))), (0, .ref b), (1, .ref (ad E 0)), (2, .ref (ad E 47))]) S 3 dL_law_919 rfl (by rfl) (by decide) rfl ?_
          refine z_goto (tgt := 18) S dL_law_922 (by decide) ?_
          refine z_sub [1, 2, 3, 0] rfl ?_
          exact ih q15.2 (x3 + (4 : Int32)) hf
        · refine z_iconst (v := 0) S dL_law_281 (by decide) ?_
          cases hf
      refine z_tif hf (fun h16 hf => ?_) (fun h16 hf => ?_)
      · refine z_tabIn (tgt := 283) S 5 dL_law_32 (by rw [h16]; rfl) (by decide) rfl (by decide) ?_
        refine z_aload_n S 1 dL_law_283 rfl rfl ?_
        refine z_aload_n S 0 dL_law_284 rfl rfl ?_
        refine z_iload_n S 3 dL_law_285 rfl rfl ?_
        refine z_iconst (v := 1) S dL_law_286 (by decide) ?_
        refine z_iadd S dL_law_287 ?_
        refine z_sld S X dL_law_288 hf (fun hf => ?_)
        refine z_aload_n S 0 dL_law_289 rfl rfl ?_
        refine z_iload_n S 3 dL_law_290 rfl rfl ?_
        refine z_iconst (v := 2) S dL_law_291 (by decide) ?_
        refine z_iadd S dL_law_292 ?_
        refine z_sld S X dL_law_293 hf (fun hf => ?_)
        refine z_callVI (rc := r_X9_right) [.int (f (x3 + (1 : Int32)).toNatClampNeg), .int (f (x3 + (2 : Int32)).toNatClampNeg)] S mo_X9_right wd423 wd424 wd422 ok_root (by decide) cl_7 rfl rfl (by decide) (z_roomL S) rfl (Nat.le_of_ble_eq_true rfl) rfl dL_law_294 (fun q => q) (fun _ => P) (fun q hq => m_X9_right (xl x) E _ _ _ _ ok_root q hq) hf (fun q17 hf => ?_)
        refine z_aload_n S 2 dL_law_297 rfl rfl ?_
        refine z_aload_n S 0 dL_law_298 rfl rfl ?_
        refine z_iload_n S 3 dL_law_299 rfl rfl ?_
        refine z_iconst (v := 1) S dL_law_300 (by decide) ?_
        refine z_iadd S dL_law_301 ?_
        refine z_sld S X dL_law_302 hf (fun hf => ?_)
        refine z_aload_n S 0 dL_law_303 rfl rfl ?_
        refine z_iload_n S 3 dL_law_304 rfl rfl ?_
        refine z_iconst (v := 2) S dL_law_305 (by decide) ?_
        refine z_iadd S dL_law_306 ?_
        refine z_sld S X dL_law_307 hf (fun hf => ?_)
        refine z_callVI (rc := r_X10_right) [.int (f (x3 + (1 : Int32)).toNatClampNeg), .int (f (x3 + (2 : Int32)).toNatClampNeg)] S mo_X10_right wd865 wd866 wd864 ok_model (by decide) cl_8 rfl rfl (by decide) (z_roomL S) rfl (Nat.le_of_ble_eq_true rfl) rfl dL_law_308 (fun q => q) (fun _ => P) (fun q hq => m_X10_right (xl x) E _ _ _ _ ok_model q hq) hf (fun q18 hf => ?_)
        refine z_icmp_eq (tgt := 919) S dL_law_311 (by decide) hf (fun hf => ?_) (fun hf => ?_)
        · refine z_iinc (v := (x3 + (4 : Int32))) (lv' := [(3, .int (x3 + (4 : Int32))), (0, .ref b), (1, .ref (ad E 0)), (2, .ref (ad E 47))]) S 3 dL_law_919 rfl (by rfl) (by decide) rfl ?_
          refine z_goto (tgt := 18) S dL_law_922 (by decide) ?_
          refine z_sub [1, 2, 3, 0] rfl ?_
          exact ih P (x3 + (4 : Int32)) hf
        · refine z_iconst (v := 0) S dL_law_314 (by decide) ?_
          cases hf
      refine z_tif hf (fun h19 hf => ?_) (fun h19 hf => ?_)
      · refine z_tabIn (tgt := 316) S 6 dL_law_32 (by rw [h19]; rfl) (by decide) rfl (by decide) ?_
        refine z_aload_n S 1 dL_law_316 rfl rfl ?_
        refine z_aload_n S 0 dL_law_317 rfl rfl ?_
        refine z_iload_n S 3 dL_law_318 rfl rfl ?_
        refine z_iconst (v := 1) S dL_law_319 (by decide) ?_
        refine z_iadd S dL_law_320 ?_
        refine z_sld S X dL_law_321 hf (fun hf => ?_)
        refine z_callVI (rc := r_X9_now) [.int (f (x3 + (1 : Int32)).toNatClampNeg)] S mo_X9_now wd427 wd428 wd426 ok_root (by decide) cl_7 rfl rfl (by decide) (z_roomL S) rfl (Nat.le_of_ble_eq_true rfl) rfl dL_law_322 (fun q => q) (fun _ => P) (fun q hq => m_X9_now (xl x) E _ _ _ ok_root q hq) hf (fun q20 hf => ?_)
        refine z_aload_n S 2 dL_law_325 rfl rfl ?_
        refine z_aload_n S 0 dL_law_326 rfl rfl ?_
        refine z_iload_n S 3 dL_law_327 rfl rfl ?_
        refine z_iconst (v := 1) S dL_law_328 (by decide) ?_
        refine z_iadd S dL_law_329 ?_
        refine z_sld S X dL_law_330 hf (fun hf => ?_)
        refine z_callVI (rc := r_X10_now) [.int (f (x3 + (1 : Int32)).toNatClampNeg)] S mo_X10_now wd869 wd870 wd868 ok_model (by decide) cl_8 rfl rfl (by decide) (z_roomL S) rfl (Nat.le_of_ble_eq_true rfl) rfl dL_law_331 (fun q => q.1) (fun q => q.2) (fun q hq => m_X10_now (xl x) E _ _ _ ok_model q hq) hf (fun q21 hf => ?_)
        refine z_icmp_eq (tgt := 919) S dL_law_334 (by decide) hf (fun hf => ?_) (fun hf => ?_)
        · refine z_iinc (v := (x3 + (4 : Int32))) (lv' := [(3, .int (x3 + (4 : Int32))), (0, .ref b), (1, .ref (ad E 0)), (2, .ref (ad E 47))]) S 3 dL_law_919 rfl (by rfl) (by decide) rfl ?_
          refine z_goto (tgt := 18) S dL_law_922 (by decide) ?_
          refine z_sub [1, 2, 3, 0] rfl ?_
          exact ih q21.2 (x3 + (4 : Int32)) hf
        · refine z_iconst (v := 0) S dL_law_337 (by decide) ?_
          cases hf
      refine z_tif hf (fun h22 hf => ?_) (fun h22 hf => ?_)
      · refine z_tabIn (tgt := 339) S 7 dL_law_32 (by rw [h22]; rfl) (by decide) rfl (by decide) ?_
        refine z_aload_n S 1 dL_law_339 rfl rfl ?_
        refine z_callVI (rc := r_X9_day) [] S mo_X9_day wd436 wd437 wd435 ok_root (by decide) cl_7 rfl rfl (by decide) (z_roomL S) rfl (Nat.le_of_ble_eq_true rfl) rfl dL_law_340 (fun q => q.1) (fun q => q.2) (fun q hq => m_X9_day (xl x) E _ _ ok_root q hq) hf (fun q23 hf => ?_)
        refine z_aload_n S 2 dL_law_343 rfl rfl ?_
        refine z_callVI (rc := r_X10_day) [] S mo_X10_day wd877 wd878 wd876 ok_model (by decide) cl_8 rfl rfl (by decide) (z_roomL S) rfl (Nat.le_of_ble_eq_true rfl) rfl dL_law_344 (fun q => q.1) (fun q => q.2) (fun q hq => m_X10_day (xl x) E _ _ ok_model q hq) hf (fun q24 hf => ?_)
        refine z_icmp_eq (tgt := 919) S dL_law_347 (by decide) hf (fun hf => ?_) (fun hf => ?_)
        · refine z_iinc (v := (x3 + (4 : Int32))) (lv' := [(3, .int (x3 + (4 : Int32))), (0, .ref b), (1, .ref (ad E 0)), (2, .ref (ad E 47))]) S 3 dL_law_919 rfl (by rfl) (by decide) rfl ?_
          refine z_goto (tgt := 18) S dL_law_922 (by decide) ?_
          refine z_sub [1, 2, 3, 0] rfl ?_
          exact ih q24.2 (x3 + (4 : Int32)) hf
        · refine z_iconst (v := 0) S dL_law_350 (by decide) ?_
          cases hf
      refine z_tif hf (fun h25 hf => ?_) (fun h25 hf => ?_)
      · refine z_tabIn (tgt := 352) S 8 dL_law_32 (by rw [h25]; rfl) (by decide) rfl (by decide) ?_
        refine z_aload_n S 1 dL_law_352 rfl rfl ?_
        refine z_aload_n S 0 dL_law_353 rfl rfl ?_
        refine z_iload_n S 3 dL_law_354 rfl rfl ?_
        refine z_iconst (v := 1) S dL_law_355 (by decide) ?_
        refine z_iadd S dL_law_356 ?_
        refine z_sld S X dL_law_357 hf (fun hf => ?_)
        refine z_callVI (rc := r_X9_dies) [.int (f (x3 + (1 : Int32)).toNatClampNeg)] S mo_X9_dies wd451 wd452 wd450 ok_root (by decide) cl_7 rfl rfl (by decide) (z_roomL S) rfl (Nat.le_of_ble_eq_true rfl) rfl dL_law_358 (fun q => q.1) (fun q => q.2) (fun q hq => m_X9_dies (xl x) E _ _ _ ok_root q hq) hf (fun q26 hf => ?_)
        refine z_aload_n S 2 dL_law_361 rfl rfl ?_
        refine z_aload_n S 0 dL_law_362 rfl rfl ?_
        refine z_iload_n S 3 dL_law_363 rfl rfl ?_
        refine z_iconst (v := 1) S dL_law_364 (by decide) ?_
        refine z_iadd S dL_law_365 ?_
        refine z_sld S X dL_law_366 hf (fun hf => ?_)
        refine z_callVI (rc := r_X10_dies) [.int (f (x3 + (1 : Int32)).toNatClampNeg)] S mo_X10_dies wd885 wd886 wd884 ok_model (by decide) cl_8 rfl rfl (by decide) (z_roomL S) rfl (Nat.le_of_ble_eq_true rfl) rfl dL_law_367 (fun q => q.1) (fun q => q.2) (fun q hq => m_X10_dies (xl x) E _ _ _ ok_model q hq) hf (fun q27 hf => ?_)
        refine z_icmp_eq (tgt := 919) S dL_law_370 (by decide) hf (fun hf => ?_) (fun hf => ?_)
        · refine z_iinc (v := (x3 + (4 : Int32))) (lv' := [(3, .int (x3 + (4 : Int32))), (0, .ref b), (1, .ref (ad E 0)), (2, .ref (ad E 47))]) S 3 dL_law_919 rfl (by rfl) (by decide) rfl ?_
          refine z_goto (tgt := 18) S dL_law_922 (by decide) ?_
          refine z_sub [1, 2, 3, 0] rfl ?_
          exact ih q27.2 (x3 + (4 : Int32)) hf
        · refine z_iconst (v := 0) S dL_law_373 (by decide) ?_
          cases hf
      refine z_tif hf (fun h28 hf => ?_) (fun h28 hf => ?_)
      · refine z_tabIn (tgt := 375) S 9 dL_law_32 (by rw [h28]; rfl) (by decide) rfl (by decide) ?_
        refine z_aload_n S 1 dL_law_375 rfl rfl ?_
        refine z_aload_n S 0 dL_law_376 rfl rfl ?_
        refine z_iload_n S 3 dL_law_377 rfl rfl ?_
        refine z_iconst (v := 1) S dL_law_378 (by decide) ?_
        refine z_iadd S dL_law_379 ?_
        refine z_sld S X dL_law_380 hf (fun hf => ?_)
        refine z_aload_n S 0 dL_law_381 rfl rfl ?_
        refine z_iload_n S 3 dL_law_382 rfl rfl ?_
        refine z_iconst (v := 2) S dL_law_383 (by decide) ?_
        refine z_iadd S dL_law_384 ?_
        refine z_sld S X dL_law_385 hf (fun hf => ?_)
        refine z_aload_n S 0 dL_law_386 rfl rfl ?_
        refine z_iload_n S 3 dL_law_387 rfl rfl ?_
        refine z_iconst (v := 3) S dL_law_388 (by decide) ?_
        refine z_iadd S dL_law_389 ?_
        refine z_sld S X dL_law_390 hf (fun hf => ?_)
        refine z_callVI (rc := r_X9_grants) [.int (f (x3 + (1 : Int32)).toNatClampNeg), .int (f (x3 + (2 : Int32)).toNatClampNeg), .int (f (x3 + (3 : Int32)).toNatClampNeg)] S mo_X9_grants wd461 wd462 wd460 ok_root (by decide) cl_7 rfl rfl (by decide) (z_roomL S) rfl (Nat.le_of_ble_eq_true rfl) rfl dL_law_391 (fun q => q.1) (fun q => q.2) (fun q hq => m_X9_grants (xl x) E _ _ _ _ _ ok_root q hq) hf (fun q29 hf => ?_)
        refine z_aload_n S 2 dL_law_394 rfl rfl ?_
        refine z_aload_n S 0 dL_law_395 rfl rfl ?_
        refine z_iload_n S 3 dL_law_396 rfl rfl ?_
        refine z_iconst (v := 1) S dL_law_397 (by decide) ?_
        refine z_iadd S dL_law_398 ?_
        refine z_sld S X dL_law_399 hf (fun hf => ?_)
        refine z_aload_n S 0 dL_law_400 rfl rfl ?_
        refine z_iload_n S 3 dL_law_401 rfl rfl ?_
        refine z_iconst (v := 2) S dL_law_402 (by decide) ?_
        refine z_iadd S dL_law_403 ?_
        refine z_sld S X dL_law_404 hf (fun hf => ?_)
        refine z_aload_n S 0 dL_law_405 rfl rfl ?_
        refine z_iload_n S 3 dL_law_406 rfl rfl ?_
        refine z_iconst (v := 3) S dL_law_407 (by decide) ?_
        refine z_iadd S dL_law_408 ?_
        refine z_sld S X dL_law_409 hf (fun hf => ?_)
        refine z_callVI (rc := r_X10_grants) [.int (f (x3 + (1 : Int32)).toNatClampNeg), .int (f (x3 + (2 : Int32)).toNatClampNeg), .int (f (x3 + (3 : Int32)).toNatClampNeg)] S mo_X10_grants wd892 wd893 wd891 ok_model (by decide) cl_8 rfl rfl (by decide) (z_roomL S) rfl (Nat.le_of_ble_eq_true rfl) rfl dL_law_410 (fun q => q.1) (fun q => q.2) (fun q hq => m_X10_grants (xl x) E _ _ _ _ _ ok_model q hq) hf (fun q30 hf => ?_)
        refine z_icmp_eq (tgt := 919) S dL_law_413 (by decide) hf (fun hf => ?_) (fun hf => ?_)
        · refine z_iinc (v := (x3 + (4 : Int32))) (lv' := [(3, .int (x3 + (4 : Int32))), (0, .ref b), (1, .ref (ad E 0)), (2, .ref (ad E 47))]) S 3 dL_law_919 rfl (by rfl) (by decide) rfl ?_
          refine z_goto (tgt := 18) S dL_law_922 (by decide) ?_
          refine z_sub [1, 2, 3, 0] rfl ?_
          exact ih q30.2 (x3 + (4 : Int32)) hf
        · refine z_iconst (v := 0) S dL_law_416 (by decide) ?_
          cases hf
      refine z_tif hf (fun h31 hf => ?_) (fun h31 hf => ?_)
      · refine z_tabIn (tgt := 418) S 10 dL_law_32 (by rw [h31]; rfl) (by decide) rfl (by decide) ?_
        refine z_aload_n S 1 dL_law_418 rfl rfl ?_
        refine z_aload_n S 0 dL_law_419 rfl rfl ?_
        refine z_iload_n S 3 dL_law_420 rfl rfl ?_
        refine z_iconst (v := 1) S dL_law_421 (by decide) ?_
        refine z_iadd S dL_law_422 ?_
        refine z_sld S X dL_law_423 hf (fun hf => ?_)
        refine z_aload_n S 0 dL_law_424 rfl rfl ?_
        refine z_iload_n S 3 dL_law_425 rfl rfl ?_
        refine z_iconst (v := 2) S dL_law_426 (by decide) ?_
        refine z_iadd S dL_law_427 ?_
        refine z_sld S X dL_law_428 hf (fun hf => ?_)
        refine z_callVI (rc := r_X9_exchanges) [.int (f (x3 + (1 : Int32)).toNatClampNeg), .int (f (x3 + (2 : Int32)).toNatClampNeg)] S mo_X9_exchanges wd466 wd467 wd465 ok_root (by decide) cl_7 rfl rfl (by decide) (z_roomL S) rfl (Nat.le_of_ble_eq_true rfl) rfl dL_law_429 (fun q => q.1) (fun q => q.2) (fun q hq => m_X9_exchanges (xl x) E _ _ _ _ ok_root q hq) hf (fun q32 hf => ?_)
        refine z_aload_n S 2 dL_law_432 rfl rfl ?_
        refine z_aload_n S 0 dL_law_433 rfl rfl ?_
        refine z_iload_n S 3 dL_law_434 rfl rfl ?_
        refine z_iconst (v := 1) S dL_law_435 (by decide) ?_
        refine z_iadd S dL_law_436 ?_
        refine z_sld S X dL_law_437 hf (fun hf => ?_)
        refine z_aload_n S 0 dL_law_438 rfl rfl ?_
        refine z_iload_n S 3 dL_law_439 rfl rfl ?_
        refine z_iconst (v := 2) S dL_law_440 (by decide) ?_
        refine z_iadd S dL_law_441 ?_
        refine z_sld S X dL_law_442 hf (fun hf => ?_)
        refine z_callVI (rc := r_X10_exchanges) [.int (f (x3 + (1 : Int32)).toNatClampNeg), .int (f (x3 + (2 : Int32)).toNatClampNeg)] S mo_X10_exchanges wd896 wd897 wd895 ok_model (by decide) cl_8 rfl rfl (by decide) (z_roomL S) rfl (Nat.le_of_ble_eq_true rfl) rfl dL_law_443 (fun q => q.1) (fun q => q.2) (fun q hq => m_X10_exchanges (xl x) E _ _ _ _ ok_model q hq) hf (fun q33 hf => ?_)
        refine z_icmp_eq (tgt := 919) S dL_law_446 (by decide) hf (fun hf => ?_) (fun hf => ?_)
        · refine z_iinc (v := (x3 + (4 : Int32))) (lv' := [(3, .int (x3 + (4 : Int32))), (0, .ref b), (1, .ref (ad E 0)), (2, .ref (ad E 47))]) S 3 dL_law_919 rfl (by rfl) (by decide) rfl ?_
          refine z_goto (tgt := 18) S dL_law_922 (by decide) ?_
          refine z_sub [1, 2, 3, 0] rfl ?_
          exact ih q33.2 (x3 + (4 : Int32)) hf
        · refine z_iconst (v := 0) S dL_law_449 (by decide) ?_
          cases hf
      refine z_tif hf (fun h34 hf => ?_) (fun h34 hf => ?_)
      · refine z_tabIn (tgt := 451) S 11 dL_law_32 (by rw [h34]; rfl) (by decide) rfl (by decide) ?_
        refine z_aload_n S 1 dL_law_451 rfl rfl ?_
        refine z_aload_n S 0 dL_law_452 rfl rfl ?_
        refine z_iload_n S 3 dL_law_453 rfl rfl ?_
        refine z_iconst (v := 1) S dL_law_454 (by decide) ?_
        refine z_iadd S dL_law_455 ?_
        refine z_sld S X dL_law_456 hf (fun hf => ?_)
        refine z_aload_n S 0 dL_law_457 rfl rfl ?_
        refine z_iload_n S 3 dL_law_458 rfl rfl ?_
        refine z_iconst (v := 2) S dL_law_459 (by decide) ?_
        refine z_iadd S dL_law_460 ?_
        refine z_sld S X dL_law_461 hf (fun hf => ?_)
        refine z_callVI (rc := r_X9_wills) [.int (f (x3 + (1 : Int32)).toNatClampNeg), .int (f (x3 + (2 : Int32)).toNatClampNeg)] S mo_X9_wills wd474 wd475 wd473 ok_root (by decide) cl_7 rfl rfl (by decide) (z_roomL S) rfl (Nat.le_of_ble_eq_true rfl) rfl dL_law_462 (fun q => q.1) (fun q => q.2) (fun q hq => m_X9_wills (xl x) E _ _ _ _ ok_root q hq) hf (fun q35 hf => ?_)
        refine z_aload_n S 2 dL_law_465 rfl rfl ?_
        refine z_aload_n S 0 dL_law_466 rfl rfl ?_
        refine z_iload_n S 3 dL_law_467 rfl rfl ?_
        refine z_iconst (v := 1) S dL_law_468 (by decide) ?_
        refine z_iadd S dL_law_469 ?_
        refine z_sld S X dL_law_470 hf (fun hf => ?_)
        refine z_aload_n S 0 dL_law_471 rfl rfl ?_
        refine z_iload_n S 3 dL_law_472 rfl rfl ?_
        refine z_iconst (v := 2) S dL_law_473 (by decide) ?_
        refine z_iadd S dL_law_474 ?_
        refine z_sld S X dL_law_475 hf (fun hf => ?_)
        refine z_callVI (rc := r_X10_wills) [.int (f (x3 + (1 : Int32)).toNatClampNeg), .int (f (x3 + (2 : Int32)).toNatClampNeg)] S mo_X10_wills wd903 wd904 wd902 ok_model (by decide) cl_8 rfl rfl (by decide) (z_roomL S) rfl (Nat.le_of_ble_eq_true rfl) rfl dL_law_476 (fun q => q.1) (fun q => q.2) (fun q hq => m_X10_wills (xl x) E _ _ _ _ ok_model q hq) hf (fun q36 hf => ?_)
        refine z_icmp_eq (tgt := 919) S dL_law_479 (by decide) hf (fun hf => ?_) (fun hf => ?_)
        · refine z_iinc (v := (x3 + (4 : Int32))) (lv' := [(3, .int (x3 + (4 : Int32))), (0, .ref b), (1, .ref (ad E 0)), (2, .ref (ad E 47))]) S 3 dL_law_919 rfl (by rfl) (by decide) rfl ?_
          refine z_goto (tgt := 18) S dL_law_922 (by decide) ?_
          refine z_sub [1, 2, 3, 0] rfl ?_
          exact ih q36.2 (x3 + (4 : Int32)) hf
        · refine z_iconst (v := 0) S dL_law_482 (by decide) ?_
          cases hf
      refine z_tif hf (fun h37 hf => ?_) (fun h37 hf => ?_)
      · refine z_tabIn (tgt := 484) S 12 dL_law_32 (by rw [h37]; rfl) (by decide) rfl (by decide) ?_
        refine z_aload_n S 1 dL_law_484 rfl rfl ?_
        refine z_callVI (rc := r_X9_undo) [] S mo_X9_undo wd479 wd480 wd478 ok_root (by decide) cl_7 rfl rfl (by decide) (z_roomL S) rfl (Nat.le_of_ble_eq_true rfl) rfl dL_law_485 (fun q => q.1) (fun q => q.2) (fun q hq => m_X9_undo (xl x) E _ _ ok_root q hq) hf (fun q38 hf => ?_)
        refine z_aload_n S 2 dL_law_488 rfl rfl ?_
        refine z_callVI (rc := r_X10_undo) [] S mo_X10_undo wd907 wd908 wd906 ok_model (by decide) cl_8 rfl rfl (by decide) (z_roomL S) rfl (Nat.le_of_ble_eq_true rfl) rfl dL_law_489 (fun q => q.1) (fun q => q.2) (fun q hq => m_X10_undo (xl x) E _ _ ok_model q hq) hf (fun q39 hf => ?_)
        refine z_icmp_eq (tgt := 919) S dL_law_492 (by decide) hf (fun hf => ?_) (fun hf => ?_)
        · refine z_iinc (v := (x3 + (4 : Int32))) (lv' := [(3, .int (x3 + (4 : Int32))), (0, .ref b), (1, .ref (ad E 0)), (2, .ref (ad E 47))]) S 3 dL_law_919 rfl (by rfl) (by decide) rfl ?_
          refine z_goto (tgt := 18) S dL_law_922 (by decide) ?_
          refine z_sub [1, 2, 3, 0] rfl ?_
          exact ih q39.2 (x3 + (4 : Int32)) hf
        · refine z_iconst (v := 0) S dL_law_495 (by decide) ?_
          cases hf
      refine z_tif hf (fun h40 hf => ?_) (fun h40 hf => ?_)
      · refine z_tabIn (tgt := 497) S 13 dL_law_32 (by rw [h40]; rfl) (by decide) rfl (by decide) ?_
        refine z_aload_n S 1 dL_law_497 rfl rfl ?_
        refine z_aload_n S 0 dL_law_498 rfl rfl ?_
        refine z_iload_n S 3 dL_law_499 rfl rfl ?_
        refine z_iconst (v := 1) S dL_law_500 (by decide) ?_
        refine z_iadd S dL_law_501 ?_
        refine z_sld S X dL_law_502 hf (fun hf => ?_)
        refine z_callVI (rc := r_X9_fromWhen) [.int (f (x3 + (1 : Int32)).toNatClampNeg)] S mo_X9_fromWhen wd488 wd489 wd487 ok_root (by decide) cl_7 rfl rfl (by decide) (z_roomL S) rfl (Nat.le_of_ble_eq_true rfl) rfl dL_law_503 (fun q => q) (fun _ => P) (fun q hq => m_X9_fromWhen (xl x) E _ _ _ ok_root q hq) hf (fun q41 hf => ?_)
        refine z_aload_n S 2 dL_law_506 rfl rfl ?_
        refine z_aload_n S 0 dL_law_507 rfl rfl ?_
        refine z_iload_n S 3 dL_law_508 rfl rfl ?_
        refine z_iconst (v := 1) S dL_law_509 (by decide) ?_
        refine z_iadd S dL_law_510 ?_
        refine z_sld S X dL_law_511 hf (fun hf => ?_)
        refine z_callVI (rc := r_X10_fromWhen) [.int (f (x3 + (1 : Int32)).toNatClampNeg)] S mo_X10_fromWhen wd911 wd912 wd910 ok_model (by decide) cl_8 rfl rfl (by decide) (z_roomL S) rfl (Nat.le_of_ble_eq_true rfl) rfl dL_law_512 (fun q => q.1) (fun q => q.2) (fun q hq => m_X10_fromWhen (xl x) E _ _ _ ok_model q hq) hf (fun q42 hf => ?_)
        refine z_icmp_eq (tgt := 919) S dL_law_515 (by decide) hf (fun hf => ?_) (fun hf => ?_)
        · refine z_iinc (v := (x3 + (4 : Int32))) (lv' := [(3, .int (x3 + (4 : Int32))), (0, .ref b), (1, .ref (ad E 0)), (2, .ref (ad E 47))]) S 3 dL_law_919 rfl (by rfl) (by decide) rfl ?_
          refine z_goto (tgt := 18) S dL_law_922 (by decide) ?_
          refine z_sub [1, 2, 3, 0] rfl ?_
          exact ih q42.2 (x3 + (4 : Int32)) hf
        · refine z_iconst (v := 0) S dL_law_518 (by decide) ?_
          cases hf
      refine z_tif hf (fun h43 hf => ?_) (fun h43 hf => ?_)
      · refine z_tabIn (tgt := 520) S 14 dL_law_32 (by rw [h43]; rfl) (by decide) rfl (by decide) ?_
        refine z_aload_n S 1 dL_law_520 rfl rfl ?_
        refine z_aload_n S 0 dL_law_521 rfl rfl ?_
        refine z_iload_n S 3 dL_law_522 rfl rfl ?_
        refine z_iconst (v := 1) S dL_law_523 (by decide) ?_
        refine z_iadd S dL_law_524 ?_
        refine z_sld S X dL_law_525 hf (fun hf => ?_)
        refine z_callVI (rc := r_X9_needs) [.int (f (x3 + (1 : Int32)).toNatClampNeg)] S mo_X9_needs wd496 wd497 wd495 ok_root (by decide) cl_7 rfl rfl (by decide) (z_roomL S) rfl (Nat.le_of_ble_eq_true rfl) rfl dL_law_526 (fun q => q) (fun _ => P) (fun q hq => m_X9_needs (xl x) E _ _ _ ok_root q hq) hf (fun q44 hf => ?_)
        refine z_aload_n S 2 dL_law_529 rfl rfl ?_
        refine z_aload_n S 0 dL_law_530 rfl rfl ?_
        refine z_iload_n S 3 dL_law_531 rfl rfl ?_
        refine z_iconst (v := 1) S dL_law_532 (by decide) ?_
        refine z_iadd S dL_law_533 ?_
        refine z_sld S X dL_law_534 hf (fun hf => ?_)
        refine z_callVI (rc := r_X10_needs) [.int (f (x3 + (1 : Int32)).toNatClampNeg)] S mo_X10_needs wd915 wd916 wd914 ok_model (by decide) cl_8 rfl rfl (by decide) (z_roomL S) rfl (Nat.le_of_ble_eq_true rfl) rfl dL_law_535 (fun q => q.1) (fun q => q.2) (fun q hq => m_X10_needs (xl x) E _ _ _ ok_model q hq) hf (fun q45 hf => ?_)
        refine z_icmp_eq (tgt := 919) S dL_law_538 (by decide) hf (fun hf => ?_) (fun hf => ?_)
        · refine z_iinc (v := (x3 + (4 : Int32))) (lv' := [(3, .int (x3 + (4 : Int32))), (0, .ref b), (1, .ref (ad E 0)), (2, .ref (ad E 47))]) S 3 dL_law_919 rfl (by rfl) (by decide) rfl ?_
          refine z_goto (tgt := 18) S dL_law_922 (by decide) ?_
          refine z_sub [1, 2, 3, 0] rfl ?_
          exact ih q45.2 (x3 + (4 : Int32)) hf
        · refine z_iconst (v := 0) S dL_law_541 (by decide) ?_
          cases hf
      refine z_tif hf (fun h46 hf => ?_) (fun h46 hf => ?_)
      · refine z_tabIn (tgt := 543) S 15 dL_law_32 (by rw [h46]; rfl) (by decide) rfl (by decide) ?_
        refine z_aload_n S 1 dL_law_543 rfl rfl ?_
        refine z_aload_n S 0 dL_law_544 rfl rfl ?_
        refine z_iload_n S 3 dL_law_545 rfl rfl ?_
        refine z_iconst (v := 1) S dL_law_546 (by decide) ?_
        refine z_iadd S dL_law_547 ?_
        refine z_sld S X dL_law_548 hf (fun hf => ?_)
        refine z_callVI (rc := r_X9_opens) [.int (f (x3 + (1 : Int32)).toNatClampNeg)] S mo_X9_opens wd510 wd511 wd509 ok_root (by decide) cl_7 rfl rfl (by decide) (z_roomL S) rfl (Nat.le_of_ble_eq_true rfl) rfl dL_law_549 (fun q => q) (fun _ => P) (fun q hq => m_X9_opens (xl x) E _ _ _ ok_root q hq) hf (fun q47 hf => ?_)
        refine z_aload_n S 2 dL_law_552 rfl rfl ?_
        refine z_aload_n S 0 dL_law_553 rfl rfl ?_
        refine z_iload_n S 3 dL_law_554 rfl rfl ?_
        refine z_iconst (v := 1) S dL_law_555 (by decide) ?_
        refine z_iadd S dL_law_556 ?_
        refine z_sld S X dL_law_557 hf (fun hf => ?_)
        refine z_callVI (rc := r_X10_opens) [.int (f (x3 + (1 : Int32)).toNatClampNeg)] S mo_X10_opens wd923 wd924 wd922 ok_model (by decide) cl_8 rfl rfl (by decide) (z_roomL S) rfl (Nat.le_of_ble_eq_true rfl) rfl dL_law_558 (fun q => q.1) (fun q => q.2) (fun q hq => m_X10_opens (xl x) E _ _ _ ok_model q hq) hf (fun q48 hf => ?_)
        refine z_icmp_eq (tgt := 919) S dL_law_561 (by decide) hf (fun hf => ?_) (fun hf => ?_)
        · refine z_iinc (v := (x3 + (4 : Int32))) (lv' := [(3, .int (x3 + (4 : Int32))), (0, .ref b), (1, .ref (ad E 0)), (2, .ref (ad E 47))]) S 3 dL_law_919 rfl (by rfl) (by decide) rfl ?_
          refine z_goto (tgt := 18) S dL_law_922 (by decide) ?_
          refine z_sub [1, 2, 3, 0] rfl ?_
          exact ih q48.2 (x3 + (4 : Int32)) hf
        · refine z_iconst (v := 0) S dL_law_564 (by decide) ?_
          cases hf
      refine z_tif hf (fun h49 hf => ?_) (fun h49 hf => ?_)
      · refine z_tabIn (tgt := 566) S 16 dL_law_32 (by rw [h49]; rfl) (by decide) rfl (by decide) ?_
        refine z_aload_n S 1 dL_law_566 rfl rfl ?_
        refine z_callVI (rc := r_X9_exchange) [] S mo_X9_exchange wd518 wd519 wd517 ok_root (by decide) cl_7 rfl rfl (by decide) (z_roomL S) rfl (Nat.le_of_ble_eq_true rfl) rfl dL_law_567 (fun q => q.1) (fun q => q.2) (fun q hq => m_X9_exchange (xl x) E _ _ ok_root q hq) hf (fun q50 hf => ?_)
        refine z_aload_n S 2 dL_law_570 rfl rfl ?_
        refine z_callVI (rc := r_X10_exchange) [] S mo_X10_exchange wd927 wd928 wd926 ok_model (by decide) cl_8 rfl rfl (by decide) (z_roomL S) rfl (Nat.le_of_ble_eq_true rfl) rfl dL_law_571 (fun q => q.1) (fun q => q.2) (fun q hq => m_X10_exchange (xl x) E _ _ ok_model q hq) hf (fun q51 hf => ?_)
        refine z_icmp_eq (tgt := 919) S dL_law_574 (by decide) hf (fun hf => ?_) (fun hf => ?_)
        · refine z_iinc (v := (x3 + (4 : Int32))) (lv' := [(3, .int (x3 + (4 : Int32))), (0, .ref b), (1, .ref (ad E 0)), (2, .ref (ad E 47))]) S 3 dL_law_919 rfl (by rfl) (by decide) rfl ?_
          refine z_goto (tgt := 18) S dL_law_922 (by decide) ?_
          refine z_sub [1, 2, 3, 0] rfl ?_
          exact ih q51.2 (x3 + (4 : Int32)) hf
        · refine z_iconst (v := 0) S dL_law_577 (by decide) ?_
          cases hf
      refine z_tif hf (fun h52 hf => ?_) (fun h52 hf => ?_)
      · refine z_tabIn (tgt := 579) S 17 dL_law_32 (by rw [h52]; rfl) (by decide) rfl (by decide) ?_
        refine z_aload_n S 1 dL_law_579 rfl rfl ?_
        refine z_callVI (rc := r_X9_holdsOut) [] S mo_X9_holdsOut wd527 wd528 wd526 ok_root (by decide) cl_7 rfl rfl (by decide) (z_roomL S) rfl (Nat.le_of_ble_eq_true rfl) rfl dL_law_580 (fun q => q) (fun _ => P) (fun q hq => m_X9_holdsOut (xl x) E _ _ ok_root q hq) hf (fun q53 hf => ?_)
        refine z_aload_n S 2 dL_law_583 rfl rfl ?_
        refine z_callVI (rc := r_X10_holdsOut) [] S mo_X10_holdsOut wd931 wd932 wd930 ok_model (by decide) cl_8 rfl rfl (by decide) (z_roomL S) rfl (Nat.le_of_ble_eq_true rfl) rfl dL_law_584 (fun q => q.1) (fun q => q.2) (fun q hq => m_X10_holdsOut (xl x) E _ _ ok_model q hq) hf (fun q54 hf => ?_)
        refine z_icmp_eq (tgt := 919) S dL_law_587 (by decide) hf (fun hf => ?_) (fun hf => ?_)
        · refine z_iinc (v := (x3 + (4 : Int32))) (lv' := [(3, .int (x3 + (4 : Int32))), (0, .ref b), (1, .ref (ad E 0)), (2, .ref (ad E 47))]) S 3 dL_law_919 rfl (by rfl) (by decide) rfl ?_
          refine z_goto (tgt := 18) S dL_law_922 (by decide) ?_
          refine z_sub [1, 2, 3, 0] rfl ?_
          exact ih q54.2 (x3 + (4 : Int32)) hf
        · refine z_iconst (v := 0) S dL_law_590 (by decide) ?_
          cases hf
      refine z_tif hf (fun h55 hf => ?_) (fun h55 hf => ?_)
      · refine z_tabIn (tgt := 592) S 18 dL_law_32 (by rw [h55]; rfl) (by decide) rfl (by decide) ?_
        refine z_aload_n S 1 dL_law_592 rfl rfl ?_
        refine z_aload_n S 0 dL_law_593 rfl rfl ?_
        refine z_iload_n S 3 dL_law_594 rfl rfl ?_
        refine z_iconst (v := 1) S dL_law_595 (by decide) ?_
        refine z_iadd S dL_law_596 ?_
        refine z_sld S X dL_law_597 hf (fun hf => ?_)
        refine z_aload_n S 0 dL_law_598 rfl rfl ?_
        refine z_iload_n S 3 dL_law_599 rfl rfl ?_
        refine z_iconst (v := 2) S dL_law_600 (by decide) ?_
        refine z_iadd S dL_law_601 ?_
        refine z_sld S X dL_law_602 hf (fun hf => ?_)
        refine z_callVI (rc := r_X9_dinner) [.int (f (x3 + (1 : Int32)).toNatClampNeg), .int (f (x3 + (2 : Int32)).toNatClampNeg)] S mo_X9_dinner wd534 wd535 wd533 ok_root (by decide) cl_7 rfl rfl (by decide) (z_roomL S) rfl (Nat.le_of_ble_eq_true rfl) rfl dL_law_603 (fun q => q) (fun _ => P) (fun q hq => m_X9_dinner (xl x) E _ _ _ _ ok_root q hq) hf (fun q56 hf => ?_)
        refine z_aload_n S 2 dL_law_606 rfl rfl ?_
        refine z_aload_n S 0 dL_law_607 rfl rfl ?_
        refine z_iload_n S 3 dL_law_608 rfl rfl ?_
        refine z_iconst (v := 1) S dL_law_609 (by decide) ?_
        refine z_iadd S dL_law_610 ?_
        refine z_sld S X dL_law_611 hf (fun hf => ?_)
        refine z_aload_n S 0 dL_law_612 rfl rfl ?_
        refine z_iload_n S 3 dL_law_613 rfl rfl ?_
        refine z_iconst (v := 2) S dL_law_614 (by decide) ?_
        refine z_iadd S dL_law_615 ?_
        refine z_sld S X dL_law_616 hf (fun hf => ?_)
        refine z_callVI (rc := r_X10_dinner) [.int (f (x3 + (1 : Int32)).toNatClampNeg), .int (f (x3 + (2 : Int32)).toNatClampNeg)] S mo_X10_dinner wd935 wd936 wd934 ok_model (by decide) cl_8 rfl rfl (by decide) (z_roomL S) rfl (Nat.le_of_ble_eq_true rfl) rfl dL_law_617 (fun q => q.1) (fun q => q.2) (fun q hq => m_X10_dinner (xl x) E _ _ _ _ ok_model q hq) hf (fun q57 hf => ?_)
        refine z_icmp_eq (tgt := 919) S dL_law_620 (by decide) hf (fun hf => ?_) (fun hf => ?_)
        · refine z_iinc (v := (x3 + (4 : Int32))) (lv' := [(3, .int (x3 + (4 : Int32))), (0, .ref b), (1, .ref (ad E 0)), (2, .ref (ad E 47))]) S 3 dL_law_919 rfl (by rfl) (by decide) rfl ?_
          refine z_goto (tgt := 18) S dL_law_922 (by decide) ?_
          refine z_sub [1, 2, 3, 0] rfl ?_
          exact ih q57.2 (x3 + (4 : Int32)) hf
        · refine z_iconst (v := 0) S dL_law_623 (by decide) ?_
          cases hf
      refine z_tif hf (fun h58 hf => ?_) (fun h58 hf => ?_)
      · refine z_tabIn (tgt := 625) S 19 dL_law_32 (by rw [h58]; rfl) (by decide) rfl (by decide) ?_
        refine z_aload_n S 1 dL_law_625 rfl rfl ?_
        refine z_aload_n S 0 dL_law_626 rfl rfl ?_
        refine z_iload_n S 3 dL_law_627 rfl rfl ?_
        refine z_iconst (v := 1) S dL_law_628 (by decide) ?_
        refine z_iadd S dL_law_629 ?_
        refine z_sld S X dL_law_630 hf (fun hf => ?_)
        refine z_aload_n S 0 dL_law_631 rfl rfl ?_
        refine z_iload_n S 3 dL_law_632 rfl rfl ?_
        refine z_iconst (v := 2) S dL_law_633 (by decide) ?_
        refine z_iadd S dL_law_634 ?_
        refine z_sld S X dL_law_635 hf (fun hf => ?_)
        refine z_aload_n S 0 dL_law_636 rfl rfl ?_
        refine z_iload_n S 3 dL_law_637 rfl rfl ?_
        refine z_iconst (v := 3) S dL_law_638 (by decide) ?_
        refine z_iadd S dL_law_639 ?_
        refine z_sld S X dL_law_640 hf (fun hf => ?_)
        refine z_callVI (rc := r_X9_seen) [.int (f (x3 + (1 : Int32)).toNatClampNeg), .int (f (x3 + (2 : Int32)).toNatClampNeg), .int (f (x3 + (3 : Int32)).toNatClampNeg)] S mo_X9_seen wd542 wd543 wd541 ok_root (by decide) cl_7 rfl rfl (by decide) (z_roomL S) rfl (Nat.le_of_ble_eq_true rfl) rfl dL_law_641 (fun q => q.1) (fun q => q.2) (fun q hq => m_X9_seen (xl x) E _ _ _ _ _ ok_root q hq) hf (fun q59 hf => ?_)
        refine z_aload_n S 2 dL_law_644 rfl rfl ?_
        refine z_aload_n S 0 dL_law_645 rfl rfl ?_
        refine z_iload_n S 3 dL_law_646 rfl rfl ?_
        refine z_iconst (v := 1) S dL_law_647 (by decide) ?_
        refine z_iadd S dL_law_648 ?_
        refine z_sld S X dL_law_649 hf (fun hf => ?_)
        refine z_aload_n S 0 dL_law_650 rfl rfl ?_
        refine z_iload_n S 3 dL_law_651 rfl rfl ?_
        refine z_iconst (v := 2) S dL_law_652 (by decide) ?_
        refine z_iadd S dL_law_653 ?_
        refine z_sld S X dL_law_654 hf (fun hf => ?_)
        refine z_aload_n S 0 dL_law_655 rfl rfl ?_
        refine z_iload_n S 3 dL_law_656 rfl rfl ?_
        refine z_iconst (v := 3) S dL_law_657 (by decide) ?_
        refine z_iadd S dL_law_658 ?_
        refine z_sld S X dL_law_659 hf (fun hf => ?_)
        refine z_callVI (rc := r_X10_seen) [.int (f (x3 + (1 : Int32)).toNatClampNeg), .int (f (x3 + (2 : Int32)).toNatClampNeg), .int (f (x3 + (3 : Int32)).toNatClampNeg)] S mo_X10_seen wd939 wd940 wd938 ok_model (by decide) cl_8 rfl rfl (by decide) (z_roomL S) rfl (Nat.le_of_ble_eq_true rfl) rfl dL_law_660 (fun q => q.1) (fun q => q.2) (fun q hq => m_X10_seen (xl x) E _ _ _ _ _ ok_model q hq) hf (fun q60 hf => ?_)
        refine z_icmp_eq (tgt := 919) S dL_law_663 (by decide) hf (fun hf => ?_) (fun hf => ?_)
        · refine z_iinc (v := (x3 + (4 : Int32))) (lv' := [(3, .int (x3 + (4 : Int32))), (0, .ref b), (1, .ref (ad E 0)), (2, .ref (ad E 47))]) S 3 dL_law_919 rfl (by rfl) (by decide) rfl ?_
          refine z_goto (tgt := 18) S dL_law_922 (by decide) ?_
          refine z_sub [1, 2, 3, 0] rfl ?_
          exact ih q60.2 (x3 + (4 : Int32)) hf
        · refine z_iconst (v := 0) S dL_law_666 (by decide) ?_
          cases hf
      refine z_tif hf (fun h61 hf => ?_) (fun h61 hf => ?_)
      · refine z_tabIn (tgt := 668) S 20 dL_law_32 (by rw [h61]; rfl) (by decide) rfl (by decide) ?_
        refine z_aload_n S 1 dL_law_668 rfl rfl ?_
        refine z_callVI (rc := r_X9_forget) [] S mo_X9_forget wd550 wd551 wd549 ok_root (by decide) cl_7 rfl rfl (by decide) (z_roomL S) rfl (Nat.le_of_ble_eq_true rfl) rfl dL_law_669 (fun q => q.1) (fun q => q.2) (fun q hq => m_X9_forget (xl x) E _ _ ok_root q hq) hf (fun q62 hf => ?_)
        refine z_aload_n S 2 dL_law_672 rfl rfl ?_
        refine z_callVI (rc := r_X10_forget) [] S mo_X10_forget wd943 wd944 wd942 ok_model (by decide) cl_8 rfl rfl (by decide) (z_roomL S) rfl (Nat.le_of_ble_eq_true rfl) rfl dL_law_673 (fun q => q.1) (fun q => q.2) (fun q hq => m_X10_forget (xl x) E _ _ ok_model q hq) hf (fun q63 hf => ?_)
        refine z_icmp_eq (tgt := 919) S dL_law_676 (by decide) hf (fun hf => ?_) (fun hf => ?_)
        · refine z_iinc (v := (x3 + (4 : Int32))) (lv' := [(3, .int (x3 + (4 : Int32))), (0, .ref b), (1, .ref (ad E 0)), (2, .ref (ad E 47))]) S 3 dL_law_919 rfl (by rfl) (by decide) rfl ?_
          refine z_goto (tgt := 18) S dL_law_922 (by decide) ?_
          refine z_sub [1, 2, 3, 0] rfl ?_
          exact ih q63.2 (x3 + (4 : Int32)) hf
        · refine z_iconst (v := 0) S dL_law_679 (by decide) ?_
          cases hf
      refine z_tif hf (fun h64 hf => ?_) (fun h64 hf => ?_)
      · refine z_tabIn (tgt := 681) S 21 dL_law_32 (by rw [h64]; rfl) (by decide) rfl (by decide) ?_
        refine z_aload_n S 1 dL_law_681 rfl rfl ?_
        refine z_aload_n S 0 dL_law_682 rfl rfl ?_
        refine z_iload_n S 3 dL_law_683 rfl rfl ?_
        refine z_iconst (v := 1) S dL_law_684 (by decide) ?_
        refine z_iadd S dL_law_685 ?_
        refine z_sld S X dL_law_686 hf (fun hf => ?_)
        refine z_callVI (rc := r_X9_said) [.int (f (x3 + (1 : Int32)).toNatClampNeg)] S mo_X9_said wd554 wd555 wd553 ok_root (by decide) cl_7 rfl rfl (by decide) (z_roomL S) rfl (Nat.le_of_ble_eq_true rfl) rfl dL_law_687 (fun q => q.1) (fun q => q.2) (fun q hq => m_X9_said (xl x) E _ _ _ ok_root q hq) hf (fun q65 hf => ?_)
        refine z_aload_n S 2 dL_law_690 rfl rfl ?_
        refine z_aload_n S 0 dL_law_691 rfl rfl ?_
        refine z_iload_n S 3 dL_law_692 rfl rfl ?_
        refine z_iconst (v := 1) S dL_law_693 (by decide) ?_
        refine z_iadd S dL_law_694 ?_
        refine z_sld S X dL_law_695 hf (fun hf => ?_)
        refine z_callVI (rc := r_X10_said) [.int (f (x3 + (1 : Int32)).toNatClampNeg)] S mo_X10_said wd947 wd948 wd946 ok_model (by decide) cl_8 rfl rfl (by decide) (z_roomL S) rfl (Nat.le_of_ble_eq_true rfl) rfl dL_law_696 (fun q => q.1) (fun q => q.2) (fun q hq => m_X10_said (xl x) E _ _ _ ok_model q hq) hf (fun q66 hf => ?_)
        refine z_icmp_eq (tgt := 919) S dL_law_699 (by decide) hf (fun hf => ?_) (fun hf => ?_)
        · refine z_iinc (v := (x3 + (4 : Int32))) (lv' := [(3, .int (x3 + (4 : Int32))), (0, .ref b), (1, .ref (ad E 0)), (2, .ref (ad E 47))]) S 3 dL_law_919 rfl (by rfl) (by decide) rfl ?_
          refine z_goto (tgt := 18) S dL_law_922 (by decide) ?_
          refine z_sub [1, 2, 3, 0] rfl ?_
          exact ih q66.2 (x3 + (4 : Int32)) hf
        · refine z_iconst (v := 0) S dL_law_702 (by decide) ?_
          cases hf
      refine z_tif hf (fun h67 hf => ?_) (fun h67 hf => ?_)
      · refine z_tabIn (tgt := 704) S 22 dL_law_32 (by rw [h67]; rfl) (by decide) rfl (by decide) ?_
        refine z_aload_n S 1 dL_law_704 rfl rfl ?_
        refine z_aload_n S 0 dL_law_705 rfl rfl ?_
        refine z_iload_n S 3 dL_law_706 rfl rfl ?_
        refine z_iconst (v := 1) S dL_law_707 (by decide) ?_
        refine z_iadd S dL_law_708 ?_
        refine z_sld S X dL_law_709 hf (fun hf => ?_)
        refine z_callVI (rc := r_X9_last) [.int (f (x3 + (1 : Int32)).toNatClampNeg)] S mo_X9_last wd567 wd568 wd566 ok_root (by decide) cl_7 rfl rfl (by decide) (z_roomL S) rfl (Nat.le_of_ble_eq_true rfl) rfl dL_law_710 (fun q => q) (fun _ => P) (fun q hq => m_X9_last (xl x) E _ _ _ ok_root q hq) hf (fun q68 hf => ?_)
        refine z_aload_n S 2 dL_law_713 rfl rfl ?_
        refine z_aload_n S 0 dL_law_714 rfl rfl ?_
        refine z_iload_n S 3 dL_law_715 rfl rfl ?_
        refine z_iconst (v := 1) S dL_law_716 (by decide) ?_
        refine z_iadd S dL_law_717 ?_
        refine z_sld S X dL_law_718 hf (fun hf => ?_)
        refine z_callVI (rc := r_X10_last) [.int (f (x3 + (1 : Int32)).toNatClampNeg)] S mo_X10_last wd951 wd952 wd950 ok_model (by decide) cl_8 rfl rfl (by decide) (z_roomL S) rfl (Nat.le_of_ble_eq_true rfl) rfl dL_law_719 (fun q => q.1) (fun q => q.2) (fun q hq => m_X10_last (xl x) E _ _ _ ok_model q hq) hf (fun q69 hf => ?_)
        refine z_icmp_eq (tgt := 919) S dL_law_722 (by decide) hf (fun hf => ?_) (fun hf => ?_)
        · refine z_iinc (v := (x3 + (4 : Int32))) (lv' := [(3, .int (x3 + (4 : Int32))), (0, .ref b), (1, .ref (ad E 0)), (2, .ref (ad E 47))]) S 3 dL_law_919 rfl (by rfl) (by decide) rfl ?_
          refine z_goto (tgt := 18) S dL_law_922 (by decide) ?_
          refine z_sub [1, 2, 3, 0] rfl ?_
          exact ih q69.2 (x3 + (4 : Int32)) hf
        · refine z_iconst (v := 0) S dL_law_725 (by decide) ?_
          cases hf
      refine z_tif hf (fun h70 hf => ?_) (fun h70 hf => ?_)
      · refine z_tabIn (tgt := 727) S 23 dL_law_32 (by rw [h70]; rfl) (by decide) rfl (by decide) ?_
        refine z_aload_n S 1 dL_law_727 rfl rfl ?_
        refine z_aload_n S 0 dL_law_728 rfl rfl ?_
        refine z_iload_n S 3 dL_law_729 rfl rfl ?_
        refine z_iconst (v := 1) S dL_law_730 (by decide) ?_
        refine z_iadd S dL_law_731 ?_
        refine z_sld S X dL_law_732 hf (fun hf => ?_)
        refine z_aload_n S 0 dL_law_733 rfl rfl ?_
        refine z_iload_n S 3 dL_law_734 rfl rfl ?_
        refine z_iconst (v := 2) S dL_law_735 (by decide) ?_
        refine z_iadd S dL_law_736 ?_
        refine z_sld S X dL_law_737 hf (fun hf => ?_)
        refine z_callVI (rc := r_X9_waits) [.int (f (x3 + (1 : Int32)).toNatClampNeg), .int (f (x3 + (2 : Int32)).toNatClampNeg)] S mo_X9_waits wd572 wd573 wd571 ok_root (by decide) cl_7 rfl rfl (by decide) (z_roomL S) rfl (Nat.le_of_ble_eq_true rfl) rfl dL_law_738 (fun q => q) (fun _ => P) (fun q hq => m_X9_waits (xl x) E _ _ _ _ ok_root q hq) hf (fun q71 hf => ?_)
        refine z_aload_n S 2 dL_law_741 rfl rfl ?_
        refine z_aload_n S 0 dL_law_742 rfl rfl ?_
        refine z_iload_n S 3 dL_law_743 rfl rfl ?_
        refine z_iconst (v := 1) S dL_law_744 (by decide) ?_
        refine z_iadd S dL_law_745 ?_
        refine z_sld S X dL_law_746 hf (fun hf => ?_)
        refine z_aload_n S 0 dL_law_747 rfl rfl ?_
        refine z_iload_n S 3 dL_law_748 rfl rfl ?_
        refine z_iconst (v := 2) S dL_law_749 (by decide) ?_
        refine z_iadd S dL_law_750 ?_
        refine z_sld S X dL_law_751 hf (fun hf => ?_)
        refine z_callVI (rc := r_X10_waits) [.int (f (x3 + (1 : Int32)).toNatClampNeg), .int (f (x3 + (2 : Int32)).toNatClampNeg)] S mo_X10_waits wd955 wd956 wd954 ok_model (by decide) cl_8 rfl rfl (by decide) (z_roomL S) rfl (Nat.le_of_ble_eq_true rfl) rfl dL_law_752 (fun q => q.1) (fun q => q.2) (fun q hq => m_X10_waits (xl x) E _ _ _ _ ok_model q hq) hf (fun q72 hf => ?_)
        refine z_icmp_eq (tgt := 919) S dL_law_755 (by decide) hf (fun hf => ?_) (fun hf => ?_)
        · refine z_iinc (v := (x3 + (4 : Int32))) (lv' := [(3, .int (x3 + (4 : Int32))), (0, .ref b), (1, .ref (ad E 0)), (2, .ref (ad E 47))]) S 3 dL_law_919 rfl (by rfl) (by decide) rfl ?_
          refine z_goto (tgt := 18) S dL_law_922 (by decide) ?_
          refine z_sub [1, 2, 3, 0] rfl ?_
          exact ih q72.2 (x3 + (4 : Int32)) hf
        · refine z_iconst (v := 0) S dL_law_758 (by decide) ?_
          cases hf
      refine z_tif hf (fun h73 hf => ?_) (fun h73 hf => ?_)
      · refine z_tabIn (tgt := 760) S 24 dL_law_32 (by rw [h73]; rfl) (by decide) rfl (by decide) ?_
        refine z_aload_n S 1 dL_law_760 rfl rfl ?_
        refine z_aload_n S 0 dL_law_761 rfl rfl ?_
        refine z_iload_n S 3 dL_law_762 rfl rfl ?_
        refine z_iconst (v := 1) S dL_law_763 (by decide) ?_
        refine z_iadd S dL_law_764 ?_
        refine z_sld S X dL_law_765 hf (fun hf => ?_)
        refine z_aload_n S 0 dL_law_766 rfl rfl ?_
        refine z_iload_n S 3 dL_law_767 rfl rfl ?_
        refine z_iconst (v := 2) S dL_law_768 (by decide) ?_
        refine z_iadd S dL_law_769 ?_
        refine z_sld S X dL_law_770 hf (fun hf => ?_)
        refine z_aload_n S 0 dL_law_771 rfl rfl ?_
        refine z_iload_n S 3 dL_law_772 rfl rfl ?_
        refine z_iconst (v := 3) S dL_law_773 (by decide) ?_
        refine z_iadd S dL_law_774 ?_
        refine z_sld S X dL_law_775 hf (fun hf => ?_)
        refine z_callVI (rc := r_X9_odds) [.int (f (x3 + (1 : Int32)).toNatClampNeg), .int (f (x3 + (2 : Int32)).toNatClampNeg), .int (f (x3 + (3 : Int32)).toNatClampNeg)] S mo_X9_odds wd584 wd585 wd583 ok_root (by decide) cl_7 rfl rfl (by decide) (z_roomL S) rfl (Nat.le_of_ble_eq_true rfl) rfl dL_law_776 (fun q => q) (fun _ => P) (fun q hq => m_X9_odds (xl x) E _ _ _ _ _ ok_root q hq) hf (fun q74 hf => ?_)
        refine z_aload_n S 2 dL_law_779 rfl rfl ?_
        refine z_aload_n S 0 dL_law_780 rfl rfl ?_
        refine z_iload_n S 3 dL_law_781 rfl rfl ?_
        refine z_iconst (v := 1) S dL_law_782 (by decide) ?_
        refine z_iadd S dL_law_783 ?_
        refine z_sld S X dL_law_784 hf (fun hf => ?_)
        refine z_aload_n S 0 dL_law_785 rfl rfl ?_
        refine z_iload_n S 3 dL_law_786 rfl rfl ?_
        refine z_iconst (v := 2) S dL_law_787 (by decide) ?_
        refine z_iadd S dL_law_788 ?_
        refine z_sld S X dL_law_789 hf (fun hf => ?_)
        refine z_aload_n S 0 dL_law_790 rfl rfl ?_
        refine z_iload_n S 3 dL_law_791 rfl rfl ?_
        refine z_iconst (v := 3) S dL_law_792 (by decide) ?_
        refine z_iadd S dL_law_793 ?_
        refine z_sld S X dL_law_794 hf (fun hf => ?_)
        refine z_callVI (rc := r_X10_odds) [.int (f (x3 + (1 : Int32)).toNatClampNeg), .int (f (x3 + (2 : Int32)).toNatClampNeg), .int (f (x3 + (3 : Int32)).toNatClampNeg)] S mo_X10_odds wd959 wd960 wd958 ok_model (by decide) cl_8 rfl rfl (by decide) (z_roomL S) rfl (Nat.le_of_ble_eq_true rfl) rfl dL_law_795 (fun q => q.1) (fun q => q.2) (fun q hq => m_X10_odds (xl x) E _ _ _ _ _ ok_model q hq) hf (fun q75 hf => ?_)
        refine z_icmp_eq (tgt := 919) S dL_law_798 (by decide) hf (fun hf => ?_) (fun hf => ?_)
        · refine z_iinc (v := (x3 + (4 : Int32))) (lv' := [(3, .int (x3 + (4 : Int32))), (0, .ref b), (1, .ref (ad E 0)), (2, .ref (ad E 47))]) S 3 dL_law_919 rfl (by rfl) (by decide) rfl ?_
          refine z_goto (tgt := 18) S dL_law_922 (by decide) ?_
          refine z_sub [1, 2, 3, 0] rfl ?_
          exact ih q75.2 (x3 + (4 : Int32)) hf
        · refine z_iconst (v := 0) S dL_law_801 (by decide) ?_
          cases hf
      refine z_tif hf (fun h76 hf => ?_) (fun h76 hf => ?_)
      · refine z_tabIn (tgt := 803) S 25 dL_law_32 (by rw [h76]; rfl) (by decide) rfl (by decide) ?_
        refine z_aload_n S 1 dL_law_803 rfl rfl ?_
        refine z_aload_n S 0 dL_law_804 rfl rfl ?_
        refine z_iload_n S 3 dL_law_805 rfl rfl ?_
        refine z_iconst (v := 1) S dL_law_806 (by decide) ?_
        refine z_iadd S dL_law_807 ?_
        refine z_sld S X dL_law_808 hf (fun hf => ?_)
        refine z_aload_n S 0 dL_law_809 rfl rfl ?_
        refine z_iload_n S 3 dL_law_810 rfl rfl ?_
        refine z_iconst (v := 2) S dL_law_811 (by decide) ?_
        refine z_iadd S dL_law_812 ?_
        refine z_sld S X dL_law_813 hf (fun hf => ?_)
        refine z_callVI (rc := r_X9_rate) [.int (f (x3 + (1 : Int32)).toNatClampNeg), .int (f (x3 + (2 : Int32)).toNatClampNeg)] S mo_X9_rate wd598 wd599 wd597 ok_root (by decide) cl_7 rfl rfl (by decide) (z_roomL S) rfl (Nat.le_of_ble_eq_true rfl) rfl dL_law_814 (fun q => q.1) (fun q => q.2) (fun q hq => m_X9_rate (xl x) E _ _ _ _ ok_root q hq) hf (fun q77 hf => ?_)
        refine z_aload_n S 2 dL_law_817 rfl rfl ?_
        refine z_aload_n S 0 dL_law_818 rfl rfl ?_
        refine z_iload_n S 3 dL_law_819 rfl rfl ?_
        refine z_iconst (v := 1) S dL_law_820 (by decide) ?_
        refine z_iadd S dL_law_821 ?_
        refine z_sld S X dL_law_822 hf (fun hf => ?_)
        refine z_aload_n S 0 dL_law_823 rfl rfl ?_
        refine z_iload_n S 3 dL_law_824 rfl rfl ?_
        refine z_iconst (v := 2) S dL_law_825 (by decide) ?_
        refine z_iadd S dL_law_826 ?_
        refine z_sld S X dL_law_827 hf (fun hf => ?_)
        refine z_callVI (rc := r_X10_rate) [.int (f (x3 + (1 : Int32)).toNatClampNeg), .int (f (x3 + (2 : Int32)).toNatClampNeg)] S mo_X10_rate wd963 wd964 wd962 ok_model (by decide) cl_8 rfl rfl (by decide) (z_roomL S) rfl (Nat.le_of_ble_eq_true rfl) rfl dL_law_828 (fun q => q.1) (fun q => q.2) (fun q hq => m_X10_rate (xl x) E _ _ _ _ ok_model q hq) hf (fun q78 hf => ?_)
        refine z_icmp_eq (tgt := 919) S dL_law_831 (by decide) hf (fun hf => ?_) (fun hf => ?_)
        · refine z_iinc (v := (x3 + (4 : Int32))) (lv' := [(3, .int (x3 + (4 : Int32))), (0, .ref b), (1, .ref (ad E 0)), (2, .ref (ad E 47))]) S 3 dL_law_919 rfl (by rfl) (by decide) rfl ?_
          refine z_goto (tgt := 18) S dL_law_922 (by decide) ?_
          refine z_sub [1, 2, 3, 0] rfl ?_
          exact ih q78.2 (x3 + (4 : Int32)) hf
        · refine z_iconst (v := 0) S dL_law_834 (by decide) ?_
          cases hf
      refine z_tif hf (fun h79 hf => ?_) (fun h79 hf => ?_)
      · refine z_tabIn (tgt := 836) S 26 dL_law_32 (by rw [h79]; rfl) (by decide) rfl (by decide) ?_
        refine z_aload_n S 1 dL_law_836 rfl rfl ?_
        refine z_aload_n S 0 dL_law_837 rfl rfl ?_
        refine z_iload_n S 3 dL_law_838 rfl rfl ?_
        refine z_iconst (v := 1) S dL_law_839 (by decide) ?_
        refine z_iadd S dL_law_840 ?_
        refine z_sld S X dL_law_841 hf (fun hf => ?_)
        refine z_callVI (rc := r_X9_keep) [.int (f (x3 + (1 : Int32)).toNatClampNeg)] S mo_X9_keep wd641 wd642 wd640 ok_root (by decide) cl_7 rfl rfl (by decide) (z_roomL S) rfl (Nat.le_of_ble_eq_true rfl) rfl dL_law_842 (fun q => q.1) (fun q => q.2) (fun q hq => m_X9_keep (xl x) E _ _ _ ok_root q hq) hf (fun q80 hf => ?_)
        refine z_aload_n S 2 dL_law_845 rfl rfl ?_
        refine z_aload_n S 0 dL_law_846 rfl rfl ?_
        refine z_iload_n S 3 dL_law_847 rfl rfl ?_
        refine z_iconst (v := 1) S dL_law_848 (by decide) ?_
        refine z_iadd S dL_law_849 ?_
        refine z_sld S X dL_law_850 hf (fun hf => ?_)
        refine z_callVI (rc := r_X10_keep) [.int (f (x3 + (1 : Int32)).toNatClampNeg)] S mo_X10_keep wd985 wd986 wd984 ok_model (by decide) cl_8 rfl rfl (by decide) (z_roomL S) rfl (Nat.le_of_ble_eq_true rfl) rfl dL_law_851 (fun q => q.1) (fun q => q.2) (fun q hq => m_X10_keep (xl x) E _ _ _ ok_model q hq) hf (fun q81 hf => ?_)
        refine z_icmp_eq (tgt := 919) S dL_law_854 (by decide) hf (fun hf => ?_) (fun hf => ?_)
        · refine z_iinc (v := (x3 + (4 : Int32))) (lv' := [(3, .int (x3 + (4 : Int32))), (0, .ref b), (1, .ref (ad E 0)), (2, .ref (ad E 47))]) S 3 dL_law_919 rfl (by rfl) (by decide) rfl ?_
          refine z_goto (tgt := 18) S dL_law_922 (by decide) ?_
          refine z_sub [1, 2, 3, 0] rfl ?_
          exact ih q81.2 (x3 + (4 : Int32)) hf
        · refine z_iconst (v := 0) S dL_law_857 (by decide) ?_
          cases hf
      refine z_tif hf (fun h82 hf => ?_) (fun h82 hf => ?_)
      · refine z_tabIn (tgt := 859) S 27 dL_law_32 (by rw [h82]; rfl) (by decide) rfl (by decide) ?_
        refine z_aload_n S 1 dL_law_859 rfl rfl ?_
        refine z_aload_n S 0 dL_law_860 rfl rfl ?_
        refine z_iload_n S 3 dL_law_861 rfl rfl ?_
        refine z_iconst (v := 1) S dL_law_862 (by decide) ?_
        refine z_iadd S dL_law_863 ?_
        refine z_sld S X dL_law_864 hf (fun hf => ?_)
        refine z_callVI (rc := r_X9_back) [.int (f (x3 + (1 : Int32)).toNatClampNeg)] S mo_X9_back wd650 wd651 wd649 ok_root (by decide) cl_7 rfl rfl (by decide) (z_roomL S) rfl (Nat.le_of_ble_eq_true rfl) rfl dL_law_865 (fun q => q.1) (fun q => q.2) (fun q hq => m_X9_back (xl x) E _ _ _ ok_root q hq) hf (fun q83 hf => ?_)
        refine z_aload_n S 2 dL_law_868 rfl rfl ?_
        refine z_aload_n S 0 dL_law_869 rfl rfl ?_
        refine z_iload_n S 3 dL_law_870 rfl rfl ?_
        refine z_iconst (v := 1) S dL_law_871 (by decide) ?_
        refine z_iadd S dL_law_872 ?_
        refine z_sld S X dL_law_873 hf (fun hf => ?_)
        refine z_callVI (rc := r_X10_back) [.int (f (x3 + (1 : Int32)).toNatClampNeg)] S mo_X10_back wd989 wd990 wd988 ok_model (by decide) cl_8 rfl rfl (by decide) (z_roomL S) rfl (Nat.le_of_ble_eq_true rfl) rfl dL_law_874 (fun q => q.1) (fun q => q.2) (fun q hq => m_X10_back (xl x) E _ _ _ ok_model q hq) hf (fun q84 hf => ?_)
        refine z_icmp_eq (tgt := 919) S dL_law_877 (by decide) hf (fun hf => ?_) (fun hf => ?_)
        · refine z_iinc (v := (x3 + (4 : Int32))) (lv' := [(3, .int (x3 + (4 : Int32))), (0, .ref b), (1, .ref (ad E 0)), (2, .ref (ad E 47))]) S 3 dL_law_919 rfl (by rfl) (by decide) rfl ?_
          refine z_goto (tgt := 18) S dL_law_922 (by decide) ?_
          refine z_sub [1, 2, 3, 0] rfl ?_
          exact ih q84.2 (x3 + (4 : Int32)) hf
        · refine z_iconst (v := 0) S dL_law_880 (by decide) ?_
          cases hf
      refine z_tif hf (fun h85 hf => ?_) (fun h85 hf => ?_)
      · refine z_tabIn (tgt := 882) S 28 dL_law_32 (by rw [h85]; rfl) (by decide) rfl (by decide) ?_
        refine z_aload_n S 1 dL_law_882 rfl rfl ?_
        refine z_aload_n S 0 dL_law_883 rfl rfl ?_
        refine z_iload_n S 3 dL_law_884 rfl rfl ?_
        refine z_iconst (v := 1) S dL_law_885 (by decide) ?_
        refine z_iadd S dL_law_886 ?_
        refine z_sld S X dL_law_887 hf (fun hf => ?_)
        refine z_callVI (rc := r_X9_count) [.int (f (x3 + (1 : Int32)).toNatClampNeg)] S mo_X9_count wd654 wd655 wd653 ok_root (by decide) cl_7 rfl rfl (by decide) (z_roomL S) rfl (Nat.le_of_ble_eq_true rfl) rfl dL_law_888 (fun q => q) (fun _ => P) (fun q hq => m_X9_count (xl x) E _ _ _ ok_root q hq) hf (fun q86 hf => ?_)
        refine z_aload_n S 2 dL_law_891 rfl rfl ?_
        refine z_aload_n S 0 dL_law_892 rfl rfl ?_
        refine z_iload_n S 3 dL_law_893 rfl rfl ?_
        refine z_iconst (v := 1) S dL_law_894 (by decide) ?_
        refine z_iadd S dL_law_895 ?_
        refine z_sld S X dL_law_896 hf (fun hf => ?_)
        refine z_callVI (rc := r_X10_count) [.int (f (x3 + (1 : Int32)).toNatClampNeg)] S mo_X10_count wd993 wd994 wd992 ok_model (by decide) cl_8 rfl rfl (by decide) (z_roomL S) rfl (Nat.le_of_ble_eq_true rfl) rfl dL_law_897 (fun q => q) (fun _ => P) (fun q hq => m_X10_count (xl x) E _ _ _ ok_model q hq) hf (fun q87 hf => ?_)
        refine z_icmp_eq (tgt := 919) S dL_law_900 (by decide) hf (fun hf => ?_) (fun hf => ?_)
        · refine z_iinc (v := (x3 + (4 : Int32))) (lv' := [(3, .int (x3 + (4 : Int32))), (0, .ref b), (1, .ref (ad E 0)), (2, .ref (ad E 47))]) S 3 dL_law_919 rfl (by rfl) (by decide) rfl ?_
          refine z_goto (tgt := 18) S dL_law_922 (by decide) ?_
          refine z_sub [1, 2, 3, 0] rfl ?_
          exact ih P (x3 + (4 : Int32)) hf
        · refine z_iconst (v := 0) S dL_law_903 (by decide) ?_
          cases hf
      refine z_tif hf (fun h88 hf => ?_) (fun h88 hf => ?_)
      · refine z_tabIn (tgt := 905) S 29 dL_law_32 (by rw [h88]; rfl) (by decide) rfl (by decide) ?_
        refine z_aload_n S 1 dL_law_905 rfl rfl ?_
        refine z_callVL (rc := r_X9_trace) [] S mo_X9_trace wd658 wd659 wd657 ok_root (by decide) cl_7 rfl rfl (by decide) (z_roomL S) rfl (Nat.le_of_ble_eq_true rfl) rfl dL_law_906 (fun q => q) (fun _ => P) (fun q hq => m_X9_trace (xl x) E _ _ ok_root q hq) hf (fun q89 hf => ?_)
        refine z_aload_n S 2 dL_law_909 rfl rfl ?_
        refine z_callVL (rc := r_X10_trace) [] S mo_X10_trace wd997 wd998 wd996 ok_model (by decide) cl_8 rfl rfl (by decide) (z_roomL S) rfl (Nat.le_of_ble_eq_true rfl) rfl dL_law_910 (fun q => q) (fun _ => P) (fun q hq => m_X10_trace (xl x) E _ _ ok_model q hq) hf (fun q90 hf => ?_)
        refine z_lcmp S dL_law_913 ?_
        refine z_if_eq (tgt := 919) S dL_law_914 (by decide) hf (fun hf => ?_) (fun hf => ?_)
        · refine z_iinc (v := (x3 + (4 : Int32))) (lv' := [(3, .int (x3 + (4 : Int32))), (0, .ref b), (1, .ref (ad E 0)), (2, .ref (ad E 47))]) S 3 dL_law_919 rfl (by rfl) (by decide) rfl ?_
          refine z_goto (tgt := 18) S dL_law_922 (by decide) ?_
          refine z_sub [1, 2, 3, 0] rfl ?_
          exact ih P (x3 + (4 : Int32)) hf
        · refine z_iconst (v := 0) S dL_law_917 (by decide) ?_
          cases hf
      refine z_tabOut (tgt := 919) S dL_law_32 (by have e0 := lv_neT h1 (a := 0) rfl; have e1 := lv_neT h4 (a := 1) rfl; have e2 := lv_neT h7 (a := 2) rfl; have e3 := lv_neT h10 (a := 3) rfl; have e4 := lv_neT h13 (a := 4) rfl; have e5 := lv_neT h16 (a := 5) rfl; have e6 := lv_neT h19 (a := 6) rfl; have e7 := lv_neT h22 (a := 7) rfl; have e8 := lv_neT h25 (a := 8) rfl; have e9 := lv_neT h28 (a := 9) rfl; have e10 := lv_neT h31 (a := 10) rfl; have e11 := lv_neT h34 (a := 11) rfl; have e12 := lv_neT h37 (a := 12) rfl; have e13 := lv_neT h40 (a := 13) rfl; have e14 := lv_neT h43 (a := 14) rfl; have e15 := lv_neT h46 (a := 15) rfl; have e16 := lv_neT h49 (a := 16) rfl; have e17 := lv_neT h52 (a := 17) rfl; have e18 := lv_neT h55 (a := 18) rfl; have e19 := lv_neT h58 (a := 19) rfl; have e20 := lv_neT h61 (a := 20) rfl; have e21 := lv_neT h64 (a := 21) rfl; have e22 := lv_neT h67 (a := 22) rfl; have e23 := lv_neT h70 (a := 23) rfl; have e24 := lv_neT h73 (a := 24) rfl; have e25 := lv_neT h76 (a := 25) rfl; have e26 := lv_neT h79 (a := 26) rfl; have e27 := lv_neT h82 (a := 27) rfl; have e28 := lv_neT h85 (a := 28) rfl; have e29 := lv_neT h88 (a := 29) rfl; omega) (by decide) ?_
      refine z_iinc (v := (x3 + (4 : Int32))) (lv' := [(3, .int (x3 + (4 : Int32))), (0, .ref b), (1, .ref (ad E 0)), (2, .ref (ad E 47))]) S 3 dL_law_919 rfl (by rfl) (by decide) rfl ?_
      refine z_goto (tgt := 18) S dL_law_922 (by decide) ?_
      refine z_sub [1, 2, 3, 0] rfl ?_
      exact ih P (x3 + (4 : Int32)) hf
