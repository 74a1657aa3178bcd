/-! L_goes -/
abbrev rmL_goes : Room := { frames := 7, cells := 41, slots := 237, locals := 157 }
theorem dyL_goes : yL_goes.cls = RL ∧ yL_goes.cls ≠ "java/lang/invoke/MethodHandle" ∧ yL_goes.cls ≠ "java/lang/invoke/VarHandle" ∧ (parseMethodDescriptor yL_goes.desc).map (fun d => d.parameters.length) = some 2 := ⟨rfl, by decide +kernel, by decide +kernel, by decide +kernel⟩
theorem qL_goes_2 : Cond.constant RL 19 (-100005) ∈ wsL_goes := List.mem_of_getElem? (i := 2) (by decide +kernel)
theorem qL_goes_1 : Cond.constant RL 50 (-100003) ∈ wsL_goes := List.mem_of_getElem? (i := 1) (by decide +kernel)
def wL_goes_263 (G : rc_G) (post : Int → rc_G → rc_M → Prop) (a0 : Nat) (a1 : Int) (k199 : Int → Int64 → Int → Int → rc_M → Prop) (x7 : Int) (x8 : Int64) (x11 : Int) (y0 : Int) (y1 : Int) (I : rc_M) : Prop :=
  rc_R y1 ∧ (rc_R y0 ∧ ((y1 = y0) ∧ (k199 x7 x8 1 (x11 + 1) I)))
set_option maxRecDepth 100000 in
set_option maxHeartbeats 4000000 in
theorem gL_goes_263 {p : Program} {l : Launch} {e : Env} {s : State} {m : MethodId} {below : List Frame} {meth : Method} {c : Code} {G0 G : rc_G} {a0 : Nat} {a1 : Int} {I : rc_M} {post : Int → rc_G → rc_M → Prop} {cells slots : Nat} {k199 : Int → Int64 → Int → Int → rc_M → Prop} {x7 : Int} {x8 : Int64} {x11 : Int} {y0 : Int} {y1 : Int} (X : rc_X p s m ([.ref a0, .int (rc_o a1)] : List Value).toArray meth c cL_goes 13 wsL_goes RL G (rs_AA G0 s.heap.size)) (hr : meth.sig.returnType = some .boolean) (hO : rk_O s) (hle : rs_le G0 G) (hc : cells ≤ 41 ∧ slots ≤ 237) (T0 : kX7 G a0) (hk199 : ∀ (x7 : Int) (x8 : Int64) (x10 : Int) (x11 : Int) (J : rc_M), k199 x7 x8 x10 x11 J → rc_g p l e rmL_goes s m ([.ref a0, .int (rc_o a1)] : List Value).toArray below meth c cells slots (MQ below (rs_Q G0 s.heap.size post) ([.ref a0, .int (rc_o a1)] : List Value).toArray s 41 237 (rs_AA G0 s.heap.size)) 13 G (rs_AA G0 s.heap.size) 199 [(0, .ref a0), (7, .int (rc_o x7)), (8, .long x8), (10, .int (rc_o x10)), (11, .int (rc_o x11))] [] J)  (h : wL_goes_263 G post a0 a1 k199 x7 x8 x11 y0 y1 I) : rc_g p l e rmL_goes s m ([.ref a0, .int (rc_o a1)] : List Value).toArray below meth c cells slots (MQ below (rs_Q G0 s.heap.size post) ([.ref a0, .int (rc_o a1)] : List Value).toArray s 41 237 (rs_AA G0 s.heap.size)) 13 G (rs_AA G0 s.heap.size) 263 [(0, .ref a0), (7, .int (rc_o x7)), (8, .long x8), (11, .int (rc_o x11))] [.int (rc_o y0), .int (rc_o y1)] I := by
  unfold wL_goes_263 at h
  obtain ⟨c75, h⟩ := h
  obtain ⟨c76, h⟩ := h
  obtain ⟨c77, h⟩ := h
  refine rc_ic_ne X 270 dL_goes_263 (by decide) c75 c76 (fun q => absurd c77 q) (fun _ => ?_)
  refine rc_iconst X dL_goes_266 ?_
  refine rc_goto X 271 dL_goes_267 (by decide) ?_
  refine rc_istore X [(10, .int (rc_o 1)), (0, .ref a0), (7, .int (rc_o x7)), (8, .long x8), (11, .int (rc_o x11))] dL_goes_271 (by decide) rfl ?_
  refine rc_iinc X [(11, .int (rc_o (x11 + 1))), (10, .int (rc_o 1)), (0, .ref a0), (7, .int (rc_o x7)), (8, .long x8)] dL_goes_273 4 rfl (by decide) rfl ?_
  refine rc_goto X 199 dL_goes_276 (by decide) ?_
  refine rc_subl [(0, .ref a0), (7, .int (rc_o x7)), (8, .long x8), (10, .int (rc_o 1)), (11, .int (rc_o (x11 + 1)))] [2, 3, 4, 1, 0] rfl ?_
  exact hk199 _ _ _ _ _ h
def wL_goes_262 (G : rc_G) (post : Int → rc_G → rc_M → Prop) (a0 : Nat) (a1 : Int) (k199 : Int → Int64 → Int → Int → rc_M → Prop) (x7 : Int) (x8 : Int64) (x11 : Int) (y0 : Int) (I : rc_M) : Prop :=
  wL_goes_263 G post a0 a1 k199 x7 x8 x11 0 y0 I
set_option maxRecDepth 100000 in
set_option maxHeartbeats 4000000 in
theorem gL_goes_262 {p : Program} {l : Launch} {e : Env} {s : State} {m : MethodId} {below : List Frame} {meth : Method} {c : Code} {G0 G : rc_G} {a0 : Nat} {a1 : Int} {I : rc_M} {post : Int → rc_G → rc_M → Prop} {cells slots : Nat} {k199 : Int → Int64 → Int → Int → rc_M → Prop} {x7 : Int} {x8 : Int64} {x11 : Int} {y0 : Int} (X : rc_X p s m ([.ref a0, .int (rc_o a1)] : List Value).toArray meth c cL_goes 13 wsL_goes RL G (rs_AA G0 s.heap.size)) (hr : meth.sig.returnType = some .boolean) (hO : rk_O s) (hle : rs_le G0 G) (hc : cells ≤ 41 ∧ slots ≤ 237) (T0 : kX7 G a0) (hk199 : ∀ (x7 : Int) (x8 : Int64) (x10 : Int) (x11 : Int) (J : rc_M), k199 x7 x8 x10 x11 J → rc_g p l e rmL_goes s m ([.ref a0, .int (rc_o a1)] : List Value).toArray below meth c cells slots (MQ below (rs_Q G0 s.heap.size post) ([.ref a0, .int (rc_o a1)] : List Value).toArray s 41 237 (rs_AA G0 s.heap.size)) 13 G (rs_AA G0 s.heap.size) 199 [(0, .ref a0), (7, .int (rc_o x7)), (8, .long x8), (10, .int (rc_o x10)), (11, .int (rc_o x11))] [] J)  (h : wL_goes_262 G post a0 a1 k199 x7 x8 x11 y0 I) : rc_g p l e rmL_goes s m ([.ref a0, .int (rc_o a1)] : List Value).toArray below meth c cells slots (MQ below (rs_Q G0 s.heap.size post) ([.ref a0, .int (rc_o a1)] : List Value).toArray s 41 237 (rs_AA G0 s.heap.size)) 13 G (rs_AA G0 s.heap.size) 262 [(0, .ref a0), (7, .int (rc_o x7)), (8, .long x8), (11, .int (rc_o x11))] [.int (rc_o y0)] I := by
  unfold wL_goes_262 at h
  refine rc_iconst X dL_goes_262 ?_
  refine rc_subl [(0, .ref a0), (7, .int (rc_o x7)), (8, .long x8), (11, .int (rc_o x11))] [0, 1, 2, 3] rfl ?_
  exact gL_goes_263 X hr hO hle ⟨hc.1, hc.2⟩ T0 hk199  h
def wL_goes_199 (G : rc_G) (post : Int → rc_G → rc_M → Prop) (a0 : Nat) (a1 : Int) (k199 : Int → Int64 → Int → Int → rc_M → Prop) (x7 : Int) (x8 : Int64) (x10 : Int) (x11 : Int) (I : rc_M) : Prop :=
  rc_R x11 ∧ (rc_R x7 ∧ ((x7 ≤ x11 → rc_R x10 ∧ ((¬ x10 = 0) ∧ (wX7_checksum G a0 I (fun r59 I58 => (r59 = x8) ∧ (post 1 G I58))))) ∧ (¬ x7 ≤ x11 → rc_R x10 ∧ ((¬ x10 = 0) ∧ (wX7_tell G a0 3 I (fun r64 I63 => wX7_pass G a0 1 I63 (fun r66 I65 => rc_R r66 ∧ ((r66 = 1) ∧ (wX7_tell G a0 3 I65 (fun r70 I69 => wX7_tell G a0 0 I69 (fun r72 I71 => rc_R r72 ∧ ((¬ r72 = 1 → wL_goes_262 G post a0 a1 k199 x7 x8 x11 (r70 - r64) I71) ∧ (r72 = 1 → wX7_tell G a0 2 I71 (fun r79 I78 => wX7_projector G a0 r79 0 I78 (fun r81 I80 => rc_R r81 ∧ ((r81 = 3 → wL_goes_262 G post a0 a1 k199 x7 x8 x11 (r70 - r64) I80) ∧ (¬ r81 = 3 → wL_goes_263 G post a0 a1 k199 x7 x8 x11 1 (r70 - r64) I80)))))))))))))))))
set_option maxRecDepth 100000 in
set_option maxHeartbeats 4000000 in
theorem gL_goes_199 {p : Program} {l : Launch} {e : Env} {s : State} {m : MethodId} {below : List Frame} {meth : Method} {c : Code} {G0 G : rc_G} {a0 : Nat} {a1 : Int} {I : rc_M} {post : Int → rc_G → rc_M → Prop} {cells slots : Nat} {k199 : Int → Int64 → Int → Int → rc_M → Prop} {x7 : Int} {x8 : Int64} {x10 : Int} {x11 : Int} (X : rc_X p s m ([.ref a0, .int (rc_o a1)] : List Value).toArray meth c cL_goes 13 wsL_goes RL G (rs_AA G0 s.heap.size)) (hr : meth.sig.returnType = some .boolean) (hO : rk_O s) (hle : rs_le G0 G) (hc : cells ≤ 41 ∧ slots ≤ 237) (T0 : kX7 G a0) (hk199 : ∀ (x7 : Int) (x8 : Int64) (x10 : Int) (x11 : Int) (J : rc_M), k199 x7 x8 x10 x11 J → rc_g p l e rmL_goes s m ([.ref a0, .int (rc_o a1)] : List Value).toArray below meth c cells slots (MQ below (rs_Q G0 s.heap.size post) ([.ref a0, .int (rc_o a1)] : List Value).toArray s 41 237 (rs_AA G0 s.heap.size)) 13 G (rs_AA G0 s.heap.size) 199 [(0, .ref a0), (7, .int (rc_o x7)), (8, .long x8), (10, .int (rc_o x10)), (11, .int (rc_o x11))] [] J)  (h : wL_goes_199 G post a0 a1 k199 x7 x8 x10 x11 I) : rc_g p l e rmL_goes s m ([.ref a0, .int (rc_o a1)] : List Value).toArray below meth c cells slots (MQ below (rs_Q G0 s.heap.size post) ([.ref a0, .int (rc_o a1)] : List Value).toArray s 41 237 (rs_AA G0 s.heap.size)) 13 G (rs_AA G0 s.heap.size) 199 [(0, .ref a0), (7, .int (rc_o x7)), (8, .long x8), (10, .int (rc_o x10)), (11, .int (rc_o x11))] [] I := by
  unfold wL_goes_199 at h
  refine rc_iload X dL_goes_199 4 rfl ?_
  refine rc_iload X dL_goes_201 1 rfl ?_
  obtain ⟨c53, h⟩ := h
  obtain ⟨c54, h⟩ := h
  refine rc_ic_ge X 279 dL_goes_203 (by decide) c53 c54 (fun c55 => ?_) (fun c55 => ?_)
  · have h := h.1 c55
    refine rc_iload X dL_goes_279 3 rfl ?_
    obtain ⟨c56, h⟩ := h
    obtain ⟨c57, h⟩ := h
    refine rc_if_eq X 298 dL_goes_281 (by decide) c56 (fun q => absurd q c57) (fun _ => ?_)
    refine rc_aload_n X dL_goes_284 rfl 0 rfl ?_
    refine rc_cVL (rest := []) X (mX7_checksum T0 h) gL_goes_X7_checksum rfl ⟨rfl, rfl⟩ dyX7_checksum ⟨Nat.le_of_ble_eq_true rfl, Nat.le_of_ble_eq_true rfl⟩ (rc_recv X T0.1 rfl) rfl rfl (Nat.le_of_ble_eq_true rfl) dL_goes_285 ⟨hc.1, hc.2⟩ (fun r59 I58 h => ?_)
    refine rc_lload X dL_goes_288 2 rfl ?_
    obtain ⟨c60, h⟩ := h
    refine rc_lne X 298 dL_goes_290 dL_goes_291 (by decide) c60 ?_
    refine rc_iconst X dL_goes_294 ?_
    refine rc_goto X 299 dL_goes_295 (by decide) ?_
    exact rs_zret X hr ⟨hle, X.2.2.1, X.2.2.2.1⟩ dL_goes_299 (hc.1) (hc.2) (Or.inr rfl) h
  · have h := h.2 c55
    refine rc_iload X dL_goes_206 3 rfl ?_
    obtain ⟨c61, h⟩ := h
    obtain ⟨c62, h⟩ := h
    refine rc_if_eq X 279 dL_goes_208 (by decide) c61 (fun q => absurd q c62) (fun _ => ?_)
    refine rc_aload_n X dL_goes_211 rfl 0 rfl ?_
    refine rc_iconst X dL_goes_212 ?_
    refine rc_cVI (rest := []) X (mX7_tell T0 h) gL_goes_X7_tell rfl ⟨rfl, rfl⟩ dyX7_tell ⟨Nat.le_of_ble_eq_true rfl, Nat.le_of_ble_eq_true rfl⟩ (rc_recv X T0.1 rfl) rfl rfl (Nat.le_of_ble_eq_true rfl) dL_goes_213 ⟨hc.1, hc.2⟩ (fun r64 I63 h => ?_)
    refine rc_istore X [(12, .int (rc_o r64)), (0, .ref a0), (7, .int (rc_o x7)), (8, .long x8), (10, .int (rc_o x10)), (11, .int (rc_o x11))] dL_goes_216 (by decide) rfl ?_
    refine rc_aload_n X dL_goes_218 rfl 1 rfl ?_
    refine rc_iconst X dL_goes_219 ?_
    refine rc_cVI (rest := []) X (mX7_pass T0 h) gL_goes_X7_pass rfl ⟨rfl, rfl⟩ dyX7_pass ⟨Nat.le_of_ble_eq_true rfl, Nat.le_of_ble_eq_true rfl⟩ (rc_recv X T0.1 rfl) rfl rfl (Nat.le_of_ble_eq_true rfl) dL_goes_220 ⟨hc.1, hc.2⟩ (fun r66 I65 h => ?_)
    refine rc_iconst X dL_goes_223 ?_
    obtain ⟨c67, h⟩ := h
    obtain ⟨c68, h⟩ := h
    refine rc_ic_ne X 270 dL_goes_224 (by decide) c67 ⟨by decide, by decide⟩ (fun q => absurd c68 q) (fun _ => ?_)
    refine rc_aload_n X dL_goes_227 rfl 1 rfl ?_
    refine rc_iconst X dL_goes_228 ?_
    refine rc_cVI (rest := []) X (mX7_tell T0 h) gL_goes_X7_tell rfl ⟨rfl, rfl⟩ dyX7_tell ⟨Nat.le_of_ble_eq_true rfl, Nat.le_of_ble_eq_true rfl⟩ (rc_recv X T0.1 rfl) rfl rfl (Nat.le_of_ble_eq_true rfl) dL_goes_229 ⟨hc.1, hc.2⟩ (fun r70 I69 h => ?_)
    refine rc_iload X dL_goes_232 0 rfl ?_
    refine rc_isub X dL_goes_234 ?_
    refine rc_aload_n X dL_goes_235 rfl 1 rfl ?_
    refine rc_iconst X dL_goes_236 ?_
    refine rc_cVI (rest := [.int (rc_o (r70 - r64))]) X (mX7_tell T0 h) gL_goes_X7_tell rfl ⟨rfl, rfl⟩ dyX7_tell ⟨Nat.le_of_ble_eq_true rfl, Nat.le_of_ble_eq_true rfl⟩ (rc_recv X T0.1 rfl) rfl rfl (Nat.le_of_ble_eq_true rfl) dL_goes_237 ⟨hc.1, hc.2⟩ (fun r72 I71 h => ?_)
    refine rc_iconst X dL_goes_240 ?_
    obtain ⟨c73, h⟩ := h
    refine rc_ic_ne X 262 dL_goes_241 (by decide) c73 ⟨by decide, by decide⟩ (fun c74 => ?_) (fun c74 => ?_)
    · have h := h.1 c74
      refine rc_subl [(0, .ref a0), (7, .int (rc_o x7)), (8, .long x8), (11, .int (rc_o x11))] [1, 2, 3, 5] rfl ?_
      exact gL_goes_262 X hr hO hle ⟨hc.1, hc.2⟩ T0 hk199  h
    · have h := h.2 c74
      refine rc_aload_n X dL_goes_244 rfl 1 rfl ?_
      refine rc_aload_n X dL_goes_245 rfl 1 rfl ?_
      refine rc_iconst X dL_goes_246 ?_
      refine rc_cVI (rest := [.ref a0, .int (rc_o (r70 - r64))]) X (mX7_tell T0 h) gL_goes_X7_tell rfl ⟨rfl, rfl⟩ dyX7_tell ⟨Nat.le_of_ble_eq_true rfl, Nat.le_of_ble_eq_true rfl⟩ (rc_recv X T0.1 rfl) rfl rfl (Nat.le_of_ble_eq_true rfl) dL_goes_247 ⟨hc.1, hc.2⟩ (fun r79 I78 h => ?_)
      refine rc_iconst X dL_goes_250 ?_
      refine rc_cVI (rest := [.int (rc_o (r70 - r64))]) X (mX7_projector T0 h) gL_goes_X7_projector rfl ⟨rfl, rfl⟩ dyX7_projector ⟨Nat.le_of_ble_eq_true rfl, Nat.le_of_ble_eq_true rfl⟩ (rc_recv X T0.1 rfl) rfl rfl (Nat.le_of_ble_eq_true rfl) dL_goes_251 ⟨hc.1, hc.2⟩ (fun r81 I80 h => ?_)
      refine rc_iconst X dL_goes_254 ?_
      obtain ⟨c82, h⟩ := h
      refine rc_ic_eq X 262 dL_goes_255 (by decide) c82 ⟨by decide, by decide⟩ (fun c83 => ?_) (fun c83 => ?_)
      · have h := h.1 c83
        refine rc_subl [(0, .ref a0), (7, .int (rc_o x7)), (8, .long x8), (11, .int (rc_o x11))] [1, 2, 3, 5] rfl ?_
        exact gL_goes_262 X hr hO hle ⟨hc.1, hc.2⟩ T0 hk199  h
      · have h := h.2 c83
        refine rc_iconst X dL_goes_258 ?_
        refine rc_goto X 263 dL_goes_259 (by decide) ?_
        refine rc_subl [(0, .ref a0), (7, .int (rc_o x7)), (8, .long x8), (11, .int (rc_o x11))] [1, 2, 3, 5] rfl ?_
        exact gL_goes_263 X hr hO hle ⟨hc.1, hc.2⟩ T0 hk199  h
noncomputable def rL_goes_199 (G : rc_G) (post : Int → rc_G → rc_M → Prop) (a0 : Nat) (a1 : Int)  (n : Nat) : Int → Int64 → Int → Int → rc_M → Prop :=
  Nat.rec (motive := fun _ => Int → Int64 → Int → Int → rc_M → Prop) (fun _ _ _ _ _ => False) (fun _ ih => wL_goes_199 G post a0 a1  ih) n
set_option maxRecDepth 100000 in
set_option maxHeartbeats 4000000 in
theorem sL_goes_199 {p : Program} {l : Launch} {e : Env} {s : State} {m : MethodId} {below : List Frame} {meth : Method} {c : Code} {G0 G : rc_G} {a0 : Nat} {a1 : Int} {I : rc_M} {post : Int → rc_G → rc_M → Prop} {cells slots : Nat}  {n : Nat} {x7 : Int} {x8 : Int64} {x10 : Int} {x11 : Int} (X : rc_X p s m ([.ref a0, .int (rc_o a1)] : List Value).toArray meth c cL_goes 13 wsL_goes RL G (rs_AA G0 s.heap.size)) (hr : meth.sig.returnType = some .boolean) (hO : rk_O s) (hle : rs_le G0 G) (hc : cells ≤ 41 ∧ slots ≤ 237) (T0 : kX7 G a0)  (h : rL_goes_199 G post a0 a1  n x7 x8 x10 x11 I) : rc_g p l e rmL_goes s m ([.ref a0, .int (rc_o a1)] : List Value).toArray below meth c cells slots (MQ below (rs_Q G0 s.heap.size post) ([.ref a0, .int (rc_o a1)] : List Value).toArray s 41 237 (rs_AA G0 s.heap.size)) 13 G (rs_AA G0 s.heap.size) 199 [(0, .ref a0), (7, .int (rc_o x7)), (8, .long x8), (10, .int (rc_o x10)), (11, .int (rc_o x11))] [] I := by
  induction n generalizing x7 x8 x10 x11 I with
  | zero => exact h.elim
  | succ n ih => exact gL_goes_199 (k199 := rL_goes_199 G post a0 a1  n) X hr hO hle hc T0  (fun x7 x8 x10 x11 J h2 => ih h2) h
def wL_goes_158 (G : rc_G) (post : Int → rc_G → rc_M → Prop) (a0 : Nat) (a1 : Int)  (x2 : Int64) (x4 : Int) (x7 : Int) (x8 : Int64) (I : rc_M) : Prop :=
  (¬ (1 : Int) = 0) ∧ (wX7_restore G a0 0 I (fun r46 I45 => rc_R r46 ∧ (rc_R x4 ∧ ((r46 = x4) ∧ (wX7_checksum G a0 I45 (fun r51 I50 => (r51 = x2) ∧ (∃ n, rL_goes_199 G post a0 a1  n x7 x8 1 0 I50)))))))
set_option maxRecDepth 100000 in
set_option maxHeartbeats 4000000 in
theorem gL_goes_158 {p : Program} {l : Launch} {e : Env} {s : State} {m : MethodId} {below : List Frame} {meth : Method} {c : Code} {G0 G : rc_G} {a0 : Nat} {a1 : Int} {I : rc_M} {post : Int → rc_G → rc_M → Prop} {cells slots : Nat}  {x2 : Int64} {x4 : Int} {x7 : Int} {x8 : Int64} (X : rc_X p s m ([.ref a0, .int (rc_o a1)] : List Value).toArray meth c cL_goes 13 wsL_goes RL G (rs_AA G0 s.heap.size)) (hr : meth.sig.returnType = some .boolean) (hO : rk_O s) (hle : rs_le G0 G) (hc : cells ≤ 41 ∧ slots ≤ 237) (T0 : kX7 G a0)   (h : wL_goes_158 G post a0 a1  x2 x4 x7 x8 I) : rc_g p l e rmL_goes s m ([.ref a0, .int (rc_o a1)] : List Value).toArray below meth c cells slots (MQ below (rs_Q G0 s.heap.size post) ([.ref a0, .int (rc_o a1)] : List Value).toArray s 41 237 (rs_AA G0 s.heap.size)) 13 G (rs_AA G0 s.heap.size) 158 [(0, .ref a0), (2, .long x2), (4, .int (rc_o x4)), (7, .int (rc_o x7)), (8, .long x8)] [] I := by
  unfold wL_goes_158 at h
  refine rc_iconst X dL_goes_158 ?_
  refine rc_goto X 163 dL_goes_159 (by decide) ?_
  refine rc_istore X [(10, .int (rc_o 1)), (0, .ref a0), (2, .long x2), (4, .int (rc_o x4)), (7, .int (rc_o x7)), (8, .long x8)] dL_goes_163 (by decide) rfl ?_
  refine rc_iload X dL_goes_165 0 rfl ?_
  obtain ⟨c44, h⟩ := h
  refine rc_if_eq X 193 dL_goes_167 (by decide) ⟨by decide, by decide⟩ (fun q => absurd q c44) (fun _ => ?_)
  refine rc_aload_n X dL_goes_170 rfl 1 rfl ?_
  refine rc_iconst X dL_goes_171 ?_
  refine rc_cVI (rest := []) X (mX7_restore T0 h) gL_goes_X7_restore rfl ⟨rfl, rfl⟩ dyX7_restore ⟨Nat.le_of_ble_eq_true rfl, Nat.le_of_ble_eq_true rfl⟩ (rc_recv X T0.1 rfl) rfl rfl (Nat.le_of_ble_eq_true rfl) dL_goes_172 ⟨hc.1, hc.2⟩ (fun r46 I45 h => ?_)
  refine rc_iload X dL_goes_175 3 rfl ?_
  obtain ⟨c47, h⟩ := h
  obtain ⟨c48, h⟩ := h
  obtain ⟨c49, h⟩ := h
  refine rc_ic_ne X 193 dL_goes_177 (by decide) c47 c48 (fun q => absurd c49 q) (fun _ => ?_)
  refine rc_aload_n X dL_goes_180 rfl 1 rfl ?_
  refine rc_cVL (rest := []) X (mX7_checksum T0 h) gL_goes_X7_checksum rfl ⟨rfl, rfl⟩ dyX7_checksum ⟨Nat.le_of_ble_eq_true rfl, Nat.le_of_ble_eq_true rfl⟩ (rc_recv X T0.1 rfl) rfl rfl (Nat.le_of_ble_eq_true rfl) dL_goes_181 ⟨hc.1, hc.2⟩ (fun r51 I50 h => ?_)
  refine rc_lload_n X dL_goes_184 rfl 2 rfl ?_
  obtain ⟨c52, h⟩ := h
  refine rc_lne X 193 dL_goes_185 dL_goes_186 (by decide) c52 ?_
  refine rc_iconst X dL_goes_189 ?_
  refine rc_goto X 194 dL_goes_190 (by decide) ?_
  refine rc_istore X [(10, .int (rc_o 1)), (0, .ref a0), (2, .long x2), (4, .int (rc_o x4)), (7, .int (rc_o x7)), (8, .long x8)] dL_goes_194 (by decide) rfl ?_
  refine rc_iconst X dL_goes_196 ?_
  refine rc_istore X [(11, .int (rc_o 0)), (10, .int (rc_o 1)), (0, .ref a0), (2, .long x2), (4, .int (rc_o x4)), (7, .int (rc_o x7)), (8, .long x8)] dL_goes_197 (by decide) rfl ?_
  refine rc_subl [(0, .ref a0), (7, .int (rc_o x7)), (8, .long x8), (10, .int (rc_o 1)), (11, .int (rc_o 0))] [2, 5, 6, 1, 0] rfl ?_
  obtain ⟨n, h⟩ := h
  exact sL_goes_199 X hr hO hle ⟨hc.1, hc.2⟩ T0  h
def wL_goes_136 (G : rc_G) (post : Int → rc_G → rc_M → Prop) (a0 : Nat) (a1 : Int)  (x2 : Int64) (x4 : Int) (x5 : Int) (x7 : Int) (x8 : Int64) (y0 : Int) (y1 : Int) (I : rc_M) : Prop :=
  rc_R y1 ∧ (rc_R y0 ∧ ((y1 = y0) ∧ (wX7_tell G a0 0 I (fun r41 I40 => rc_R r41 ∧ ((r41 = 1 → wL_goes_158 G post a0 a1  x2 x4 x7 x8 I40) ∧ (¬ r41 = 1 → wX7_tell G a0 1 I40 (fun r85 I84 => rc_R r85 ∧ (rc_R x5 ∧ ((r85 = x5) ∧ (wL_goes_158 G post a0 a1  x2 x4 x7 x8 I84))))))))))
set_option maxRecDepth 100000 in
set_option maxHeartbeats 4000000 in
theorem gL_goes_136 {p : Program} {l : Launch} {e : Env} {s : State} {m : MethodId} {below : List Frame} {meth : Method} {c : Code} {G0 G : rc_G} {a0 : Nat} {a1 : Int} {I : rc_M} {post : Int → rc_G → rc_M → Prop} {cells slots : Nat}  {x2 : Int64} {x4 : Int} {x5 : Int} {x7 : Int} {x8 : Int64} {y0 : Int} {y1 : Int} (X : rc_X p s m ([.ref a0, .int (rc_o a1)] : List Value).toArray meth c cL_goes 13 wsL_goes RL G (rs_AA G0 s.heap.size)) (hr : meth.sig.returnType = some .boolean) (hO : rk_O s) (hle : rs_le G0 G) (hc : cells ≤ 41 ∧ slots ≤ 237) (T0 : kX7 G a0)   (h : wL_goes_136 G post a0 a1  x2 x4 x5 x7 x8 y0 y1 I) : rc_g p l e rmL_goes s m ([.ref a0, .int (rc_o a1)] : List Value).toArray below meth c cells slots (MQ below (rs_Q G0 s.heap.size post) ([.ref a0, .int (rc_o a1)] : List Value).toArray s 41 237 (rs_AA G0 s.heap.size)) 13 G (rs_AA G0 s.heap.size) 136 [(0, .ref a0), (2, .long x2), (4, .int (rc_o x4)), (5, .int (rc_o x5)), (7, .int (rc_o x7)), (8, .long x8)] [.int (rc_o y0), .int (rc_o y1)] I := by
  unfold wL_goes_136 at h
  obtain ⟨c37, h⟩ := h
  obtain ⟨c38, h⟩ := h
  obtain ⟨c39, h⟩ := h
  refine rc_ic_ne X 162 dL_goes_136 (by decide) c37 c38 (fun q => absurd c39 q) (fun _ => ?_)
  refine rc_aload_n X dL_goes_139 rfl 0 rfl ?_
  refine rc_iconst X dL_goes_140 ?_
  refine rc_cVI (rest := []) X (mX7_tell T0 h) gL_goes_X7_tell rfl ⟨rfl, rfl⟩ dyX7_tell ⟨Nat.le_of_ble_eq_true rfl, Nat.le_of_ble_eq_true rfl⟩ (rc_recv X T0.1 rfl) rfl rfl (Nat.le_of_ble_eq_true rfl) dL_goes_141 ⟨hc.1, hc.2⟩ (fun r41 I40 h => ?_)
  refine rc_iconst X dL_goes_144 ?_
  obtain ⟨c42, h⟩ := h
  refine rc_ic_eq X 158 dL_goes_145 (by decide) c42 ⟨by decide, by decide⟩ (fun c43 => ?_) (fun c43 => ?_)
  · have h := h.1 c43
    refine rc_subl [(0, .ref a0), (2, .long x2), (4, .int (rc_o x4)), (7, .int (rc_o x7)), (8, .long x8)] [0, 1, 2, 4, 5] rfl ?_
    exact gL_goes_158 X hr hO hle ⟨hc.1, hc.2⟩ T0   h
  · have h := h.2 c43
    refine rc_aload_n X dL_goes_148 rfl 0 rfl ?_
    refine rc_iconst X dL_goes_149 ?_
    refine rc_cVI (rest := []) X (mX7_tell T0 h) gL_goes_X7_tell rfl ⟨rfl, rfl⟩ dyX7_tell ⟨Nat.le_of_ble_eq_true rfl, Nat.le_of_ble_eq_true rfl⟩ (rc_recv X T0.1 rfl) rfl rfl (Nat.le_of_ble_eq_true rfl) dL_goes_150 ⟨hc.1, hc.2⟩ (fun r85 I84 h => ?_)
    refine rc_iload X dL_goes_153 3 rfl ?_
    obtain ⟨c86, h⟩ := h
    obtain ⟨c87, h⟩ := h
    obtain ⟨c88, h⟩ := h
    refine rc_ic_ne X 162 dL_goes_155 (by decide) c86 c87 (fun q => absurd c88 q) (fun _ => ?_)
    refine rc_subl [(0, .ref a0), (2, .long x2), (4, .int (rc_o x4)), (7, .int (rc_o x7)), (8, .long x8)] [0, 1, 2, 4, 5] rfl ?_
    exact gL_goes_158 X hr hO hle ⟨hc.1, hc.2⟩ T0   h
def wL_goes_135 (G : rc_G) (post : Int → rc_G → rc_M → Prop) (a0 : Nat) (a1 : Int)  (x2 : Int64) (x4 : Int) (x5 : Int) (x7 : Int) (x8 : Int64) (y0 : Int) (I : rc_M) : Prop :=
  wL_goes_136 G post a0 a1  x2 x4 x5 x7 x8 0 y0 I
set_option maxRecDepth 100000 in
set_option maxHeartbeats 4000000 in
theorem gL_goes_135 {p : Program} {l : Launch} {e : Env} {s : State} {m : MethodId} {below : List Frame} {meth : Method} {c : Code} {G0 G : rc_G} {a0 : Nat} {a1 : Int} {I : rc_M} {post : Int → rc_G → rc_M → Prop} {cells slots : Nat}  {x2 : Int64} {x4 : Int} {x5 : Int} {x7 : Int} {x8 : Int64} {y0 : Int} (X : rc_X p s m ([.ref a0, .int (rc_o a1)] : List Value).toArray meth c cL_goes 13 wsL_goes RL G (rs_AA G0 s.heap.size)) (hr : meth.sig.returnType = some .boolean) (hO : rk_O s) (hle : rs_le G0 G) (hc : cells ≤ 41 ∧ slots ≤ 237) (T0 : kX7 G a0)   (h : wL_goes_135 G post a0 a1  x2 x4 x5 x7 x8 y0 I) : rc_g p l e rmL_goes s m ([.ref a0, .int (rc_o a1)] : List Value).toArray below meth c cells slots (MQ below (rs_Q G0 s.heap.size post) ([.ref a0, .int (rc_o a1)] : List Value).toArray s 41 237 (rs_AA G0 s.heap.size)) 13 G (rs_AA G0 s.heap.size) 135 [(0, .ref a0), (2, .long x2), (4, .int (rc_o x4)), (5, .int (rc_o x5)), (7, .int (rc_o x7)), (8, .long x8)] [.int (rc_o y0)] I := by
  unfold wL_goes_135 at h
  refine rc_iconst X dL_goes_135 ?_
  refine rc_subl [(0, .ref a0), (2, .long x2), (4, .int (rc_o x4)), (5, .int (rc_o x5)), (7, .int (rc_o x7)), (8, .long x8)] [0, 1, 2, 3, 4, 5] rfl ?_
  exact gL_goes_136 X hr hO hle ⟨hc.1, hc.2⟩ T0   h
def wL_goes_115 (G : rc_G) (post : Int → rc_G → rc_M → Prop) (a0 : Nat) (a1 : Int)  (x2 : Int64) (x4 : Int) (x5 : Int) (x6 : Int) (x7 : Int) (x8 : Int64) (y0 : Int) (I : rc_M) : Prop :=
  rc_R x5 ∧ ((x5 = (-100005) → wL_goes_135 G post a0 a1  x2 x4 x5 x7 x8 y0 I) ∧ (¬ x5 = (-100005) → rc_R (x5 - x6) ∧ (rc_R a1 ∧ ((a1 < (x5 - x6) → wL_goes_135 G post a0 a1  x2 x4 x5 x7 x8 y0 I) ∧ (¬ a1 < (x5 - x6) → wL_goes_136 G post a0 a1  x2 x4 x5 x7 x8 1 y0 I)))))
set_option maxRecDepth 100000 in
set_option maxHeartbeats 4000000 in
theorem gL_goes_115 {p : Program} {l : Launch} {e : Env} {s : State} {m : MethodId} {below : List Frame} {meth : Method} {c : Code} {G0 G : rc_G} {a0 : Nat} {a1 : Int} {I : rc_M} {post : Int → rc_G → rc_M → Prop} {cells slots : Nat}  {x2 : Int64} {x4 : Int} {x5 : Int} {x6 : Int} {x7 : Int} {x8 : Int64} {y0 : Int} (X : rc_X p s m ([.ref a0, .int (rc_o a1)] : List Value).toArray meth c cL_goes 13 wsL_goes RL G (rs_AA G0 s.heap.size)) (hr : meth.sig.returnType = some .boolean) (hO : rk_O s) (hle : rs_le G0 G) (hc : cells ≤ 41 ∧ slots ≤ 237) (T0 : kX7 G a0)   (h : wL_goes_115 G post a0 a1  x2 x4 x5 x6 x7 x8 y0 I) : rc_g p l e rmL_goes s m ([.ref a0, .int (rc_o a1)] : List Value).toArray below meth c cells slots (MQ below (rs_Q G0 s.heap.size post) ([.ref a0, .int (rc_o a1)] : List Value).toArray s 41 237 (rs_AA G0 s.heap.size)) 13 G (rs_AA G0 s.heap.size) 115 [(0, .ref a0), (1, .int (rc_o a1)), (2, .long x2), (4, .int (rc_o x4)), (5, .int (rc_o x5)), (6, .int (rc_o x6)), (7, .int (rc_o x7)), (8, .long x8)] [.int (rc_o y0)] I := by
  unfold wL_goes_115 at h
  refine rc_iload X dL_goes_115 4 rfl ?_
  refine rc_ldc (n := (-100005)) X qL_goes_2 (by decide +kernel) dL_goes_117 ?_
  obtain ⟨c35, h⟩ := h
  refine rc_ic_eq X 135 dL_goes_119 (by decide) c35 ⟨by decide, by decide⟩ (fun c36 => ?_) (fun c36 => ?_)
  · have h := h.1 c36
    refine rc_subl [(0, .ref a0), (2, .long x2), (4, .int (rc_o x4)), (5, .int (rc_o x5)), (7, .int (rc_o x7)), (8, .long x8)] [0, 2, 3, 4, 6, 7] rfl ?_
    exact gL_goes_135 X hr hO hle ⟨hc.1, hc.2⟩ T0   h
  · have h := h.2 c36
    refine rc_iload X dL_goes_122 4 rfl ?_
    refine rc_iload X dL_goes_124 5 rfl ?_
    refine rc_isub X dL_goes_126 ?_
    refine rc_iload_n X dL_goes_127 rfl 1 rfl ?_
    obtain ⟨c89, h⟩ := h
    obtain ⟨c90, h⟩ := h
    refine rc_ic_gt X 135 dL_goes_128 (by decide) c89 c90 (fun c91 => ?_) (fun c91 => ?_)
    · have h := h.1 c91
      refine rc_subl [(0, .ref a0), (2, .long x2), (4, .int (rc_o x4)), (5, .int (rc_o x5)), (7, .int (rc_o x7)), (8, .long x8)] [0, 2, 3, 4, 6, 7] rfl ?_
      exact gL_goes_135 X hr hO hle ⟨hc.1, hc.2⟩ T0   h
    · have h := h.2 c91
      refine rc_iconst X dL_goes_131 ?_
      refine rc_goto X 136 dL_goes_132 (by decide) ?_
      refine rc_subl [(0, .ref a0), (2, .long x2), (4, .int (rc_o x4)), (5, .int (rc_o x5)), (7, .int (rc_o x7)), (8, .long x8)] [0, 2, 3, 4, 6, 7] rfl ?_
      exact gL_goes_136 X hr hO hle ⟨hc.1, hc.2⟩ T0   h
def wL_goes_0 (G : rc_G) (post : Int → rc_G → rc_M → Prop) (a0 : Nat) (a1 : Int)   (I : rc_M) : Prop :=
  wX7_tell G a0 0 I (fun r2 I1 => rc_R r2 ∧ ((¬ r2 = 0 → wX7_checksum G a0 I1 (fun r6 I5 => wX7_save G a0 0 I5 (fun r8 G9 I7 => wX7_forecast G9 a0 0 I7 (fun r12 I11 => wX7_tell G9 a0 1 I11 (fun r14 I13 => wX7_pass G9 a0 a1 I13 (fun r16 I15 => wX7_checksum G9 a0 I15 (fun r18 I17 => rc_R r8 ∧ ((¬ r8 ≤ 0) ∧ (rc_R r16 ∧ ((¬ r16 ≤ 0) ∧ (rc_R r16 ∧ (rc_R a1 ∧ ((¬ a1 < r16) ∧ (wX7_tell G9 a0 1 I17 (fun r27 I26 => rc_R r27 ∧ (rc_R (r14 + r16) ∧ ((r27 = (r14 + r16)) ∧ (wX7_tell G9 a0 0 I26 (fun r32 I31 => rc_R r32 ∧ ((¬ r32 = 0 → wL_goes_115 G9 post a0 a1  r6 r8 r12 r14 r16 r18 0 I31) ∧ (r32 = 0 → wL_goes_115 G9 post a0 a1  r6 r8 r12 r14 r16 r18 1 I31))))))))))))))))))))) ∧ (r2 = 0 → wX7_pass G a0 a1 I1 (fun r93 I92 => rc_R r93 ∧ ((r93 = (-100003)) ∧ (wX7_forecast G a0 0 I92 (fun r97 I96 => rc_R r97 ∧ ((r97 = (-100003)) ∧ (post 1 G I96)))))))))
set_option maxRecDepth 100000 in
set_option maxHeartbeats 4000000 in
theorem gL_goes_0 {p : Program} {l : Launch} {e : Env} {s : State} {m : MethodId} {below : List Frame} {meth : Method} {c : Code} {G0 G : rc_G} {a0 : Nat} {a1 : Int} {I : rc_M} {post : Int → rc_G → rc_M → Prop} {cells slots : Nat}   (X : rc_X p s m ([.ref a0, .int (rc_o a1)] : List Value).toArray meth c cL_goes 13 wsL_goes RL G (rs_AA G0 s.heap.size)) (hr : meth.sig.returnType = some .boolean) (hO : rk_O s) (hle : rs_le G0 G) (hc : cells ≤ 41 ∧ slots ≤ 237) (T0 : kX7 G a0)   (h : wL_goes_0 G post a0 a1   I) : rc_g p l e rmL_goes s m ([.ref a0, .int (rc_o a1)] : List Value).toArray below meth c 0 0 (MQ below (rs_Q G0 s.heap.size post) ([.ref a0, .int (rc_o a1)] : List Value).toArray s 41 237 (rs_AA G0 s.heap.size)) 13 G (rs_AA G0 s.heap.size) 0 [(0, .ref a0), (1, .int (rc_o a1))] [] I := by
  unfold wL_goes_0 at h
  refine rc_aload_n X dL_goes_0 rfl 0 rfl ?_
  refine rc_iconst X dL_goes_1 ?_
  refine rc_cVI (rest := []) X (mX7_tell T0 h) gL_goes_X7_tell rfl ⟨rfl, rfl⟩ dyX7_tell ⟨Nat.le_of_ble_eq_true rfl, Nat.le_of_ble_eq_true rfl⟩ (rc_recv X T0.1 rfl) rfl rfl (Nat.le_of_ble_eq_true rfl) dL_goes_2 ⟨Nat.zero_le _, Nat.zero_le _⟩ (fun r2 I1 h => ?_)
  obtain ⟨c3, h⟩ := h
  refine rc_if_ne X 34 dL_goes_5 (by decide) c3 (fun c4 => ?_) (fun c4 => ?_)
  · have h := h.1 c4
    refine rc_aload_n X dL_goes_34 rfl 0 rfl ?_
    refine rc_cVL (rest := []) X (mX7_checksum T0 h) gL_goes_X7_checksum rfl ⟨rfl, rfl⟩ dyX7_checksum ⟨Nat.le_of_ble_eq_true rfl, Nat.le_of_ble_eq_true rfl⟩ (rc_recv X T0.1 rfl) rfl rfl (Nat.le_of_ble_eq_true rfl) dL_goes_35 ⟨Nat.zero_le _, Nat.zero_le _⟩ (fun r6 I5 h => ?_)
    refine rc_lstore_n X [(2, .long r6), (0, .ref a0), (1, .int (rc_o a1))] dL_goes_38 rfl (by decide) rfl ?_
    refine rc_aload_n X dL_goes_39 rfl 1 rfl ?_
    refine rc_iconst X dL_goes_40 ?_
    refine rl_cSave (rest := []) X hO (fun q h => Or.inr h) (fun sz => mX7_save T0 h sz) gL_goes_X7_save ⟨Nat.le_of_ble_eq_true rfl, Nat.le_of_ble_eq_true rfl⟩ (rc_recv X T0.1 rfl) (Nat.le_of_ble_eq_true rfl) dL_goes_41 ⟨Nat.le_of_ble_eq_true rfl, Nat.le_of_ble_eq_true rfl⟩ (fun r8 G9 I7 h le10 X => ?_)
    have hle := hle.tr le10
    have T0 := kX7_le le10 T0
    refine rc_istore X [(4, .int (rc_o r8)), (2, .long r6), (0, .ref a0), (1, .int (rc_o a1))] dL_goes_44 (by decide) rfl ?_
    refine rc_aload_n X dL_goes_46 rfl 2 rfl ?_
    refine rc_iconst X dL_goes_47 ?_
    refine rc_cVI (rest := []) X (mX7_forecast T0 h) gL_goes_X7_forecast rfl ⟨rfl, rfl⟩ dyX7_forecast ⟨Nat.le_of_ble_eq_true rfl, Nat.le_of_ble_eq_true rfl⟩ (rc_recv X T0.1 rfl) rfl rfl (Nat.le_of_ble_eq_true rfl) dL_goes_48 ⟨Nat.le_of_ble_eq_true rfl, Nat.le_of_ble_eq_true rfl⟩ (fun r12 I11 h => ?_)
    refine rc_istore X [(5, .int (rc_o r12)), (4, .int (rc_o r8)), (2, .long r6), (0, .ref a0), (1, .int (rc_o a1))] dL_goes_51 (by decide) rfl ?_
    refine rc_aload_n X dL_goes_53 rfl 3 rfl ?_
    refine rc_iconst X dL_goes_54 ?_
    refine rc_cVI (rest := []) X (mX7_tell T0 h) gL_goes_X7_tell rfl ⟨rfl, rfl⟩ dyX7_tell ⟨Nat.le_of_ble_eq_true rfl, Nat.le_of_ble_eq_true rfl⟩ (rc_recv X T0.1 rfl) rfl rfl (Nat.le_of_ble_eq_true rfl) dL_goes_55 ⟨Nat.le_of_ble_eq_true rfl, Nat.le_of_ble_eq_true rfl⟩ (fun r14 I13 h => ?_)
    refine rc_istore X [(6, .int (rc_o r14)), (5, .int (rc_o r12)), (4, .int (rc_o r8)), (2, .long r6), (0, .ref a0), (1, .int (rc_o a1))] dL_goes_58 (by decide) rfl ?_
    refine rc_aload_n X dL_goes_60 rfl 4 rfl ?_
    refine rc_iload_n X dL_goes_61 rfl 5 rfl ?_
    refine rc_cVI (rest := []) X (mX7_pass T0 h) gL_goes_X7_pass rfl ⟨rfl, rfl⟩ dyX7_pass ⟨Nat.le_of_ble_eq_true rfl, Nat.le_of_ble_eq_true rfl⟩ (rc_recv X T0.1 rfl) rfl rfl (Nat.le_of_ble_eq_true rfl) dL_goes_62 ⟨Nat.le_of_ble_eq_true rfl, Nat.le_of_ble_eq_true rfl⟩ (fun r16 I15 h => ?_)
    refine rc_istore X [(7, .int (rc_o r16)), (6, .int (rc_o r14)), (5, .int (rc_o r12)), (4, .int (rc_o r8)), (2, .long r6), (0, .ref a0), (1, .int (rc_o a1))] dL_goes_65 (by decide) rfl ?_
    refine rc_aload_n X dL_goes_67 rfl 5 rfl ?_
    refine rc_cVL (rest := []) X (mX7_checksum T0 h) gL_goes_X7_checksum rfl ⟨rfl, rfl⟩ dyX7_checksum ⟨Nat.le_of_ble_eq_true rfl, Nat.le_of_ble_eq_true rfl⟩ (rc_recv X T0.1 rfl) rfl rfl (Nat.le_of_ble_eq_true rfl) dL_goes_68 ⟨Nat.le_of_ble_eq_true rfl, Nat.le_of_ble_eq_true rfl⟩ (fun r18 I17 h => ?_)
    refine rc_lstore X [(8, .long r18), (7, .int (rc_o r16)), (6, .int (rc_o r14)), (5, .int (rc_o r12)), (4, .int (rc_o r8)), (2, .long r6), (0, .ref a0), (1, .int (rc_o a1))] dL_goes_71 (by decide) rfl ?_
    refine rc_iload X dL_goes_73 4 rfl ?_
    obtain ⟨c19, h⟩ := h
    obtain ⟨c20, h⟩ := h
    refine rc_if_le X 162 dL_goes_75 (by decide) c19 (fun q => absurd q c20) (fun _ => ?_)
    refine rc_iload X dL_goes_78 1 rfl ?_
    obtain ⟨c21, h⟩ := h
    obtain ⟨c22, h⟩ := h
    refine rc_if_le X 162 dL_goes_80 (by decide) c21 (fun q => absurd q c22) (fun _ => ?_)
    refine rc_iload X dL_goes_83 1 rfl ?_
    refine rc_iload_n X dL_goes_85 rfl 7 rfl ?_
    obtain ⟨c23, h⟩ := h
    obtain ⟨c24, h⟩ := h
    obtain ⟨c25, h⟩ := h
    refine rc_ic_gt X 162 dL_goes_86 (by decide) c23 c24 (fun q => absurd q c25) (fun _ => ?_)
    refine rc_aload_n X dL_goes_89 rfl 6 rfl ?_
    refine rc_iconst X dL_goes_90 ?_
    refine rc_cVI (rest := []) X (mX7_tell T0 h) gL_goes_X7_tell rfl ⟨rfl, rfl⟩ dyX7_tell ⟨Nat.le_of_ble_eq_true rfl, Nat.le_of_ble_eq_true rfl⟩ (rc_recv X T0.1 rfl) rfl rfl (Nat.le_of_ble_eq_true rfl) dL_goes_91 ⟨Nat.le_of_ble_eq_true rfl, Nat.le_of_ble_eq_true rfl⟩ (fun r27 I26 h => ?_)
    refine rc_iload X dL_goes_94 2 rfl ?_
    refine rc_iload X dL_goes_96 1 rfl ?_
    refine rc_iadd X dL_goes_98 ?_
    obtain ⟨c28, h⟩ := h
    obtain ⟨c29, h⟩ := h
    obtain ⟨c30, h⟩ := h
    refine rc_ic_ne X 162 dL_goes_99 (by decide) c28 c29 (fun q => absurd c30 q) (fun _ => ?_)
    refine rc_aload_n X dL_goes_102 rfl 6 rfl ?_
    refine rc_iconst X dL_goes_103 ?_
    refine rc_cVI (rest := []) X (mX7_tell T0 h) gL_goes_X7_tell rfl ⟨rfl, rfl⟩ dyX7_tell ⟨Nat.le_of_ble_eq_true rfl, Nat.le_of_ble_eq_true rfl⟩ (rc_recv X T0.1 rfl) rfl rfl (Nat.le_of_ble_eq_true rfl) dL_goes_104 ⟨Nat.le_of_ble_eq_true rfl, Nat.le_of_ble_eq_true rfl⟩ (fun r32 I31 h => ?_)
    obtain ⟨c33, h⟩ := h
    refine rc_if_ne X 114 dL_goes_107 (by decide) c33 (fun c34 => ?_) (fun c34 => ?_)
    · have h := h.1 c34
      refine rc_iconst X dL_goes_114 ?_
      refine rc_subl [(0, .ref a0), (1, .int (rc_o a1)), (2, .long r6), (4, .int (rc_o r8)), (5, .int (rc_o r12)), (6, .int (rc_o r14)), (7, .int (rc_o r16)), (8, .long r18)] [6, 7, 5, 4, 3, 2, 1, 0] rfl ?_
      exact gL_goes_115 X hr hO hle ⟨Nat.le_of_ble_eq_true rfl, Nat.le_of_ble_eq_true rfl⟩ T0   h
    · have h := h.2 c34
      refine rc_iconst X dL_goes_110 ?_
      refine rc_goto X 115 dL_goes_111 (by decide) ?_
      refine rc_subl [(0, .ref a0), (1, .int (rc_o a1)), (2, .long r6), (4, .int (rc_o r8)), (5, .int (rc_o r12)), (6, .int (rc_o r14)), (7, .int (rc_o r16)), (8, .long r18)] [6, 7, 5, 4, 3, 2, 1, 0] rfl ?_
      exact gL_goes_115 X hr hO hle ⟨Nat.le_of_ble_eq_true rfl, Nat.le_of_ble_eq_true rfl⟩ T0   h
  · have h := h.2 c4
    refine rc_aload_n X dL_goes_8 rfl 0 rfl ?_
    refine rc_iload_n X dL_goes_9 rfl 1 rfl ?_
    refine rc_cVI (rest := []) X (mX7_pass T0 h) gL_goes_X7_pass rfl ⟨rfl, rfl⟩ dyX7_pass ⟨Nat.le_of_ble_eq_true rfl, Nat.le_of_ble_eq_true rfl⟩ (rc_recv X T0.1 rfl) rfl rfl (Nat.le_of_ble_eq_true rfl) dL_goes_10 ⟨Nat.zero_le _, Nat.zero_le _⟩ (fun r93 I92 h => ?_)
    refine rc_ldc (n := (-100003)) X qL_goes_1 (by decide +kernel) dL_goes_13 ?_
    obtain ⟨c94, h⟩ := h
    obtain ⟨c95, h⟩ := h
    refine rc_ic_ne X 32 dL_goes_15 (by decide) c94 ⟨by decide, by decide⟩ (fun q => absurd c95 q) (fun _ => ?_)
    refine rc_aload_n X dL_goes_18 rfl 0 rfl ?_
    refine rc_iconst X dL_goes_19 ?_
    refine rc_cVI (rest := []) X (mX7_forecast T0 h) gL_goes_X7_forecast rfl ⟨rfl, rfl⟩ dyX7_forecast ⟨Nat.le_of_ble_eq_true rfl, Nat.le_of_ble_eq_true rfl⟩ (rc_recv X T0.1 rfl) rfl rfl (Nat.le_of_ble_eq_true rfl) dL_goes_20 ⟨Nat.zero_le _, Nat.zero_le _⟩ (fun r97 I96 h => ?_)
    refine rc_ldc (n := (-100003)) X qL_goes_1 (by decide +kernel) dL_goes_23 ?_
    obtain ⟨c98, h⟩ := h
    obtain ⟨c99, h⟩ := h
    refine rc_ic_ne X 32 dL_goes_25 (by decide) c98 ⟨by decide, by decide⟩ (fun q => absurd c99 q) (fun _ => ?_)
    refine rc_iconst X dL_goes_28 ?_
    refine rc_goto X 33 dL_goes_29 (by decide) ?_
    exact rs_zret X hr ⟨hle, X.2.2.1, X.2.2.2.1⟩ dL_goes_33 (Nat.zero_le _) (Nat.zero_le _) (Or.inr rfl) h
def wL_goes (G : rc_G) (a0 : Nat) (a1 : Int) (I : rc_M) (post : Int → rc_G → rc_M → Prop) : Prop := wL_goes_0 G post a0 a1 I
set_option maxRecDepth 100000 in
set_option maxHeartbeats 4000000 in
theorem mL_goes {l : Launch} {G : rc_G} {a0 : Nat} {a1 : Int} {I : rc_M} {post : Int → rc_G → rc_M → Prop} (T0 : kX7 G a0) (h : wL_goes G a0 a1 I post) (sz : Nat) : Met l yL_goes wsL_goes rmL_goes (va_Pc [.ref a0, .int (rc_o a1)] (rs_B G I sz)) (rs_Q G sz post) 41 237 (rs_AA G sz) := by
  refine Met.ofW (cc := cL_goes) (maxL := 13) (ret := some .boolean) (by decide +kernel) rfl ?_
  intro p e s m args below meth c s₁ B hml hv
  obtain ⟨rfl, hsz, ⟨hP, hK, hn, hSt⟩, hO⟩ := hv
  subst hsz
  have X : rc_X p s m ([.ref a0, .int (rc_o a1)] : List Value).toArray meth c cL_goes 13 wsL_goes RL G (rs_AA G s.heap.size) := ⟨⟨B.exec, B.bytes, hml, findClass_of_methodNamed B.named, atoms_spec (ws := wsL_goes) B.pre⟩, hK, hn, fun _ h => Or.inl h, ⟨hSt.1.wide, hSt.2.1.wide, hSt.2.2.wide⟩, B.notSynchronized⟩
  have hr := B.returns
  have hl := lv_entry [.ref a0, .int (rc_o a1)] (n := 13) (Nat.le_of_ble_eq_true rfl)
  rw [lg_entry_eq]
  generalize (lg_sl [.ref a0, .int (rc_o a1)] ++ List.replicate (13 - (lg_sl [.ref a0, .int (rc_o a1)]).length) Slot.unset).toArray = ls at hl ⊢
  exact gL_goes_0 (cells := 0) (slots := 0) X hr hO (rs_le.rf G) ⟨Nat.zero_le _, Nat.zero_le _⟩ T0 h s.heap [] ls hl hP va_S.rf
