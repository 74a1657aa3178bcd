/-! L_sound -/
abbrev rmL_sound : Room := { frames := 3, cells := 0, slots := 0, locals := 65 }
theorem dyL_sound : yL_sound.cls = RL ∧ yL_sound.cls ≠ "java/lang/invoke/MethodHandle" ∧ yL_sound.cls ≠ "java/lang/invoke/VarHandle" ∧ (parseMethodDescriptor yL_sound.desc).map (fun d => d.parameters.length) = some 2 := ⟨rfl, by decide +kernel, by decide +kernel, by decide +kernel⟩
theorem qL_sound_1 : Cond.constant RL 19 (-100005) ∈ wsL_sound := List.mem_of_getElem? (i := 1) (by decide +kernel)
def wL_sound_435 (G : rc_G) (post : Int → rc_M → Prop) (a0 : Nat) (a1 : Int)   (I : rc_M) : Prop :=
  post 1 I
set_option maxRecDepth 100000 in
set_option maxHeartbeats 4000000 in
theorem gL_sound_435 {p : Program} {l : Launch} {e : Env} {s : State} {m : MethodId} {below : List Frame} {meth : Method} {c : Code} {G : rc_G} {a0 : Nat} {a1 : Int} {I : rc_M} {post : Int → rc_M → Prop}   (X : rc_X p s m ([.ref a0, .int (rc_o a1)] : List Value).toArray meth c cL_sound 10 wsL_sound RL G (rc_A G)) (hr : meth.sig.returnType = some .boolean) (T0 : kX7 G a0)   (h : wL_sound_435 G post a0 a1   I) : rc_g p l e rmL_sound s m ([.ref a0, .int (rc_o a1)] : List Value).toArray below meth c 0 0 (MQ below (rc_QI G post) ([.ref a0, .int (rc_o a1)] : List Value).toArray s 0 0 (rc_A G)) 10 G (rc_A G) 435 [] [] I := by
  unfold wL_sound_435 at h
  refine rc_iconst X dL_sound_435 ?_
  refine rc_goto X 440 dL_sound_436 (by decide) ?_
  exact rc_zret X hr dL_sound_440 (Or.inr rfl) h
def wL_sound_318 (G : rc_G) (post : Int → rc_M → Prop) (a0 : Nat) (a1 : Int) (k318 : Int → Int → Int → Int → Int → rc_M → Prop) (x2 : Int) (x4 : Int) (x5 : Int) (x6 : Int) (x7 : Int) (I : rc_M) : Prop :=
  wX7_tell G a0 8 I (fun r56 I55 => rc_R x7 ∧ (rc_R r56 ∧ ((r56 < x7 → rc_R x5 ∧ ((¬ x5 = 0) ∧ (rc_R x6 ∧ ((¬ 1 < x6) ∧ (rc_R x4 ∧ ((¬ x4 = 0 → wL_sound_435 G post a0 a1   I55) ∧ (x4 = 0 → wX7_tell G a0 1 I55 (fun r67 I66 => rc_R r67 ∧ ((r67 = 0 → wL_sound_435 G post a0 a1   I66) ∧ (¬ r67 = 0 → wX7_projector G a0 x2 0 I66 (fun r71 I70 => rc_R r71 ∧ ((r71 = 4) ∧ (wX7_projector G a0 x2 1 I70 (fun r75 I74 => rc_R r75 ∧ (rc_R (a1 - 1) ∧ ((r75 = (a1 - 1)) ∧ (wL_sound_435 G post a0 a1   I74))))))))))))))))) ∧ (¬ r56 < x7 → rc_R x5 ∧ ((¬ x5 = 0) ∧ (wX7_task G a0 x7 0 I55 (fun r82 I81 => rc_R r82 ∧ ((¬ r82 < 0) ∧ (wX7_task G a0 x7 0 I81 (fun r86 I85 => rc_R r86 ∧ ((¬ 3 ≤ r86) ∧ (wX7_task G a0 x7 1 I85 (fun r90 I89 => rc_R r90 ∧ ((¬ r90 < 0) ∧ (wX7_task G a0 x7 1 I89 (fun r94 I93 => rc_R r94 ∧ ((¬ 2 ≤ r94) ∧ (k318 x2 x4 1 x6 (x7 + 1) I93))))))))))))))))))
set_option maxRecDepth 100000 in
set_option maxHeartbeats 4000000 in
theorem gL_sound_318 {p : Program} {l : Launch} {e : Env} {s : State} {m : MethodId} {below : List Frame} {meth : Method} {c : Code} {G : rc_G} {a0 : Nat} {a1 : Int} {I : rc_M} {post : Int → rc_M → Prop} {k318 : Int → Int → Int → Int → Int → rc_M → Prop} {x2 : Int} {x4 : Int} {x5 : Int} {x6 : Int} {x7 : Int} (X : rc_X p s m ([.ref a0, .int (rc_o a1)] : List Value).toArray meth c cL_sound 10 wsL_sound RL G (rc_A G)) (hr : meth.sig.returnType = some .boolean) (T0 : kX7 G a0) (hk318 : ∀ (x2 : Int) (x4 : Int) (x5 : Int) (x6 : Int) (x7 : Int) (J : rc_M), k318 x2 x4 x5 x6 x7 J → rc_g p l e rmL_sound s m ([.ref a0, .int (rc_o a1)] : List Value).toArray below meth c 0 0 (MQ below (rc_QI G post) ([.ref a0, .int (rc_o a1)] : List Value).toArray s 0 0 (rc_A G)) 10 G (rc_A G) 318 [(0, .ref a0), (1, .int (rc_o a1)), (2, .int (rc_o x2)), (4, .int (rc_o x4)), (5, .int (rc_o x5)), (6, .int (rc_o x6)), (7, .int (rc_o x7))] [] J)  (h : wL_sound_318 G post a0 a1 k318 x2 x4 x5 x6 x7 I) : rc_g p l e rmL_sound s m ([.ref a0, .int (rc_o a1)] : List Value).toArray below meth c 0 0 (MQ below (rc_QI G post) ([.ref a0, .int (rc_o a1)] : List Value).toArray s 0 0 (rc_A G)) 10 G (rc_A G) 318 [(0, .ref a0), (1, .int (rc_o a1)), (2, .int (rc_o x2)), (4, .int (rc_o x4)), (5, .int (rc_o x5)), (6, .int (rc_o x6)), (7, .int (rc_o x7))] [] I := by
  unfold wL_sound_318 at h
  refine rc_iload X dL_sound_318 6 rfl ?_
  refine rc_aload_n X dL_sound_320 rfl 0 rfl ?_
  refine rc_bipush X dL_sound_321 (rc_b8 _ ⟨by decide, by decide⟩) ?_
  refine rc_cVI (rest := [.int (rc_o x7)]) X (mX7_tell T0 h) gL_sound_X7_tell rfl ⟨rfl, rfl⟩ dyX7_tell ⟨Nat.le_of_ble_eq_true rfl, Nat.le_of_ble_eq_true rfl⟩ (rc_recv X T0.1 rfl) rfl rfl (Nat.le_of_ble_eq_true rfl) dL_sound_323 ⟨Nat.zero_le _, Nat.zero_le _⟩ (fun r56 I55 h => ?_)
  obtain ⟨c57, h⟩ := h
  obtain ⟨c58, h⟩ := h
  refine rc_ic_gt X 389 dL_sound_326 (by decide) c57 c58 (fun c59 => ?_) (fun c59 => ?_)
  · have h := h.1 c59
    refine rc_iload X dL_sound_389 4 rfl ?_
    obtain ⟨c60, h⟩ := h
    obtain ⟨c61, h⟩ := h
    refine rc_if_eq X 439 dL_sound_391 (by decide) c60 (fun q => absurd q c61) (fun _ => ?_)
    refine rc_iload X dL_sound_394 5 rfl ?_
    refine rc_iconst X dL_sound_396 ?_
    obtain ⟨c62, h⟩ := h
    obtain ⟨c63, h⟩ := h
    refine rc_ic_gt X 439 dL_sound_397 (by decide) c62 ⟨by decide, by decide⟩ (fun q => absurd q c63) (fun _ => ?_)
    refine rc_iload X dL_sound_400 3 rfl ?_
    obtain ⟨c64, h⟩ := h
    refine rc_if_ne X 435 dL_sound_402 (by decide) c64 (fun c65 => ?_) (fun c65 => ?_)
    · have h := h.1 c65
      refine rc_subl [] [] rfl ?_
      exact gL_sound_435 X hr T0   h
    · have h := h.2 c65
      refine rc_aload_n X dL_sound_405 rfl 0 rfl ?_
      refine rc_iconst X dL_sound_406 ?_
      refine rc_cVI (rest := []) X (mX7_tell T0 h) gL_sound_X7_tell rfl ⟨rfl, rfl⟩ dyX7_tell ⟨Nat.le_of_ble_eq_true rfl, Nat.le_of_ble_eq_true rfl⟩ (rc_recv X T0.1 rfl) rfl rfl (Nat.le_of_ble_eq_true rfl) dL_sound_407 ⟨Nat.zero_le _, Nat.zero_le _⟩ (fun r67 I66 h => ?_)
      obtain ⟨c68, h⟩ := h
      refine rc_if_eq X 435 dL_sound_410 (by decide) c68 (fun c69 => ?_) (fun c69 => ?_)
      · have h := h.1 c69
        refine rc_subl [] [] rfl ?_
        exact gL_sound_435 X hr T0   h
      · have h := h.2 c69
        refine rc_aload_n X dL_sound_413 rfl 0 rfl ?_
        refine rc_iload_n X dL_sound_414 rfl 2 rfl ?_
        refine rc_iconst X dL_sound_415 ?_
        refine rc_cVI (rest := []) X (mX7_projector T0 h) gL_sound_X7_projector rfl ⟨rfl, rfl⟩ dyX7_projector ⟨Nat.le_of_ble_eq_true rfl, Nat.le_of_ble_eq_true rfl⟩ (rc_recv X T0.1 rfl) rfl rfl (Nat.le_of_ble_eq_true rfl) dL_sound_416 ⟨Nat.zero_le _, Nat.zero_le _⟩ (fun r71 I70 h => ?_)
        refine rc_iconst X dL_sound_419 ?_
        obtain ⟨c72, h⟩ := h
        obtain ⟨c73, h⟩ := h
        refine rc_ic_ne X 439 dL_sound_420 (by decide) c72 ⟨by decide, by decide⟩ (fun q => absurd c73 q) (fun _ => ?_)
        refine rc_aload_n X dL_sound_423 rfl 0 rfl ?_
        refine rc_iload_n X dL_sound_424 rfl 2 rfl ?_
        refine rc_iconst X dL_sound_425 ?_
        refine rc_cVI (rest := []) X (mX7_projector T0 h) gL_sound_X7_projector rfl ⟨rfl, rfl⟩ dyX7_projector ⟨Nat.le_of_ble_eq_true rfl, Nat.le_of_ble_eq_true rfl⟩ (rc_recv X T0.1 rfl) rfl rfl (Nat.le_of_ble_eq_true rfl) dL_sound_426 ⟨Nat.zero_le _, Nat.zero_le _⟩ (fun r75 I74 h => ?_)
        refine rc_iload_n X dL_sound_429 rfl 1 rfl ?_
        refine rc_iconst X dL_sound_430 ?_
        refine rc_isub X dL_sound_431 ?_
        obtain ⟨c76, h⟩ := h
        obtain ⟨c77, h⟩ := h
        obtain ⟨c78, h⟩ := h
        refine rc_ic_ne X 439 dL_sound_432 (by decide) c76 c77 (fun q => absurd c78 q) (fun _ => ?_)
        refine rc_subl [] [] rfl ?_
        exact gL_sound_435 X hr T0   h
  · have h := h.2 c59
    refine rc_iload X dL_sound_329 4 rfl ?_
    obtain ⟨c79, h⟩ := h
    obtain ⟨c80, h⟩ := h
    refine rc_if_eq X 389 dL_sound_331 (by decide) c79 (fun q => absurd q c80) (fun _ => ?_)
    refine rc_aload_n X dL_sound_334 rfl 0 rfl ?_
    refine rc_iload X dL_sound_335 6 rfl ?_
    refine rc_iconst X dL_sound_337 ?_
    refine rc_cVI (rest := []) X (mX7_task T0 h) gL_sound_X7_task rfl ⟨rfl, rfl⟩ dyX7_task ⟨Nat.le_of_ble_eq_true rfl, Nat.le_of_ble_eq_true rfl⟩ (rc_recv X T0.1 rfl) rfl rfl (Nat.le_of_ble_eq_true rfl) dL_sound_338 ⟨Nat.zero_le _, Nat.zero_le _⟩ (fun r82 I81 h => ?_)
    obtain ⟨c83, h⟩ := h
    obtain ⟨c84, h⟩ := h
    refine rc_if_lt X 380 dL_sound_341 (by decide) c83 (fun q => absurd q c84) (fun _ => ?_)
    refine rc_aload_n X dL_sound_344 rfl 0 rfl ?_
    refine rc_iload X dL_sound_345 6 rfl ?_
    refine rc_iconst X dL_sound_347 ?_
    refine rc_cVI (rest := []) X (mX7_task T0 h) gL_sound_X7_task rfl ⟨rfl, rfl⟩ dyX7_task ⟨Nat.le_of_ble_eq_true rfl, Nat.le_of_ble_eq_true rfl⟩ (rc_recv X T0.1 rfl) rfl rfl (Nat.le_of_ble_eq_true rfl) dL_sound_348 ⟨Nat.zero_le _, Nat.zero_le _⟩ (fun r86 I85 h => ?_)
    refine rc_iconst X dL_sound_351 ?_
    obtain ⟨c87, h⟩ := h
    obtain ⟨c88, h⟩ := h
    refine rc_ic_ge X 380 dL_sound_352 (by decide) c87 ⟨by decide, by decide⟩ (fun q => absurd q c88) (fun _ => ?_)
    refine rc_aload_n X dL_sound_355 rfl 0 rfl ?_
    refine rc_iload X dL_sound_356 6 rfl ?_
    refine rc_iconst X dL_sound_358 ?_
    refine rc_cVI (rest := []) X (mX7_task T0 h) gL_sound_X7_task rfl ⟨rfl, rfl⟩ dyX7_task ⟨Nat.le_of_ble_eq_true rfl, Nat.le_of_ble_eq_true rfl⟩ (rc_recv X T0.1 rfl) rfl rfl (Nat.le_of_ble_eq_true rfl) dL_sound_359 ⟨Nat.zero_le _, Nat.zero_le _⟩ (fun r90 I89 h => ?_)
    obtain ⟨c91, h⟩ := h
    obtain ⟨c92, h⟩ := h
    refine rc_if_lt X 380 dL_sound_362 (by decide) c91 (fun q => absurd q c92) (fun _ => ?_)
    refine rc_aload_n X dL_sound_365 rfl 0 rfl ?_
    refine rc_iload X dL_sound_366 6 rfl ?_
    refine rc_iconst X dL_sound_368 ?_
    refine rc_cVI (rest := []) X (mX7_task T0 h) gL_sound_X7_task rfl ⟨rfl, rfl⟩ dyX7_task ⟨Nat.le_of_ble_eq_true rfl, Nat.le_of_ble_eq_true rfl⟩ (rc_recv X T0.1 rfl) rfl rfl (Nat.le_of_ble_eq_true rfl) dL_sound_369 ⟨Nat.zero_le _, Nat.zero_le _⟩ (fun r94 I93 h => ?_)
    refine rc_iconst X dL_sound_372 ?_
    obtain ⟨c95, h⟩ := h
    obtain ⟨c96, h⟩ := h
    refine rc_ic_ge X 380 dL_sound_373 (by decide) c95 ⟨by decide, by decide⟩ (fun q => absurd q c96) (fun _ => ?_)
    refine rc_iconst X dL_sound_376 ?_
    refine rc_goto X 381 dL_sound_377 (by decide) ?_
    refine rc_istore X [(5, .int (rc_o 1)), (0, .ref a0), (1, .int (rc_o a1)), (2, .int (rc_o x2)), (4, .int (rc_o x4)), (6, .int (rc_o x6)), (7, .int (rc_o x7))] dL_sound_381 (by decide) rfl ?_
    refine rc_iinc X [(7, .int (rc_o (x7 + 1))), (5, .int (rc_o 1)), (0, .ref a0), (1, .int (rc_o a1)), (2, .int (rc_o x2)), (4, .int (rc_o x4)), (6, .int (rc_o x6))] dL_sound_383 6 rfl (by decide) rfl ?_
    refine rc_goto X 318 dL_sound_386 (by decide) ?_
    refine rc_subl [(0, .ref a0), (1, .int (rc_o a1)), (2, .int (rc_o x2)), (4, .int (rc_o x4)), (5, .int (rc_o 1)), (6, .int (rc_o x6)), (7, .int (rc_o (x7 + 1)))] [2, 3, 4, 5, 1, 6, 0] rfl ?_
    exact hk318 _ _ _ _ _ _ h
noncomputable def rL_sound_318 (G : rc_G) (post : Int → rc_M → Prop) (a0 : Nat) (a1 : Int)  (n : Nat) : Int → Int → Int → Int → Int → rc_M → Prop :=
  Nat.rec (motive := fun _ => Int → Int → Int → Int → Int → rc_M → Prop) (fun _ _ _ _ _ _ => False) (fun _ ih => wL_sound_318 G post a0 a1  ih) n
set_option maxRecDepth 100000 in
set_option maxHeartbeats 4000000 in
theorem sL_sound_318 {p : Program} {l : Launch} {e : Env} {s : State} {m : MethodId} {below : List Frame} {meth : Method} {c : Code} {G : rc_G} {a0 : Nat} {a1 : Int} {I : rc_M} {post : Int → rc_M → Prop}  {n : Nat} {x2 : Int} {x4 : Int} {x5 : Int} {x6 : Int} {x7 : Int} (X : rc_X p s m ([.ref a0, .int (rc_o a1)] : List Value).toArray meth c cL_sound 10 wsL_sound RL G (rc_A G)) (hr : meth.sig.returnType = some .boolean) (T0 : kX7 G a0)  (h : rL_sound_318 G post a0 a1  n x2 x4 x5 x6 x7 I) : rc_g p l e rmL_sound s m ([.ref a0, .int (rc_o a1)] : List Value).toArray below meth c 0 0 (MQ below (rc_QI G post) ([.ref a0, .int (rc_o a1)] : List Value).toArray s 0 0 (rc_A G)) 10 G (rc_A G) 318 [(0, .ref a0), (1, .int (rc_o a1)), (2, .int (rc_o x2)), (4, .int (rc_o x4)), (5, .int (rc_o x5)), (6, .int (rc_o x6)), (7, .int (rc_o x7))] [] I := by
  induction n generalizing x2 x4 x5 x6 x7 I with
  | zero => exact h.elim
  | succ n ih => exact gL_sound_318 (k318 := rL_sound_318 G post a0 a1  n) X hr T0  (fun x2 x4 x5 x6 x7 J h2 => ih h2) h
def wL_sound_299 (G : rc_G) (post : Int → rc_M → Prop) (a0 : Nat) (a1 : Int) (k143 : Int → Int → Int → Int → Int → Int → rc_M → Prop) (x2 : Int) (x3 : Int) (x4 : Int) (x6 : Int) (x7 : Int) (y0 : Int) (y1 : Int) (I : rc_M) : Prop :=
  rc_R y1 ∧ (rc_R y0 ∧ ((y1 = y0) ∧ (k143 x2 x3 x4 1 x6 (x7 + 1) I)))
set_option maxRecDepth 100000 in
set_option maxHeartbeats 4000000 in
theorem gL_sound_299 {p : Program} {l : Launch} {e : Env} {s : State} {m : MethodId} {below : List Frame} {meth : Method} {c : Code} {G : rc_G} {a0 : Nat} {a1 : Int} {I : rc_M} {post : Int → rc_M → Prop} {k143 : Int → Int → Int → Int → Int → Int → rc_M → Prop} {x2 : Int} {x3 : Int} {x4 : Int} {x6 : Int} {x7 : Int} {y0 : Int} {y1 : Int} (X : rc_X p s m ([.ref a0, .int (rc_o a1)] : List Value).toArray meth c cL_sound 10 wsL_sound RL G (rc_A G)) (hr : meth.sig.returnType = some .boolean) (T0 : kX7 G a0) (hk143 : ∀ (x2 : Int) (x3 : Int) (x4 : Int) (x5 : Int) (x6 : Int) (x7 : Int) (J : rc_M), k143 x2 x3 x4 x5 x6 x7 J → rc_g p l e rmL_sound s m ([.ref a0, .int (rc_o a1)] : List Value).toArray below meth c 0 0 (MQ below (rc_QI G post) ([.ref a0, .int (rc_o a1)] : List Value).toArray s 0 0 (rc_A G)) 10 G (rc_A G) 143 [(0, .ref a0), (1, .int (rc_o a1)), (2, .int (rc_o x2)), (3, .int (rc_o x3)), (4, .int (rc_o x4)), (5, .int (rc_o x5)), (6, .int (rc_o x6)), (7, .int (rc_o x7))] [] J)  (h : wL_sound_299 G post a0 a1 k143 x2 x3 x4 x6 x7 y0 y1 I) : rc_g p l e rmL_sound s m ([.ref a0, .int (rc_o a1)] : List Value).toArray below meth c 0 0 (MQ below (rc_QI G post) ([.ref a0, .int (rc_o a1)] : List Value).toArray s 0 0 (rc_A G)) 10 G (rc_A G) 299 [(0, .ref a0), (1, .int (rc_o a1)), (2, .int (rc_o x2)), (3, .int (rc_o x3)), (4, .int (rc_o x4)), (6, .int (rc_o x6)), (7, .int (rc_o x7))] [.int (rc_o y0), .int (rc_o y1)] I := by
  unfold wL_sound_299 at h
  obtain ⟨c132, h⟩ := h
  obtain ⟨c133, h⟩ := h
  obtain ⟨c134, h⟩ := h
  refine rc_ic_ne X 306 dL_sound_299 (by decide) c132 c133 (fun q => absurd c134 q) (fun _ => ?_)
  refine rc_iconst X dL_sound_302 ?_
  refine rc_goto X 307 dL_sound_303 (by decide) ?_
  refine rc_istore X [(5, .int (rc_o 1)), (0, .ref a0), (1, .int (rc_o a1)), (2, .int (rc_o x2)), (3, .int (rc_o x3)), (4, .int (rc_o x4)), (6, .int (rc_o x6)), (7, .int (rc_o x7))] dL_sound_307 (by decide) rfl ?_
  refine rc_iinc X [(7, .int (rc_o (x7 + 1))), (5, .int (rc_o 1)), (0, .ref a0), (1, .int (rc_o a1)), (2, .int (rc_o x2)), (3, .int (rc_o x3)), (4, .int (rc_o x4)), (6, .int (rc_o x6))] dL_sound_309 7 rfl (by decide) rfl ?_
  refine rc_goto X 143 dL_sound_312 (by decide) ?_
  refine rc_subl [(0, .ref a0), (1, .int (rc_o a1)), (2, .int (rc_o x2)), (3, .int (rc_o x3)), (4, .int (rc_o x4)), (5, .int (rc_o 1)), (6, .int (rc_o x6)), (7, .int (rc_o (x7 + 1)))] [2, 3, 4, 5, 6, 1, 7, 0] rfl ?_
  exact hk143 _ _ _ _ _ _ _ h
def wL_sound_294 (G : rc_G) (post : Int → rc_M → Prop) (a0 : Nat) (a1 : Int) (k143 : Int → Int → Int → Int → Int → Int → rc_M → Prop) (x2 : Int) (x3 : Int) (x4 : Int) (x6 : Int) (x7 : Int) (y0 : Int) (I : rc_M) : Prop :=
  wL_sound_299 G post a0 a1 k143 x2 x3 x4 x6 x7 1 y0 I
set_option maxRecDepth 100000 in
set_option maxHeartbeats 4000000 in
theorem gL_sound_294 {p : Program} {l : Launch} {e : Env} {s : State} {m : MethodId} {below : List Frame} {meth : Method} {c : Code} {G : rc_G} {a0 : Nat} {a1 : Int} {I : rc_M} {post : Int → rc_M → Prop} {k143 : Int → Int → Int → Int → Int → Int → rc_M → Prop} {x2 : Int} {x3 : Int} {x4 : Int} {x6 : Int} {x7 : Int} {y0 : Int} (X : rc_X p s m ([.ref a0, .int (rc_o a1)] : List Value).toArray meth c cL_sound 10 wsL_sound RL G (rc_A G)) (hr : meth.sig.returnType = some .boolean) (T0 : kX7 G a0) (hk143 : ∀ (x2 : Int) (x3 : Int) (x4 : Int) (x5 : Int) (x6 : Int) (x7 : Int) (J : rc_M), k143 x2 x3 x4 x5 x6 x7 J → rc_g p l e rmL_sound s m ([.ref a0, .int (rc_o a1)] : List Value).toArray below meth c 0 0 (MQ below (rc_QI G post) ([.ref a0, .int (rc_o a1)] : List Value).toArray s 0 0 (rc_A G)) 10 G (rc_A G) 143 [(0, .ref a0), (1, .int (rc_o a1)), (2, .int (rc_o x2)), (3, .int (rc_o x3)), (4, .int (rc_o x4)), (5, .int (rc_o x5)), (6, .int (rc_o x6)), (7, .int (rc_o x7))] [] J)  (h : wL_sound_294 G post a0 a1 k143 x2 x3 x4 x6 x7 y0 I) : rc_g p l e rmL_sound s m ([.ref a0, .int (rc_o a1)] : List Value).toArray below meth c 0 0 (MQ below (rc_QI G post) ([.ref a0, .int (rc_o a1)] : List Value).toArray s 0 0 (rc_A G)) 10 G (rc_A G) 294 [(0, .ref a0), (1, .int (rc_o a1)), (2, .int (rc_o x2)), (3, .int (rc_o x3)), (4, .int (rc_o x4)), (6, .int (rc_o x6)), (7, .int (rc_o x7))] [.int (rc_o y0)] I := by
  unfold wL_sound_294 at h
  refine rc_iconst X dL_sound_294 ?_
  refine rc_goto X 299 dL_sound_295 (by decide) ?_
  refine rc_subl [(0, .ref a0), (1, .int (rc_o a1)), (2, .int (rc_o x2)), (3, .int (rc_o x3)), (4, .int (rc_o x4)), (6, .int (rc_o x6)), (7, .int (rc_o x7))] [0, 1, 2, 3, 4, 5, 6] rfl ?_
  exact gL_sound_299 X hr T0 hk143  h
def wL_sound_277 (G : rc_G) (post : Int → rc_M → Prop) (a0 : Nat) (a1 : Int) (k143 : Int → Int → Int → Int → Int → Int → rc_M → Prop) (x2 : Int) (x3 : Int) (x4 : Int) (x6 : Int) (x7 : Int) (x8 : Int) (y0 : Int) (I : rc_M) : Prop :=
  rc_R x8 ∧ ((x8 = 0 → wL_sound_294 G post a0 a1 k143 x2 x3 x4 x6 x7 y0 I) ∧ (¬ x8 = 0 → rc_R x8 ∧ ((x8 = 1 → wL_sound_294 G post a0 a1 k143 x2 x3 x4 x6 x7 y0 I) ∧ (¬ x8 = 1 → rc_R x8 ∧ ((¬ x8 = 4 → wL_sound_299 G post a0 a1 k143 x2 x3 x4 x6 x7 0 y0 I) ∧ (x8 = 4 → wL_sound_294 G post a0 a1 k143 x2 x3 x4 x6 x7 y0 I))))))
set_option maxRecDepth 100000 in
set_option maxHeartbeats 4000000 in
theorem gL_sound_277 {p : Program} {l : Launch} {e : Env} {s : State} {m : MethodId} {below : List Frame} {meth : Method} {c : Code} {G : rc_G} {a0 : Nat} {a1 : Int} {I : rc_M} {post : Int → rc_M → Prop} {k143 : Int → Int → Int → Int → Int → Int → rc_M → Prop} {x2 : Int} {x3 : Int} {x4 : Int} {x6 : Int} {x7 : Int} {x8 : Int} {y0 : Int} (X : rc_X p s m ([.ref a0, .int (rc_o a1)] : List Value).toArray meth c cL_sound 10 wsL_sound RL G (rc_A G)) (hr : meth.sig.returnType = some .boolean) (T0 : kX7 G a0) (hk143 : ∀ (x2 : Int) (x3 : Int) (x4 : Int) (x5 : Int) (x6 : Int) (x7 : Int) (J : rc_M), k143 x2 x3 x4 x5 x6 x7 J → rc_g p l e rmL_sound s m ([.ref a0, .int (rc_o a1)] : List Value).toArray below meth c 0 0 (MQ below (rc_QI G post) ([.ref a0, .int (rc_o a1)] : List Value).toArray s 0 0 (rc_A G)) 10 G (rc_A G) 143 [(0, .ref a0), (1, .int (rc_o a1)), (2, .int (rc_o x2)), (3, .int (rc_o x3)), (4, .int (rc_o x4)), (5, .int (rc_o x5)), (6, .int (rc_o x6)), (7, .int (rc_o x7))] [] J)  (h : wL_sound_277 G post a0 a1 k143 x2 x3 x4 x6 x7 x8 y0 I) : rc_g p l e rmL_sound s m ([.ref a0, .int (rc_o a1)] : List Value).toArray below meth c 0 0 (MQ below (rc_QI G post) ([.ref a0, .int (rc_o a1)] : List Value).toArray s 0 0 (rc_A G)) 10 G (rc_A G) 277 [(0, .ref a0), (1, .int (rc_o a1)), (2, .int (rc_o x2)), (3, .int (rc_o x3)), (4, .int (rc_o x4)), (6, .int (rc_o x6)), (7, .int (rc_o x7)), (8, .int (rc_o x8))] [.int (rc_o y0)] I := by
  unfold wL_sound_277 at h
  refine rc_iload X dL_sound_277 7 rfl ?_
  obtain ⟨c130, h⟩ := h
  refine rc_if_eq X 294 dL_sound_279 (by decide) c130 (fun c131 => ?_) (fun c131 => ?_)
  · have h := h.1 c131
    refine rc_subl [(0, .ref a0), (1, .int (rc_o a1)), (2, .int (rc_o x2)), (3, .int (rc_o x3)), (4, .int (rc_o x4)), (6, .int (rc_o x6)), (7, .int (rc_o x7))] [0, 1, 2, 3, 4, 5, 6] rfl ?_
    exact gL_sound_294 X hr T0 hk143  h
  · have h := h.2 c131
    refine rc_iload X dL_sound_282 7 rfl ?_
    refine rc_iconst X dL_sound_284 ?_
    obtain ⟨c135, h⟩ := h
    refine rc_ic_eq X 294 dL_sound_285 (by decide) c135 ⟨by decide, by decide⟩ (fun c136 => ?_) (fun c136 => ?_)
    · have h := h.1 c136
      refine rc_subl [(0, .ref a0), (1, .int (rc_o a1)), (2, .int (rc_o x2)), (3, .int (rc_o x3)), (4, .int (rc_o x4)), (6, .int (rc_o x6)), (7, .int (rc_o x7))] [0, 1, 2, 3, 4, 5, 6] rfl ?_
      exact gL_sound_294 X hr T0 hk143  h
    · have h := h.2 c136
      refine rc_iload X dL_sound_288 7 rfl ?_
      refine rc_iconst X dL_sound_290 ?_
      obtain ⟨c137, h⟩ := h
      refine rc_ic_ne X 298 dL_sound_291 (by decide) c137 ⟨by decide, by decide⟩ (fun c138 => ?_) (fun c138 => ?_)
      · have h := h.1 c138
        refine rc_iconst X dL_sound_298 ?_
        refine rc_subl [(0, .ref a0), (1, .int (rc_o a1)), (2, .int (rc_o x2)), (3, .int (rc_o x3)), (4, .int (rc_o x4)), (6, .int (rc_o x6)), (7, .int (rc_o x7))] [0, 1, 2, 3, 4, 5, 6] rfl ?_
        exact gL_sound_299 X hr T0 hk143  h
      · have h := h.2 c138
        refine rc_subl [(0, .ref a0), (1, .int (rc_o a1)), (2, .int (rc_o x2)), (3, .int (rc_o x3)), (4, .int (rc_o x4)), (6, .int (rc_o x6)), (7, .int (rc_o x7))] [0, 1, 2, 3, 4, 5, 6] rfl ?_
        exact gL_sound_294 X hr T0 hk143  h
def wL_sound_260 (G : rc_G) (post : Int → rc_M → Prop) (a0 : Nat) (a1 : Int) (k143 : Int → Int → Int → Int → Int → Int → rc_M → Prop) (x2 : Int) (x3 : Int) (x4 : Int) (x6 : Int) (x7 : Int) (x8 : Int) (I : rc_M) : Prop :=
  wX7_projector G a0 x7 2 I (fun r127 I126 => rc_R r127 ∧ ((¬ r127 = (-100005) → wL_sound_277 G post a0 a1 k143 x2 x3 x4 x6 x7 x8 0 I126) ∧ (r127 = (-100005) → wL_sound_277 G post a0 a1 k143 x2 x3 x4 x6 x7 x8 1 I126)))
set_option maxRecDepth 100000 in
set_option maxHeartbeats 4000000 in
theorem gL_sound_260 {p : Program} {l : Launch} {e : Env} {s : State} {m : MethodId} {below : List Frame} {meth : Method} {c : Code} {G : rc_G} {a0 : Nat} {a1 : Int} {I : rc_M} {post : Int → rc_M → Prop} {k143 : Int → Int → Int → Int → Int → Int → rc_M → Prop} {x2 : Int} {x3 : Int} {x4 : Int} {x6 : Int} {x7 : Int} {x8 : Int} (X : rc_X p s m ([.ref a0, .int (rc_o a1)] : List Value).toArray meth c cL_sound 10 wsL_sound RL G (rc_A G)) (hr : meth.sig.returnType = some .boolean) (T0 : kX7 G a0) (hk143 : ∀ (x2 : Int) (x3 : Int) (x4 : Int) (x5 : Int) (x6 : Int) (x7 : Int) (J : rc_M), k143 x2 x3 x4 x5 x6 x7 J → rc_g p l e rmL_sound s m ([.ref a0, .int (rc_o a1)] : List Value).toArray below meth c 0 0 (MQ below (rc_QI G post) ([.ref a0, .int (rc_o a1)] : List Value).toArray s 0 0 (rc_A G)) 10 G (rc_A G) 143 [(0, .ref a0), (1, .int (rc_o a1)), (2, .int (rc_o x2)), (3, .int (rc_o x3)), (4, .int (rc_o x4)), (5, .int (rc_o x5)), (6, .int (rc_o x6)), (7, .int (rc_o x7))] [] J)  (h : wL_sound_260 G post a0 a1 k143 x2 x3 x4 x6 x7 x8 I) : rc_g p l e rmL_sound s m ([.ref a0, .int (rc_o a1)] : List Value).toArray below meth c 0 0 (MQ below (rc_QI G post) ([.ref a0, .int (rc_o a1)] : List Value).toArray s 0 0 (rc_A G)) 10 G (rc_A G) 260 [(0, .ref a0), (1, .int (rc_o a1)), (2, .int (rc_o x2)), (3, .int (rc_o x3)), (4, .int (rc_o x4)), (6, .int (rc_o x6)), (7, .int (rc_o x7)), (8, .int (rc_o x8))] [] I := by
  unfold wL_sound_260 at h
  refine rc_aload_n X dL_sound_260 rfl 0 rfl ?_
  refine rc_iload X dL_sound_261 6 rfl ?_
  refine rc_iconst X dL_sound_263 ?_
  refine rc_cVI (rest := []) X (mX7_projector T0 h) gL_sound_X7_projector rfl ⟨rfl, rfl⟩ dyX7_projector ⟨Nat.le_of_ble_eq_true rfl, Nat.le_of_ble_eq_true rfl⟩ (rc_recv X T0.1 rfl) rfl rfl (Nat.le_of_ble_eq_true rfl) dL_sound_264 ⟨Nat.zero_le _, Nat.zero_le _⟩ (fun r127 I126 h => ?_)
  refine rc_ldc (n := (-100005)) X qL_sound_1 (by decide +kernel) dL_sound_267 ?_
  obtain ⟨c128, h⟩ := h
  refine rc_ic_ne X 276 dL_sound_269 (by decide) c128 ⟨by decide, by decide⟩ (fun c129 => ?_) (fun c129 => ?_)
  · have h := h.1 c129
    refine rc_iconst X dL_sound_276 ?_
    refine rc_subl [(0, .ref a0), (1, .int (rc_o a1)), (2, .int (rc_o x2)), (3, .int (rc_o x3)), (4, .int (rc_o x4)), (6, .int (rc_o x6)), (7, .int (rc_o x7)), (8, .int (rc_o x8))] [0, 1, 2, 3, 4, 5, 6, 7] rfl ?_
    exact gL_sound_277 X hr T0 hk143  h
  · have h := h.2 c129
    refine rc_iconst X dL_sound_272 ?_
    refine rc_goto X 277 dL_sound_273 (by decide) ?_
    refine rc_subl [(0, .ref a0), (1, .int (rc_o a1)), (2, .int (rc_o x2)), (3, .int (rc_o x3)), (4, .int (rc_o x4)), (6, .int (rc_o x6)), (7, .int (rc_o x7)), (8, .int (rc_o x8))] [0, 1, 2, 3, 4, 5, 6, 7] rfl ?_
    exact gL_sound_277 X hr T0 hk143  h
def wL_sound_248 (G : rc_G) (post : Int → rc_M → Prop) (a0 : Nat) (a1 : Int) (k143 : Int → Int → Int → Int → Int → Int → rc_M → Prop) (x2 : Int) (x3 : Int) (x4 : Int) (x6 : Int) (x7 : Int) (x8 : Int) (I : rc_M) : Prop :=
  rc_R x8 ∧ ((¬ x8 = 2 → wL_sound_260 G post a0 a1 k143 x2 x3 x4 x6 x7 x8 I) ∧ (x8 = 2 → rc_R x7 ∧ (rc_R x2 ∧ ((¬ x7 = x2) ∧ (wL_sound_260 G post a0 a1 k143 x2 x3 x4 x6 x7 x8 I)))))
set_option maxRecDepth 100000 in
set_option maxHeartbeats 4000000 in
theorem gL_sound_248 {p : Program} {l : Launch} {e : Env} {s : State} {m : MethodId} {below : List Frame} {meth : Method} {c : Code} {G : rc_G} {a0 : Nat} {a1 : Int} {I : rc_M} {post : Int → rc_M → Prop} {k143 : Int → Int → Int → Int → Int → Int → rc_M → Prop} {x2 : Int} {x3 : Int} {x4 : Int} {x6 : Int} {x7 : Int} {x8 : Int} (X : rc_X p s m ([.ref a0, .int (rc_o a1)] : List Value).toArray meth c cL_sound 10 wsL_sound RL G (rc_A G)) (hr : meth.sig.returnType = some .boolean) (T0 : kX7 G a0) (hk143 : ∀ (x2 : Int) (x3 : Int) (x4 : Int) (x5 : Int) (x6 : Int) (x7 : Int) (J : rc_M), k143 x2 x3 x4 x5 x6 x7 J → rc_g p l e rmL_sound s m ([.ref a0, .int (rc_o a1)] : List Value).toArray below meth c 0 0 (MQ below (rc_QI G post) ([.ref a0, .int (rc_o a1)] : List Value).toArray s 0 0 (rc_A G)) 10 G (rc_A G) 143 [(0, .ref a0), (1, .int (rc_o a1)), (2, .int (rc_o x2)), (3, .int (rc_o x3)), (4, .int (rc_o x4)), (5, .int (rc_o x5)), (6, .int (rc_o x6)), (7, .int (rc_o x7))] [] J)  (h : wL_sound_248 G post a0 a1 k143 x2 x3 x4 x6 x7 x8 I) : rc_g p l e rmL_sound s m ([.ref a0, .int (rc_o a1)] : List Value).toArray below meth c 0 0 (MQ below (rc_QI G post) ([.ref a0, .int (rc_o a1)] : List Value).toArray s 0 0 (rc_A G)) 10 G (rc_A G) 248 [(0, .ref a0), (1, .int (rc_o a1)), (2, .int (rc_o x2)), (3, .int (rc_o x3)), (4, .int (rc_o x4)), (6, .int (rc_o x6)), (7, .int (rc_o x7)), (8, .int (rc_o x8))] [] I := by
  unfold wL_sound_248 at h
  refine rc_iload X dL_sound_248 7 rfl ?_
  refine rc_iconst X dL_sound_250 ?_
  obtain ⟨c124, h⟩ := h
  refine rc_ic_ne X 260 dL_sound_251 (by decide) c124 ⟨by decide, by decide⟩ (fun c125 => ?_) (fun c125 => ?_)
  · have h := h.1 c125
    refine rc_subl [(0, .ref a0), (1, .int (rc_o a1)), (2, .int (rc_o x2)), (3, .int (rc_o x3)), (4, .int (rc_o x4)), (6, .int (rc_o x6)), (7, .int (rc_o x7)), (8, .int (rc_o x8))] [0, 1, 2, 3, 4, 5, 6, 7] rfl ?_
    exact gL_sound_260 X hr T0 hk143  h
  · have h := h.2 c125
    refine rc_iload X dL_sound_254 6 rfl ?_
    refine rc_iload_n X dL_sound_256 rfl 2 rfl ?_
    obtain ⟨c139, h⟩ := h
    obtain ⟨c140, h⟩ := h
    obtain ⟨c141, h⟩ := h
    refine rc_ic_eq X 306 dL_sound_257 (by decide) c139 c140 (fun q => absurd q c141) (fun _ => ?_)
    refine rc_subl [(0, .ref a0), (1, .int (rc_o a1)), (2, .int (rc_o x2)), (3, .int (rc_o x3)), (4, .int (rc_o x4)), (6, .int (rc_o x6)), (7, .int (rc_o x7)), (8, .int (rc_o x8))] [0, 1, 2, 3, 4, 5, 6, 7] rfl ?_
    exact gL_sound_260 X hr T0 hk143  h
def wL_sound_242 (G : rc_G) (post : Int → rc_M → Prop) (a0 : Nat) (a1 : Int) (k143 : Int → Int → Int → Int → Int → Int → rc_M → Prop) (x2 : Int) (x3 : Int) (x4 : Int) (x6 : Int) (x7 : Int) (x8 : Int) (I : rc_M) : Prop :=
  rc_R x7 ∧ (rc_R x2 ∧ ((x7 = x2) ∧ (wL_sound_248 G post a0 a1 k143 x2 x3 x4 x6 x7 x8 I)))
set_option maxRecDepth 100000 in
set_option maxHeartbeats 4000000 in
theorem gL_sound_242 {p : Program} {l : Launch} {e : Env} {s : State} {m : MethodId} {below : List Frame} {meth : Method} {c : Code} {G : rc_G} {a0 : Nat} {a1 : Int} {I : rc_M} {post : Int → rc_M → Prop} {k143 : Int → Int → Int → Int → Int → Int → rc_M → Prop} {x2 : Int} {x3 : Int} {x4 : Int} {x6 : Int} {x7 : Int} {x8 : Int} (X : rc_X p s m ([.ref a0, .int (rc_o a1)] : List Value).toArray meth c cL_sound 10 wsL_sound RL G (rc_A G)) (hr : meth.sig.returnType = some .boolean) (T0 : kX7 G a0) (hk143 : ∀ (x2 : Int) (x3 : Int) (x4 : Int) (x5 : Int) (x6 : Int) (x7 : Int) (J : rc_M), k143 x2 x3 x4 x5 x6 x7 J → rc_g p l e rmL_sound s m ([.ref a0, .int (rc_o a1)] : List Value).toArray below meth c 0 0 (MQ below (rc_QI G post) ([.ref a0, .int (rc_o a1)] : List Value).toArray s 0 0 (rc_A G)) 10 G (rc_A G) 143 [(0, .ref a0), (1, .int (rc_o a1)), (2, .int (rc_o x2)), (3, .int (rc_o x3)), (4, .int (rc_o x4)), (5, .int (rc_o x5)), (6, .int (rc_o x6)), (7, .int (rc_o x7))] [] J)  (h : wL_sound_242 G post a0 a1 k143 x2 x3 x4 x6 x7 x8 I) : rc_g p l e rmL_sound s m ([.ref a0, .int (rc_o a1)] : List Value).toArray below meth c 0 0 (MQ below (rc_QI G post) ([.ref a0, .int (rc_o a1)] : List Value).toArray s 0 0 (rc_A G)) 10 G (rc_A G) 242 [(0, .ref a0), (1, .int (rc_o a1)), (2, .int (rc_o x2)), (3, .int (rc_o x3)), (4, .int (rc_o x4)), (6, .int (rc_o x6)), (7, .int (rc_o x7)), (8, .int (rc_o x8))] [] I := by
  unfold wL_sound_242 at h
  refine rc_iload X dL_sound_242 6 rfl ?_
  refine rc_iload_n X dL_sound_244 rfl 2 rfl ?_
  obtain ⟨c121, h⟩ := h
  obtain ⟨c122, h⟩ := h
  obtain ⟨c123, h⟩ := h
  refine rc_ic_ne X 306 dL_sound_245 (by decide) c121 c122 (fun q => absurd c123 q) (fun _ => ?_)
  refine rc_subl [(0, .ref a0), (1, .int (rc_o a1)), (2, .int (rc_o x2)), (3, .int (rc_o x3)), (4, .int (rc_o x4)), (6, .int (rc_o x6)), (7, .int (rc_o x7)), (8, .int (rc_o x8))] [0, 1, 2, 3, 4, 5, 6, 7] rfl ?_
  exact gL_sound_248 X hr T0 hk143  h
def wL_sound_221 (G : rc_G) (post : Int → rc_M → Prop) (a0 : Nat) (a1 : Int) (k143 : Int → Int → Int → Int → Int → Int → rc_M → Prop) (x2 : Int) (x3 : Int) (x4 : Int) (x6 : Int) (x7 : Int) (x8 : Int) (x9 : Int) (y0 : Int) (y1 : Int) (I : rc_M) : Prop :=
  rc_R y1 ∧ (rc_R y0 ∧ ((y1 = y0) ∧ (rc_R x9 ∧ (rc_R x3 ∧ ((¬ x3 ≤ x9) ∧ (rc_R x8 ∧ ((x8 = 3 → wL_sound_242 G post a0 a1 k143 x2 x3 x4 x6 x7 x8 I) ∧ (¬ x8 = 3 → rc_R x8 ∧ ((¬ x8 = 5 → wL_sound_248 G post a0 a1 k143 x2 x3 x4 x6 x7 x8 I) ∧ (x8 = 5 → wL_sound_242 G post a0 a1 k143 x2 x3 x4 x6 x7 x8 I))))))))))
set_option maxRecDepth 100000 in
set_option maxHeartbeats 4000000 in
theorem gL_sound_221 {p : Program} {l : Launch} {e : Env} {s : State} {m : MethodId} {below : List Frame} {meth : Method} {c : Code} {G : rc_G} {a0 : Nat} {a1 : Int} {I : rc_M} {post : Int → rc_M → Prop} {k143 : Int → Int → Int → Int → Int → Int → rc_M → Prop} {x2 : Int} {x3 : Int} {x4 : Int} {x6 : Int} {x7 : Int} {x8 : Int} {x9 : Int} {y0 : Int} {y1 : Int} (X : rc_X p s m ([.ref a0, .int (rc_o a1)] : List Value).toArray meth c cL_sound 10 wsL_sound RL G (rc_A G)) (hr : meth.sig.returnType = some .boolean) (T0 : kX7 G a0) (hk143 : ∀ (x2 : Int) (x3 : Int) (x4 : Int) (x5 : Int) (x6 : Int) (x7 : Int) (J : rc_M), k143 x2 x3 x4 x5 x6 x7 J → rc_g p l e rmL_sound s m ([.ref a0, .int (rc_o a1)] : List Value).toArray below meth c 0 0 (MQ below (rc_QI G post) ([.ref a0, .int (rc_o a1)] : List Value).toArray s 0 0 (rc_A G)) 10 G (rc_A G) 143 [(0, .ref a0), (1, .int (rc_o a1)), (2, .int (rc_o x2)), (3, .int (rc_o x3)), (4, .int (rc_o x4)), (5, .int (rc_o x5)), (6, .int (rc_o x6)), (7, .int (rc_o x7))] [] J)  (h : wL_sound_221 G post a0 a1 k143 x2 x3 x4 x6 x7 x8 x9 y0 y1 I) : rc_g p l e rmL_sound s m ([.ref a0, .int (rc_o a1)] : List Value).toArray below meth c 0 0 (MQ below (rc_QI G post) ([.ref a0, .int (rc_o a1)] : List Value).toArray s 0 0 (rc_A G)) 10 G (rc_A G) 221 [(0, .ref a0), (1, .int (rc_o a1)), (2, .int (rc_o x2)), (3, .int (rc_o x3)), (4, .int (rc_o x4)), (6, .int (rc_o x6)), (7, .int (rc_o x7)), (8, .int (rc_o x8)), (9, .int (rc_o x9))] [.int (rc_o y0), .int (rc_o y1)] I := by
  unfold wL_sound_221 at h
  obtain ⟨c113, h⟩ := h
  obtain ⟨c114, h⟩ := h
  obtain ⟨c115, h⟩ := h
  refine rc_ic_ne X 306 dL_sound_221 (by decide) c113 c114 (fun q => absurd c115 q) (fun _ => ?_)
  refine rc_iload X dL_sound_224 8 rfl ?_
  refine rc_iload_n X dL_sound_226 rfl 3 rfl ?_
  obtain ⟨c116, h⟩ := h
  obtain ⟨c117, h⟩ := h
  obtain ⟨c118, h⟩ := h
  refine rc_ic_ge X 306 dL_sound_227 (by decide) c116 c117 (fun q => absurd q c118) (fun _ => ?_)
  refine rc_iload X dL_sound_230 7 rfl ?_
  refine rc_iconst X dL_sound_232 ?_
  obtain ⟨c119, h⟩ := h
  refine rc_ic_eq X 242 dL_sound_233 (by decide) c119 ⟨by decide, by decide⟩ (fun c120 => ?_) (fun c120 => ?_)
  · have h := h.1 c120
    refine rc_subl [(0, .ref a0), (1, .int (rc_o a1)), (2, .int (rc_o x2)), (3, .int (rc_o x3)), (4, .int (rc_o x4)), (6, .int (rc_o x6)), (7, .int (rc_o x7)), (8, .int (rc_o x8))] [0, 1, 2, 3, 4, 5, 6, 7] rfl ?_
    exact gL_sound_242 X hr T0 hk143  h
  · have h := h.2 c120
    refine rc_iload X dL_sound_236 7 rfl ?_
    refine rc_iconst X dL_sound_238 ?_
    obtain ⟨c142, h⟩ := h
    refine rc_ic_ne X 248 dL_sound_239 (by decide) c142 ⟨by decide, by decide⟩ (fun c143 => ?_) (fun c143 => ?_)
    · have h := h.1 c143
      refine rc_subl [(0, .ref a0), (1, .int (rc_o a1)), (2, .int (rc_o x2)), (3, .int (rc_o x3)), (4, .int (rc_o x4)), (6, .int (rc_o x6)), (7, .int (rc_o x7)), (8, .int (rc_o x8))] [0, 1, 2, 3, 4, 5, 6, 7] rfl ?_
      exact gL_sound_248 X hr T0 hk143  h
    · have h := h.2 c143
      refine rc_subl [(0, .ref a0), (1, .int (rc_o a1)), (2, .int (rc_o x2)), (3, .int (rc_o x3)), (4, .int (rc_o x4)), (6, .int (rc_o x6)), (7, .int (rc_o x7)), (8, .int (rc_o x8))] [0, 1, 2, 3, 4, 5, 6, 7] rfl ?_
      exact gL_sound_242 X hr T0 hk143  h
def wL_sound_209 (G : rc_G) (post : Int → rc_M → Prop) (a0 : Nat) (a1 : Int) (k143 : Int → Int → Int → Int → Int → Int → rc_M → Prop) (x2 : Int) (x3 : Int) (x4 : Int) (x6 : Int) (x7 : Int) (x8 : Int) (x9 : Int) (y0 : Int) (I : rc_M) : Prop :=
  rc_R x9 ∧ ((¬ x9 = (-100005) → wL_sound_221 G post a0 a1 k143 x2 x3 x4 x6 x7 x8 x9 0 y0 I) ∧ (x9 = (-100005) → wL_sound_221 G post a0 a1 k143 x2 x3 x4 x6 x7 x8 x9 1 y0 I))
set_option maxRecDepth 100000 in
set_option maxHeartbeats 4000000 in
theorem gL_sound_209 {p : Program} {l : Launch} {e : Env} {s : State} {m : MethodId} {below : List Frame} {meth : Method} {c : Code} {G : rc_G} {a0 : Nat} {a1 : Int} {I : rc_M} {post : Int → rc_M → Prop} {k143 : Int → Int → Int → Int → Int → Int → rc_M → Prop} {x2 : Int} {x3 : Int} {x4 : Int} {x6 : Int} {x7 : Int} {x8 : Int} {x9 : Int} {y0 : Int} (X : rc_X p s m ([.ref a0, .int (rc_o a1)] : List Value).toArray meth c cL_sound 10 wsL_sound RL G (rc_A G)) (hr : meth.sig.returnType = some .boolean) (T0 : kX7 G a0) (hk143 : ∀ (x2 : Int) (x3 : Int) (x4 : Int) (x5 : Int) (x6 : Int) (x7 : Int) (J : rc_M), k143 x2 x3 x4 x5 x6 x7 J → rc_g p l e rmL_sound s m ([.ref a0, .int (rc_o a1)] : List Value).toArray below meth c 0 0 (MQ below (rc_QI G post) ([.ref a0, .int (rc_o a1)] : List Value).toArray s 0 0 (rc_A G)) 10 G (rc_A G) 143 [(0, .ref a0), (1, .int (rc_o a1)), (2, .int (rc_o x2)), (3, .int (rc_o x3)), (4, .int (rc_o x4)), (5, .int (rc_o x5)), (6, .int (rc_o x6)), (7, .int (rc_o x7))] [] J)  (h : wL_sound_209 G post a0 a1 k143 x2 x3 x4 x6 x7 x8 x9 y0 I) : rc_g p l e rmL_sound s m ([.ref a0, .int (rc_o a1)] : List Value).toArray below meth c 0 0 (MQ below (rc_QI G post) ([.ref a0, .int (rc_o a1)] : List Value).toArray s 0 0 (rc_A G)) 10 G (rc_A G) 209 [(0, .ref a0), (1, .int (rc_o a1)), (2, .int (rc_o x2)), (3, .int (rc_o x3)), (4, .int (rc_o x4)), (6, .int (rc_o x6)), (7, .int (rc_o x7)), (8, .int (rc_o x8)), (9, .int (rc_o x9))] [.int (rc_o y0)] I := by
  unfold wL_sound_209 at h
  refine rc_iload X dL_sound_209 8 rfl ?_
  refine rc_ldc (n := (-100005)) X qL_sound_1 (by decide +kernel) dL_sound_211 ?_
  obtain ⟨c111, h⟩ := h
  refine rc_ic_ne X 220 dL_sound_213 (by decide) c111 ⟨by decide, by decide⟩ (fun c112 => ?_) (fun c112 => ?_)
  · have h := h.1 c112
    refine rc_iconst X dL_sound_220 ?_
    refine rc_subl [(0, .ref a0), (1, .int (rc_o a1)), (2, .int (rc_o x2)), (3, .int (rc_o x3)), (4, .int (rc_o x4)), (6, .int (rc_o x6)), (7, .int (rc_o x7)), (8, .int (rc_o x8)), (9, .int (rc_o x9))] [0, 1, 2, 3, 4, 5, 6, 7, 8] rfl ?_
    exact gL_sound_221 X hr T0 hk143  h
  · have h := h.2 c112
    refine rc_iconst X dL_sound_216 ?_
    refine rc_goto X 221 dL_sound_217 (by decide) ?_
    refine rc_subl [(0, .ref a0), (1, .int (rc_o a1)), (2, .int (rc_o x2)), (3, .int (rc_o x3)), (4, .int (rc_o x4)), (6, .int (rc_o x6)), (7, .int (rc_o x7)), (8, .int (rc_o x8)), (9, .int (rc_o x9))] [0, 1, 2, 3, 4, 5, 6, 7, 8] rfl ?_
    exact gL_sound_221 X hr T0 hk143  h
def wL_sound_185 (G : rc_G) (post : Int → rc_M → Prop) (a0 : Nat) (a1 : Int) (k143 : Int → Int → Int → Int → Int → Int → rc_M → Prop) (x2 : Int) (x3 : Int) (x4 : Int) (x7 : Int) (x8 : Int) (x9 : Int) (y0 : Int) (y1 : Int) (I : rc_M) : Prop :=
  rc_R x8 ∧ ((¬ x8 < 0) ∧ (rc_R x8 ∧ ((¬ 5 < x8) ∧ (rc_R x8 ∧ ((¬ x8 = 0 → wL_sound_209 G post a0 a1 k143 x2 x3 x4 (y1 + y0) x7 x8 x9 0 I) ∧ (x8 = 0 → wL_sound_209 G post a0 a1 k143 x2 x3 x4 (y1 + y0) x7 x8 x9 1 I))))))
set_option maxRecDepth 100000 in
set_option maxHeartbeats 4000000 in
theorem gL_sound_185 {p : Program} {l : Launch} {e : Env} {s : State} {m : MethodId} {below : List Frame} {meth : Method} {c : Code} {G : rc_G} {a0 : Nat} {a1 : Int} {I : rc_M} {post : Int → rc_M → Prop} {k143 : Int → Int → Int → Int → Int → Int → rc_M → Prop} {x2 : Int} {x3 : Int} {x4 : Int} {x7 : Int} {x8 : Int} {x9 : Int} {y0 : Int} {y1 : Int} (X : rc_X p s m ([.ref a0, .int (rc_o a1)] : List Value).toArray meth c cL_sound 10 wsL_sound RL G (rc_A G)) (hr : meth.sig.returnType = some .boolean) (T0 : kX7 G a0) (hk143 : ∀ (x2 : Int) (x3 : Int) (x4 : Int) (x5 : Int) (x6 : Int) (x7 : Int) (J : rc_M), k143 x2 x3 x4 x5 x6 x7 J → rc_g p l e rmL_sound s m ([.ref a0, .int (rc_o a1)] : List Value).toArray below meth c 0 0 (MQ below (rc_QI G post) ([.ref a0, .int (rc_o a1)] : List Value).toArray s 0 0 (rc_A G)) 10 G (rc_A G) 143 [(0, .ref a0), (1, .int (rc_o a1)), (2, .int (rc_o x2)), (3, .int (rc_o x3)), (4, .int (rc_o x4)), (5, .int (rc_o x5)), (6, .int (rc_o x6)), (7, .int (rc_o x7))] [] J)  (h : wL_sound_185 G post a0 a1 k143 x2 x3 x4 x7 x8 x9 y0 y1 I) : rc_g p l e rmL_sound s m ([.ref a0, .int (rc_o a1)] : List Value).toArray below meth c 0 0 (MQ below (rc_QI G post) ([.ref a0, .int (rc_o a1)] : List Value).toArray s 0 0 (rc_A G)) 10 G (rc_A G) 185 [(0, .ref a0), (1, .int (rc_o a1)), (2, .int (rc_o x2)), (3, .int (rc_o x3)), (4, .int (rc_o x4)), (7, .int (rc_o x7)), (8, .int (rc_o x8)), (9, .int (rc_o x9))] [.int (rc_o y0), .int (rc_o y1)] I := by
  unfold wL_sound_185 at h
  refine rc_iadd X dL_sound_185 ?_
  refine rc_istore X [(6, .int (rc_o (y1 + y0))), (0, .ref a0), (1, .int (rc_o a1)), (2, .int (rc_o x2)), (3, .int (rc_o x3)), (4, .int (rc_o x4)), (7, .int (rc_o x7)), (8, .int (rc_o x8)), (9, .int (rc_o x9))] dL_sound_186 (by decide) rfl ?_
  refine rc_iload X dL_sound_188 7 rfl ?_
  obtain ⟨c105, h⟩ := h
  obtain ⟨c106, h⟩ := h
  refine rc_if_lt X 306 dL_sound_190 (by decide) c105 (fun q => absurd q c106) (fun _ => ?_)
  refine rc_iload X dL_sound_193 7 rfl ?_
  refine rc_iconst X dL_sound_195 ?_
  obtain ⟨c107, h⟩ := h
  obtain ⟨c108, h⟩ := h
  refine rc_ic_gt X 306 dL_sound_196 (by decide) c107 ⟨by decide, by decide⟩ (fun q => absurd q c108) (fun _ => ?_)
  refine rc_iload X dL_sound_199 7 rfl ?_
  obtain ⟨c109, h⟩ := h
  refine rc_if_ne X 208 dL_sound_201 (by decide) c109 (fun c110 => ?_) (fun c110 => ?_)
  · have h := h.1 c110
    refine rc_iconst X dL_sound_208 ?_
    refine rc_subl [(0, .ref a0), (1, .int (rc_o a1)), (2, .int (rc_o x2)), (3, .int (rc_o x3)), (4, .int (rc_o x4)), (6, .int (rc_o (y1 + y0))), (7, .int (rc_o x7)), (8, .int (rc_o x8)), (9, .int (rc_o x9))] [1, 2, 3, 4, 5, 0, 6, 7, 8] rfl ?_
    exact gL_sound_209 X hr T0 hk143  h
  · have h := h.2 c110
    refine rc_iconst X dL_sound_204 ?_
    refine rc_goto X 209 dL_sound_205 (by decide) ?_
    refine rc_subl [(0, .ref a0), (1, .int (rc_o a1)), (2, .int (rc_o x2)), (3, .int (rc_o x3)), (4, .int (rc_o x4)), (6, .int (rc_o (y1 + y0))), (7, .int (rc_o x7)), (8, .int (rc_o x8)), (9, .int (rc_o x9))] [1, 2, 3, 4, 5, 0, 6, 7, 8] rfl ?_
    exact gL_sound_209 X hr T0 hk143  h
def wL_sound_143 (G : rc_G) (post : Int → rc_M → Prop) (a0 : Nat) (a1 : Int) (k143 : Int → Int → Int → Int → Int → Int → rc_M → Prop) (x2 : Int) (x3 : Int) (x4 : Int) (x5 : Int) (x6 : Int) (x7 : Int) (I : rc_M) : Prop :=
  rc_R x7 ∧ ((2 ≤ x7 → ∃ n, rL_sound_318 G post a0 a1  n x2 x4 x5 x6 1 I) ∧ (¬ 2 ≤ x7 → rc_R x5 ∧ ((¬ x5 = 0) ∧ (wX7_projector G a0 x7 0 I (fun r100 I99 => wX7_projector G a0 x7 1 I99 (fun r102 I101 => rc_R r100 ∧ ((¬ r100 = 3 → wL_sound_185 G post a0 a1 k143 x2 x3 x4 x7 r100 r102 0 x6 I101) ∧ (r100 = 3 → wL_sound_185 G post a0 a1 k143 x2 x3 x4 x7 r100 r102 1 x6 I101))))))))
set_option maxRecDepth 100000 in
set_option maxHeartbeats 4000000 in
theorem gL_sound_143 {p : Program} {l : Launch} {e : Env} {s : State} {m : MethodId} {below : List Frame} {meth : Method} {c : Code} {G : rc_G} {a0 : Nat} {a1 : Int} {I : rc_M} {post : Int → rc_M → Prop} {k143 : Int → Int → Int → Int → Int → Int → rc_M → Prop} {x2 : Int} {x3 : Int} {x4 : Int} {x5 : Int} {x6 : Int} {x7 : Int} (X : rc_X p s m ([.ref a0, .int (rc_o a1)] : List Value).toArray meth c cL_sound 10 wsL_sound RL G (rc_A G)) (hr : meth.sig.returnType = some .boolean) (T0 : kX7 G a0) (hk143 : ∀ (x2 : Int) (x3 : Int) (x4 : Int) (x5 : Int) (x6 : Int) (x7 : Int) (J : rc_M), k143 x2 x3 x4 x5 x6 x7 J → rc_g p l e rmL_sound s m ([.ref a0, .int (rc_o a1)] : List Value).toArray below meth c 0 0 (MQ below (rc_QI G post) ([.ref a0, .int (rc_o a1)] : List Value).toArray s 0 0 (rc_A G)) 10 G (rc_A G) 143 [(0, .ref a0), (1, .int (rc_o a1)), (2, .int (rc_o x2)), (3, .int (rc_o x3)), (4, .int (rc_o x4)), (5, .int (rc_o x5)), (6, .int (rc_o x6)), (7, .int (rc_o x7))] [] J)  (h : wL_sound_143 G post a0 a1 k143 x2 x3 x4 x5 x6 x7 I) : rc_g p l e rmL_sound s m ([.ref a0, .int (rc_o a1)] : List Value).toArray below meth c 0 0 (MQ below (rc_QI G post) ([.ref a0, .int (rc_o a1)] : List Value).toArray s 0 0 (rc_A G)) 10 G (rc_A G) 143 [(0, .ref a0), (1, .int (rc_o a1)), (2, .int (rc_o x2)), (3, .int (rc_o x3)), (4, .int (rc_o x4)), (5, .int (rc_o x5)), (6, .int (rc_o x6)), (7, .int (rc_o x7))] [] I := by
  unfold wL_sound_143 at h
  refine rc_iload X dL_sound_143 7 rfl ?_
  refine rc_iconst X dL_sound_145 ?_
  obtain ⟨c53, h⟩ := h
  refine rc_ic_ge X 315 dL_sound_146 (by decide) c53 ⟨by decide, by decide⟩ (fun c54 => ?_) (fun c54 => ?_)
  · have h := h.1 c54
    refine rc_iconst X dL_sound_315 ?_
    refine rc_istore X [(7, .int (rc_o 1)), (0, .ref a0), (1, .int (rc_o a1)), (2, .int (rc_o x2)), (3, .int (rc_o x3)), (4, .int (rc_o x4)), (5, .int (rc_o x5)), (6, .int (rc_o x6))] dL_sound_316 (by decide) rfl ?_
    refine rc_subl [(0, .ref a0), (1, .int (rc_o a1)), (2, .int (rc_o x2)), (4, .int (rc_o x4)), (5, .int (rc_o x5)), (6, .int (rc_o x6)), (7, .int (rc_o 1))] [1, 2, 3, 5, 6, 7, 0] rfl ?_
    obtain ⟨n, h⟩ := h
    exact sL_sound_318 X hr T0  h
  · have h := h.2 c54
    refine rc_iload X dL_sound_149 5 rfl ?_
    obtain ⟨c97, h⟩ := h
    obtain ⟨c98, h⟩ := h
    refine rc_if_eq X 315 dL_sound_151 (by decide) c97 (fun q => absurd q c98) (fun _ => ?_)
    refine rc_aload_n X dL_sound_154 rfl 0 rfl ?_
    refine rc_iload X dL_sound_155 7 rfl ?_
    refine rc_iconst X dL_sound_157 ?_
    refine rc_cVI (rest := []) X (mX7_projector T0 h) gL_sound_X7_projector rfl ⟨rfl, rfl⟩ dyX7_projector ⟨Nat.le_of_ble_eq_true rfl, Nat.le_of_ble_eq_true rfl⟩ (rc_recv X T0.1 rfl) rfl rfl (Nat.le_of_ble_eq_true rfl) dL_sound_158 ⟨Nat.zero_le _, Nat.zero_le _⟩ (fun r100 I99 h => ?_)
    refine rc_istore X [(8, .int (rc_o r100)), (0, .ref a0), (1, .int (rc_o a1)), (2, .int (rc_o x2)), (3, .int (rc_o x3)), (4, .int (rc_o x4)), (5, .int (rc_o x5)), (6, .int (rc_o x6)), (7, .int (rc_o x7))] dL_sound_161 (by decide) rfl ?_
    refine rc_aload_n X dL_sound_163 rfl 1 rfl ?_
    refine rc_iload X dL_sound_164 8 rfl ?_
    refine rc_iconst X dL_sound_166 ?_
    refine rc_cVI (rest := []) X (mX7_projector T0 h) gL_sound_X7_projector rfl ⟨rfl, rfl⟩ dyX7_projector ⟨Nat.le_of_ble_eq_true rfl, Nat.le_of_ble_eq_true rfl⟩ (rc_recv X T0.1 rfl) rfl rfl (Nat.le_of_ble_eq_true rfl) dL_sound_167 ⟨Nat.zero_le _, Nat.zero_le _⟩ (fun r102 I101 h => ?_)
    refine rc_istore X [(9, .int (rc_o r102)), (8, .int (rc_o r100)), (0, .ref a0), (1, .int (rc_o a1)), (2, .int (rc_o x2)), (3, .int (rc_o x3)), (4, .int (rc_o x4)), (5, .int (rc_o x5)), (6, .int (rc_o x6)), (7, .int (rc_o x7))] dL_sound_170 (by decide) rfl ?_
    refine rc_iload X dL_sound_172 8 rfl ?_
    refine rc_iload X dL_sound_174 1 rfl ?_
    refine rc_iconst X dL_sound_176 ?_
    obtain ⟨c103, h⟩ := h
    refine rc_ic_ne X 184 dL_sound_177 (by decide) c103 ⟨by decide, by decide⟩ (fun c104 => ?_) (fun c104 => ?_)
    · have h := h.1 c104
      refine rc_iconst X dL_sound_184 ?_
      refine rc_subl [(0, .ref a0), (1, .int (rc_o a1)), (2, .int (rc_o x2)), (3, .int (rc_o x3)), (4, .int (rc_o x4)), (7, .int (rc_o x7)), (8, .int (rc_o r100)), (9, .int (rc_o r102))] [2, 3, 4, 5, 6, 9, 1, 0] rfl ?_
      exact gL_sound_185 X hr T0 hk143  h
    · have h := h.2 c104
      refine rc_iconst X dL_sound_180 ?_
      refine rc_goto X 185 dL_sound_181 (by decide) ?_
      refine rc_subl [(0, .ref a0), (1, .int (rc_o a1)), (2, .int (rc_o x2)), (3, .int (rc_o x3)), (4, .int (rc_o x4)), (7, .int (rc_o x7)), (8, .int (rc_o r100)), (9, .int (rc_o r102))] [2, 3, 4, 5, 6, 9, 1, 0] rfl ?_
      exact gL_sound_185 X hr T0 hk143  h
noncomputable def rL_sound_143 (G : rc_G) (post : Int → rc_M → Prop) (a0 : Nat) (a1 : Int)  (n : Nat) : Int → Int → Int → Int → Int → Int → rc_M → Prop :=
  Nat.rec (motive := fun _ => Int → Int → Int → Int → Int → Int → rc_M → Prop) (fun _ _ _ _ _ _ _ => False) (fun _ ih => wL_sound_143 G post a0 a1  ih) n
set_option maxRecDepth 100000 in
set_option maxHeartbeats 4000000 in
theorem sL_sound_143 {p : Program} {l : Launch} {e : Env} {s : State} {m : MethodId} {below : List Frame} {meth : Method} {c : Code} {G : rc_G} {a0 : Nat} {a1 : Int} {I : rc_M} {post : Int → rc_M → Prop}  {n : Nat} {x2 : Int} {x3 : Int} {x4 : Int} {x5 : Int} {x6 : Int} {x7 : Int} (X : rc_X p s m ([.ref a0, .int (rc_o a1)] : List Value).toArray meth c cL_sound 10 wsL_sound RL G (rc_A G)) (hr : meth.sig.returnType = some .boolean) (T0 : kX7 G a0)  (h : rL_sound_143 G post a0 a1  n x2 x3 x4 x5 x6 x7 I) : rc_g p l e rmL_sound s m ([.ref a0, .int (rc_o a1)] : List Value).toArray below meth c 0 0 (MQ below (rc_QI G post) ([.ref a0, .int (rc_o a1)] : List Value).toArray s 0 0 (rc_A G)) 10 G (rc_A G) 143 [(0, .ref a0), (1, .int (rc_o a1)), (2, .int (rc_o x2)), (3, .int (rc_o x3)), (4, .int (rc_o x4)), (5, .int (rc_o x5)), (6, .int (rc_o x6)), (7, .int (rc_o x7))] [] I := by
  induction n generalizing x2 x3 x4 x5 x6 x7 I with
  | zero => exact h.elim
  | succ n ih => exact gL_sound_143 (k143 := rL_sound_143 G post a0 a1  n) X hr T0  (fun x2 x3 x4 x5 x6 x7 J h2 => ih h2) h
def wL_sound_127 (G : rc_G) (post : Int → rc_M → Prop) (a0 : Nat) (a1 : Int)  (x2 : Int) (x3 : Int) (x4 : Int) (y0 : Int) (y1 : Int) (I : rc_M) : Prop :=
  rc_R y1 ∧ (rc_R y0 ∧ ((y1 = y0) ∧ (∃ n, rL_sound_143 G post a0 a1  n x2 x3 x4 1 0 0 I)))
set_option maxRecDepth 100000 in
set_option maxHeartbeats 4000000 in
theorem gL_sound_127 {p : Program} {l : Launch} {e : Env} {s : State} {m : MethodId} {below : List Frame} {meth : Method} {c : Code} {G : rc_G} {a0 : Nat} {a1 : Int} {I : rc_M} {post : Int → rc_M → Prop}  {x2 : Int} {x3 : Int} {x4 : Int} {y0 : Int} {y1 : Int} (X : rc_X p s m ([.ref a0, .int (rc_o a1)] : List Value).toArray meth c cL_sound 10 wsL_sound RL G (rc_A G)) (hr : meth.sig.returnType = some .boolean) (T0 : kX7 G a0)   (h : wL_sound_127 G post a0 a1  x2 x3 x4 y0 y1 I) : rc_g p l e rmL_sound s m ([.ref a0, .int (rc_o a1)] : List Value).toArray below meth c 0 0 (MQ below (rc_QI G post) ([.ref a0, .int (rc_o a1)] : List Value).toArray s 0 0 (rc_A G)) 10 G (rc_A G) 127 [(0, .ref a0), (1, .int (rc_o a1)), (2, .int (rc_o x2)), (3, .int (rc_o x3)), (4, .int (rc_o x4))] [.int (rc_o y0), .int (rc_o y1)] I := by
  unfold wL_sound_127 at h
  obtain ⟨c50, h⟩ := h
  obtain ⟨c51, h⟩ := h
  obtain ⟨c52, h⟩ := h
  refine rc_ic_ne X 134 dL_sound_127 (by decide) c50 c51 (fun q => absurd c52 q) (fun _ => ?_)
  refine rc_iconst X dL_sound_130 ?_
  refine rc_goto X 135 dL_sound_131 (by decide) ?_
  refine rc_istore X [(5, .int (rc_o 1)), (0, .ref a0), (1, .int (rc_o a1)), (2, .int (rc_o x2)), (3, .int (rc_o x3)), (4, .int (rc_o x4))] dL_sound_135 (by decide) rfl ?_
  refine rc_iconst X dL_sound_137 ?_
  refine rc_istore X [(6, .int (rc_o 0)), (5, .int (rc_o 1)), (0, .ref a0), (1, .int (rc_o a1)), (2, .int (rc_o x2)), (3, .int (rc_o x3)), (4, .int (rc_o x4))] dL_sound_138 (by decide) rfl ?_
  refine rc_iconst X dL_sound_140 ?_
  refine rc_istore X [(7, .int (rc_o 0)), (6, .int (rc_o 0)), (5, .int (rc_o 1)), (0, .ref a0), (1, .int (rc_o a1)), (2, .int (rc_o x2)), (3, .int (rc_o x3)), (4, .int (rc_o x4))] dL_sound_141 (by decide) rfl ?_
  refine rc_subl [(0, .ref a0), (1, .int (rc_o a1)), (2, .int (rc_o x2)), (3, .int (rc_o x3)), (4, .int (rc_o x4)), (5, .int (rc_o 1)), (6, .int (rc_o 0)), (7, .int (rc_o 0))] [3, 4, 5, 6, 7, 2, 1, 0] rfl ?_
  obtain ⟨n, h⟩ := h
  exact sL_sound_143 X hr T0  h
def wL_sound_113 (G : rc_G) (post : Int → rc_M → Prop) (a0 : Nat) (a1 : Int)  (x2 : Int) (x3 : Int) (x4 : Int) (y0 : Int) (I : rc_M) : Prop :=
  wX7_task G a0 0 0 I (fun r47 I46 => rc_R r47 ∧ ((r47 < 0 → wL_sound_127 G post a0 a1  x2 x3 x4 0 y0 I46) ∧ (¬ r47 < 0 → wL_sound_127 G post a0 a1  x2 x3 x4 1 y0 I46)))
set_option maxRecDepth 100000 in
set_option maxHeartbeats 4000000 in
theorem gL_sound_113 {p : Program} {l : Launch} {e : Env} {s : State} {m : MethodId} {below : List Frame} {meth : Method} {c : Code} {G : rc_G} {a0 : Nat} {a1 : Int} {I : rc_M} {post : Int → rc_M → Prop}  {x2 : Int} {x3 : Int} {x4 : Int} {y0 : Int} (X : rc_X p s m ([.ref a0, .int (rc_o a1)] : List Value).toArray meth c cL_sound 10 wsL_sound RL G (rc_A G)) (hr : meth.sig.returnType = some .boolean) (T0 : kX7 G a0)   (h : wL_sound_113 G post a0 a1  x2 x3 x4 y0 I) : rc_g p l e rmL_sound s m ([.ref a0, .int (rc_o a1)] : List Value).toArray below meth c 0 0 (MQ below (rc_QI G post) ([.ref a0, .int (rc_o a1)] : List Value).toArray s 0 0 (rc_A G)) 10 G (rc_A G) 113 [(0, .ref a0), (1, .int (rc_o a1)), (2, .int (rc_o x2)), (3, .int (rc_o x3)), (4, .int (rc_o x4))] [.int (rc_o y0)] I := by
  unfold wL_sound_113 at h
  refine rc_aload_n X dL_sound_113 rfl 0 rfl ?_
  refine rc_iconst X dL_sound_114 ?_
  refine rc_iconst X dL_sound_115 ?_
  refine rc_cVI (rest := [.int (rc_o y0)]) X (mX7_task T0 h) gL_sound_X7_task rfl ⟨rfl, rfl⟩ dyX7_task ⟨Nat.le_of_ble_eq_true rfl, Nat.le_of_ble_eq_true rfl⟩ (rc_recv X T0.1 rfl) rfl rfl (Nat.le_of_ble_eq_true rfl) dL_sound_116 ⟨Nat.zero_le _, Nat.zero_le _⟩ (fun r47 I46 h => ?_)
  obtain ⟨c48, h⟩ := h
  refine rc_if_lt X 126 dL_sound_119 (by decide) c48 (fun c49 => ?_) (fun c49 => ?_)
  · have h := h.1 c49
    refine rc_iconst X dL_sound_126 ?_
    refine rc_subl [(0, .ref a0), (1, .int (rc_o a1)), (2, .int (rc_o x2)), (3, .int (rc_o x3)), (4, .int (rc_o x4))] [0, 1, 2, 3, 4] rfl ?_
    exact gL_sound_127 X hr T0   h
  · have h := h.2 c49
    refine rc_iconst X dL_sound_122 ?_
    refine rc_goto X 127 dL_sound_123 (by decide) ?_
    refine rc_subl [(0, .ref a0), (1, .int (rc_o a1)), (2, .int (rc_o x2)), (3, .int (rc_o x3)), (4, .int (rc_o x4))] [0, 1, 2, 3, 4] rfl ?_
    exact gL_sound_127 X hr T0   h
def wL_sound_27 (G : rc_G) (post : Int → rc_M → Prop) (a0 : Nat) (a1 : Int)  (x2 : Int) (x3 : Int) (y0 : Int) (I : rc_M) : Prop :=
  wX7_tell G a0 3 I (fun r10 I9 => wX7_tell G a0 1 I9 (fun r12 I11 => rc_R r10 ∧ (rc_R r12 ∧ ((¬ r12 < r10) ∧ (wX7_tell G a0 4 I11 (fun r17 I16 => rc_R r17 ∧ ((¬ r17 < 0) ∧ (wX7_tell G a0 5 I16 (fun r21 I20 => rc_R r21 ∧ ((¬ r21 < 0) ∧ (wX7_tell G a0 5 I20 (fun r25 I24 => wX7_tell G a0 6 I24 (fun r27 I26 => rc_R r25 ∧ (rc_R (x3 + r27) ∧ ((¬ (x3 + r27) < r25) ∧ (rc_R x3 ∧ (rc_R a1 ∧ ((¬ a1 < x3) ∧ (wX7_tell G a0 8 I26 (fun r35 I34 => rc_R r35 ∧ ((¬ r35 < 0) ∧ (wX7_tell G a0 8 I34 (fun r39 I38 => rc_R r39 ∧ ((¬ 8 ≤ r39) ∧ (wX7_tell G a0 9 I38 (fun r43 I42 => rc_R r43 ∧ ((r43 ≤ 0 → wL_sound_113 G post a0 a1  x2 x3 y0 0 I42) ∧ (¬ r43 ≤ 0 → wL_sound_113 G post a0 a1  x2 x3 y0 1 I42))))))))))))))))))))))))))))
set_option maxRecDepth 100000 in
set_option maxHeartbeats 4000000 in
theorem gL_sound_27 {p : Program} {l : Launch} {e : Env} {s : State} {m : MethodId} {below : List Frame} {meth : Method} {c : Code} {G : rc_G} {a0 : Nat} {a1 : Int} {I : rc_M} {post : Int → rc_M → Prop}  {x2 : Int} {x3 : Int} {y0 : Int} (X : rc_X p s m ([.ref a0, .int (rc_o a1)] : List Value).toArray meth c cL_sound 10 wsL_sound RL G (rc_A G)) (hr : meth.sig.returnType = some .boolean) (T0 : kX7 G a0)   (h : wL_sound_27 G post a0 a1  x2 x3 y0 I) : rc_g p l e rmL_sound s m ([.ref a0, .int (rc_o a1)] : List Value).toArray below meth c 0 0 (MQ below (rc_QI G post) ([.ref a0, .int (rc_o a1)] : List Value).toArray s 0 0 (rc_A G)) 10 G (rc_A G) 27 [(0, .ref a0), (1, .int (rc_o a1)), (2, .int (rc_o x2)), (3, .int (rc_o x3))] [.int (rc_o y0)] I := by
  unfold wL_sound_27 at h
  refine rc_istore X [(4, .int (rc_o y0)), (0, .ref a0), (1, .int (rc_o a1)), (2, .int (rc_o x2)), (3, .int (rc_o x3))] dL_sound_27 (by decide) rfl ?_
  refine rc_aload_n X dL_sound_29 rfl 1 rfl ?_
  refine rc_iconst X dL_sound_30 ?_
  refine rc_cVI (rest := []) X (mX7_tell T0 h) gL_sound_X7_tell rfl ⟨rfl, rfl⟩ dyX7_tell ⟨Nat.le_of_ble_eq_true rfl, Nat.le_of_ble_eq_true rfl⟩ (rc_recv X T0.1 rfl) rfl rfl (Nat.le_of_ble_eq_true rfl) dL_sound_31 ⟨Nat.zero_le _, Nat.zero_le _⟩ (fun r10 I9 h => ?_)
  refine rc_aload_n X dL_sound_34 rfl 1 rfl ?_
  refine rc_iconst X dL_sound_35 ?_
  refine rc_cVI (rest := [.int (rc_o r10)]) X (mX7_tell T0 h) gL_sound_X7_tell rfl ⟨rfl, rfl⟩ dyX7_tell ⟨Nat.le_of_ble_eq_true rfl, Nat.le_of_ble_eq_true rfl⟩ (rc_recv X T0.1 rfl) rfl rfl (Nat.le_of_ble_eq_true rfl) dL_sound_36 ⟨Nat.zero_le _, Nat.zero_le _⟩ (fun r12 I11 h => ?_)
  obtain ⟨c13, h⟩ := h
  obtain ⟨c14, h⟩ := h
  obtain ⟨c15, h⟩ := h
  refine rc_ic_gt X 134 dL_sound_39 (by decide) c13 c14 (fun q => absurd q c15) (fun _ => ?_)
  refine rc_aload_n X dL_sound_42 rfl 1 rfl ?_
  refine rc_iconst X dL_sound_43 ?_
  refine rc_cVI (rest := []) X (mX7_tell T0 h) gL_sound_X7_tell rfl ⟨rfl, rfl⟩ dyX7_tell ⟨Nat.le_of_ble_eq_true rfl, Nat.le_of_ble_eq_true rfl⟩ (rc_recv X T0.1 rfl) rfl rfl (Nat.le_of_ble_eq_true rfl) dL_sound_44 ⟨Nat.zero_le _, Nat.zero_le _⟩ (fun r17 I16 h => ?_)
  obtain ⟨c18, h⟩ := h
  obtain ⟨c19, h⟩ := h
  refine rc_if_lt X 134 dL_sound_47 (by decide) c18 (fun q => absurd q c19) (fun _ => ?_)
  refine rc_aload_n X dL_sound_50 rfl 1 rfl ?_
  refine rc_iconst X dL_sound_51 ?_
  refine rc_cVI (rest := []) X (mX7_tell T0 h) gL_sound_X7_tell rfl ⟨rfl, rfl⟩ dyX7_tell ⟨Nat.le_of_ble_eq_true rfl, Nat.le_of_ble_eq_true rfl⟩ (rc_recv X T0.1 rfl) rfl rfl (Nat.le_of_ble_eq_true rfl) dL_sound_52 ⟨Nat.zero_le _, Nat.zero_le _⟩ (fun r21 I20 h => ?_)
  obtain ⟨c22, h⟩ := h
  obtain ⟨c23, h⟩ := h
  refine rc_if_lt X 134 dL_sound_55 (by decide) c22 (fun q => absurd q c23) (fun _ => ?_)
  refine rc_aload_n X dL_sound_58 rfl 1 rfl ?_
  refine rc_iconst X dL_sound_59 ?_
  refine rc_cVI (rest := []) X (mX7_tell T0 h) gL_sound_X7_tell rfl ⟨rfl, rfl⟩ dyX7_tell ⟨Nat.le_of_ble_eq_true rfl, Nat.le_of_ble_eq_true rfl⟩ (rc_recv X T0.1 rfl) rfl rfl (Nat.le_of_ble_eq_true rfl) dL_sound_60 ⟨Nat.zero_le _, Nat.zero_le _⟩ (fun r25 I24 h => ?_)
  refine rc_iload_n X dL_sound_63 rfl 4 rfl ?_
  refine rc_aload_n X dL_sound_64 rfl 1 rfl ?_
  refine rc_bipush X dL_sound_65 (rc_b8 _ ⟨by decide, by decide⟩) ?_
  refine rc_cVI (rest := [.int (rc_o x3), .int (rc_o r25)]) X (mX7_tell T0 h) gL_sound_X7_tell rfl ⟨rfl, rfl⟩ dyX7_tell ⟨Nat.le_of_ble_eq_true rfl, Nat.le_of_ble_eq_true rfl⟩ (rc_recv X T0.1 rfl) rfl rfl (Nat.le_of_ble_eq_true rfl) dL_sound_67 ⟨Nat.zero_le _, Nat.zero_le _⟩ (fun r27 I26 h => ?_)
  refine rc_iadd X dL_sound_70 ?_
  obtain ⟨c28, h⟩ := h
  obtain ⟨c29, h⟩ := h
  obtain ⟨c30, h⟩ := h
  refine rc_ic_gt X 134 dL_sound_71 (by decide) c28 c29 (fun q => absurd q c30) (fun _ => ?_)
  refine rc_iload_n X dL_sound_74 rfl 4 rfl ?_
  refine rc_iload_n X dL_sound_75 rfl 2 rfl ?_
  obtain ⟨c31, h⟩ := h
  obtain ⟨c32, h⟩ := h
  obtain ⟨c33, h⟩ := h
  refine rc_ic_gt X 134 dL_sound_76 (by decide) c31 c32 (fun q => absurd q c33) (fun _ => ?_)
  refine rc_aload_n X dL_sound_79 rfl 1 rfl ?_
  refine rc_bipush X dL_sound_80 (rc_b8 _ ⟨by decide, by decide⟩) ?_
  refine rc_cVI (rest := []) X (mX7_tell T0 h) gL_sound_X7_tell rfl ⟨rfl, rfl⟩ dyX7_tell ⟨Nat.le_of_ble_eq_true rfl, Nat.le_of_ble_eq_true rfl⟩ (rc_recv X T0.1 rfl) rfl rfl (Nat.le_of_ble_eq_true rfl) dL_sound_82 ⟨Nat.zero_le _, Nat.zero_le _⟩ (fun r35 I34 h => ?_)
  obtain ⟨c36, h⟩ := h
  obtain ⟨c37, h⟩ := h
  refine rc_if_lt X 134 dL_sound_85 (by decide) c36 (fun q => absurd q c37) (fun _ => ?_)
  refine rc_aload_n X dL_sound_88 rfl 1 rfl ?_
  refine rc_bipush X dL_sound_89 (rc_b8 _ ⟨by decide, by decide⟩) ?_
  refine rc_cVI (rest := []) X (mX7_tell T0 h) gL_sound_X7_tell rfl ⟨rfl, rfl⟩ dyX7_tell ⟨Nat.le_of_ble_eq_true rfl, Nat.le_of_ble_eq_true rfl⟩ (rc_recv X T0.1 rfl) rfl rfl (Nat.le_of_ble_eq_true rfl) dL_sound_91 ⟨Nat.zero_le _, Nat.zero_le _⟩ (fun r39 I38 h => ?_)
  refine rc_bipush X dL_sound_94 (rc_b8 _ ⟨by decide, by decide⟩) ?_
  obtain ⟨c40, h⟩ := h
  obtain ⟨c41, h⟩ := h
  refine rc_ic_ge X 134 dL_sound_96 (by decide) c40 ⟨by decide, by decide⟩ (fun q => absurd q c41) (fun _ => ?_)
  refine rc_aload_n X dL_sound_99 rfl 1 rfl ?_
  refine rc_bipush X dL_sound_100 (rc_b8 _ ⟨by decide, by decide⟩) ?_
  refine rc_cVI (rest := []) X (mX7_tell T0 h) gL_sound_X7_tell rfl ⟨rfl, rfl⟩ dyX7_tell ⟨Nat.le_of_ble_eq_true rfl, Nat.le_of_ble_eq_true rfl⟩ (rc_recv X T0.1 rfl) rfl rfl (Nat.le_of_ble_eq_true rfl) dL_sound_102 ⟨Nat.zero_le _, Nat.zero_le _⟩ (fun r43 I42 h => ?_)
  obtain ⟨c44, h⟩ := h
  refine rc_if_le X 112 dL_sound_105 (by decide) c44 (fun c45 => ?_) (fun c45 => ?_)
  · have h := h.1 c45
    refine rc_iconst X dL_sound_112 ?_
    refine rc_subl [(0, .ref a0), (1, .int (rc_o a1)), (2, .int (rc_o x2)), (3, .int (rc_o x3)), (4, .int (rc_o y0))] [1, 2, 3, 4, 0] rfl ?_
    exact gL_sound_113 X hr T0   h
  · have h := h.2 c45
    refine rc_iconst X dL_sound_108 ?_
    refine rc_goto X 113 dL_sound_109 (by decide) ?_
    refine rc_subl [(0, .ref a0), (1, .int (rc_o a1)), (2, .int (rc_o x2)), (3, .int (rc_o x3)), (4, .int (rc_o y0))] [1, 2, 3, 4, 0] rfl ?_
    exact gL_sound_113 X hr T0   h
def wL_sound (G : rc_G) (a0 : Nat) (a1 : Int) (I : rc_M) (post : Int → rc_M → Prop) : Prop :=
  wX7_tell G a0 2 I (fun r2 I1 => wX7_tell G a0 7 I1 (fun r4 I3 => wX7_tell G a0 0 I3 (fun r6 I5 => rc_R r6 ∧ ((¬ r6 = 1 → wL_sound_27 G post a0 a1  r2 r4 0 I5) ∧ (r6 = 1 → wL_sound_27 G post a0 a1  r2 r4 1 I5)))))
set_option maxRecDepth 100000 in
set_option maxHeartbeats 4000000 in
theorem gL_sound_0 {p : Program} {l : Launch} {e : Env} {s : State} {m : MethodId} {below : List Frame} {meth : Method} {c : Code} {G : rc_G} {a0 : Nat} {a1 : Int} {I : rc_M} {post : Int → rc_M → Prop}  (X : rc_X p s m ([.ref a0, .int (rc_o a1)] : List Value).toArray meth c cL_sound 10 wsL_sound RL G (rc_A G)) (hr : meth.sig.returnType = some .boolean) (T0 : kX7 G a0)  (h : wL_sound G a0 a1 I post) : rc_g p l e rmL_sound s m ([.ref a0, .int (rc_o a1)] : List Value).toArray below meth c 0 0 (MQ below (rc_QI G post) ([.ref a0, .int (rc_o a1)] : List Value).toArray s 0 0 (rc_A G)) 10 G (rc_A G) 0 [(0, .ref a0), (1, .int (rc_o a1))] [] I := by
  unfold wL_sound at h
  refine rc_aload_n X dL_sound_0 rfl 0 rfl ?_
  refine rc_iconst X dL_sound_1 ?_
  refine rc_cVI (rest := []) X (mX7_tell T0 h) gL_sound_X7_tell rfl ⟨rfl, rfl⟩ dyX7_tell ⟨Nat.le_of_ble_eq_true rfl, Nat.le_of_ble_eq_true rfl⟩ (rc_recv X T0.1 rfl) rfl rfl (Nat.le_of_ble_eq_true rfl) dL_sound_2 ⟨Nat.zero_le _, Nat.zero_le _⟩ (fun r2 I1 h => ?_)
  refine rc_istore_n X [(2, .int (rc_o r2)), (0, .ref a0), (1, .int (rc_o a1))] dL_sound_5 rfl (by decide) rfl ?_
  refine rc_aload_n X dL_sound_6 rfl 1 rfl ?_
  refine rc_bipush X dL_sound_7 (rc_b8 _ ⟨by decide, by decide⟩) ?_
  refine rc_cVI (rest := []) X (mX7_tell T0 h) gL_sound_X7_tell rfl ⟨rfl, rfl⟩ dyX7_tell ⟨Nat.le_of_ble_eq_true rfl, Nat.le_of_ble_eq_true rfl⟩ (rc_recv X T0.1 rfl) rfl rfl (Nat.le_of_ble_eq_true rfl) dL_sound_9 ⟨Nat.zero_le _, Nat.zero_le _⟩ (fun r4 I3 h => ?_)
  refine rc_istore_n X [(3, .int (rc_o r4)), (2, .int (rc_o r2)), (0, .ref a0), (1, .int (rc_o a1))] dL_sound_12 rfl (by decide) rfl ?_
  refine rc_aload_n X dL_sound_13 rfl 2 rfl ?_
  refine rc_iconst X dL_sound_14 ?_
  refine rc_cVI (rest := []) X (mX7_tell T0 h) gL_sound_X7_tell rfl ⟨rfl, rfl⟩ dyX7_tell ⟨Nat.le_of_ble_eq_true rfl, Nat.le_of_ble_eq_true rfl⟩ (rc_recv X T0.1 rfl) rfl rfl (Nat.le_of_ble_eq_true rfl) dL_sound_15 ⟨Nat.zero_le _, Nat.zero_le _⟩ (fun r6 I5 h => ?_)
  refine rc_iconst X dL_sound_18 ?_
  obtain ⟨c7, h⟩ := h
  refine rc_ic_ne X 26 dL_sound_19 (by decide) c7 ⟨by decide, by decide⟩ (fun c8 => ?_) (fun c8 => ?_)
  · have h := h.1 c8
    refine rc_iconst X dL_sound_26 ?_
    refine rc_subl [(0, .ref a0), (1, .int (rc_o a1)), (2, .int (rc_o r2)), (3, .int (rc_o r4))] [2, 3, 1, 0] rfl ?_
    exact gL_sound_27 X hr T0   h
  · have h := h.2 c8
    refine rc_iconst X dL_sound_22 ?_
    refine rc_goto X 27 dL_sound_23 (by decide) ?_
    refine rc_subl [(0, .ref a0), (1, .int (rc_o a1)), (2, .int (rc_o r2)), (3, .int (rc_o r4))] [2, 3, 1, 0] rfl ?_
    exact gL_sound_27 X hr T0   h
theorem mL_sound {l : Launch} {G : rc_G} {a0 : Nat} {a1 : Int} {I : rc_M} {post : Int → rc_M → Prop} (T0 : kX7 G a0) (h : wL_sound G a0 a1 I post) : rc_CI l yL_sound wsL_sound rmL_sound G [.ref a0, .int (rc_o a1)] I post :=
  rc_body (by decide +kernel) rfl rfl (Nat.le_of_ble_eq_true rfl) rfl (fun p e s m below meth c X hr => gL_sound_0 X hr T0 h)
