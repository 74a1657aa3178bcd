def wL_10 (xs : Nat → Int32) (x y : Nat) (i : Int) (k : rc_M → Prop) (G : rc_G) (I : rc_M) : Prop :=
  wX7_setProgram G x I (fun r1 I1 => wX8_setProgram G y I1 (fun r2 I2 => r1 = r2 ∧ k I2))
set_option maxRecDepth 100000 in
set_option maxHeartbeats 4000000 in
theorem gL_10 {p : Program} {l : Launch} {e : Env} {s : State} {m : MethodId} {args : Array Value} {below : List Frame} {meth : Method} {c : Code} {cells slots : Nat} {Q : State → Prop} {G : rc_G} {A : Nat → Prop} {I : rc_M} {b L x y : Nat} {xs : Nat → Int32} {i : Int} (X : rc_X p s m args meth c cL_law 4 wsL_law RL G A) (S : rl_S b L xs A s) (hi : 0 ≤ i ∧ i + 4 ≤ L) (T7 : kX7 G x) (T8 : kX8 G y) (hc : cells ≤ room_1.cells ∧ slots ≤ room_1.slots) {k : rc_M → Prop} (hk : ∀ J : rc_M, k J → rc_g p l e room_1 s m args below meth c cells slots Q 4 G A 699 (rl_lv i b x y) [] J) (h : wL_10 xs x y i k G I) : rc_g p l e room_1 s m args below meth c cells slots Q 4 G A 422 (rl_lv i b x y) [] I := by
  unfold wL_10 at h
  refine rc_aload_n X dL_law_422 rfl 2 rfl ?_
  refine rc_cVI (rest := []) X (mX7_setProgram T7 h) gL_law_X7_setProgram rfl ⟨rfl, rfl⟩ dyX7_setProgram ⟨Nat.le_of_ble_eq_true rfl, Nat.le_of_ble_eq_true rfl⟩ (rc_recv X T7.1 rfl) rfl rfl (Nat.le_of_ble_eq_true rfl) dL_law_423 hc (fun r1 I1 h => ?_)
  refine rc_aload_n X dL_law_426 rfl 3 rfl ?_
  refine rc_cVI (rest := [.int (rc_o r1)]) X (mX8_setProgram T8 h) gL_law_X8_setProgram rfl ⟨rfl, rfl⟩ dyX8_setProgram ⟨Nat.le_of_ble_eq_true rfl, Nat.le_of_ble_eq_true rfl⟩ (rc_recv X T8.1 rfl) rfl rfl (Nat.le_of_ble_eq_true rfl) dL_law_427 hc (fun r2 I2 h => ?_)
  refine rl_eq X 699 dL_law_430 (by decide) h.1 ?_
  exact hk  _ h.2
def wL_11 (xs : Nat → Int32) (x y : Nat) (i : Int) (k : rc_M → Prop) (G : rc_G) (I : rc_M) : Prop :=
  wX7_program G x (rl_sx xs (i + 1)) I (fun r1 I1 => wX8_program G y (rl_sx xs (i + 1)) I1 (fun r2 I2 => r1 = r2 ∧ k I2))
set_option maxRecDepth 100000 in
set_option maxHeartbeats 4000000 in
theorem gL_11 {p : Program} {l : Launch} {e : Env} {s : State} {m : MethodId} {args : Array Value} {below : List Frame} {meth : Method} {c : Code} {cells slots : Nat} {Q : State → Prop} {G : rc_G} {A : Nat → Prop} {I : rc_M} {b L x y : Nat} {xs : Nat → Int32} {i : Int} (X : rc_X p s m args meth c cL_law 4 wsL_law RL G A) (S : rl_S b L xs A s) (hi : 0 ≤ i ∧ i + 4 ≤ L) (T7 : kX7 G x) (T8 : kX8 G y) (hc : cells ≤ room_1.cells ∧ slots ≤ room_1.slots) {k : rc_M → Prop} (hk : ∀ J : rc_M, k J → rc_g p l e room_1 s m args below meth c cells slots Q 4 G A 699 (rl_lv i b x y) [] J) (h : wL_11 xs x y i k G I) : rc_g p l e room_1 s m args below meth c cells slots Q 4 G A 435 (rl_lv i b x y) [] I := by
  unfold wL_11 at h
  refine rc_aload_n X dL_law_435 rfl 2 rfl ?_
  refine rc_aload_n X dL_law_436 rfl 1 rfl ?_
  refine rc_iload_n X dL_law_437 rfl 0 rfl ?_
  refine rc_iconst X dL_law_438 ?_
  refine rc_iadd X dL_law_439 ?_
  refine rl_sld X S dL_law_440 (by omega) ?_
  refine rc_cVI (rest := []) X (mX7_program T7 h) gL_law_X7_program rfl ⟨rfl, rfl⟩ dyX7_program ⟨Nat.le_of_ble_eq_true rfl, Nat.le_of_ble_eq_true rfl⟩ (rc_recv X T7.1 rfl) rfl rfl (Nat.le_of_ble_eq_true rfl) dL_law_441 hc (fun r1 I1 h => ?_)
  refine rc_aload_n X dL_law_444 rfl 3 rfl ?_
  refine rc_aload_n X dL_law_445 rfl 1 rfl ?_
  refine rc_iload_n X dL_law_446 rfl 0 rfl ?_
  refine rc_iconst X dL_law_447 ?_
  refine rc_iadd X dL_law_448 ?_
  refine rl_sld X S dL_law_449 (by omega) ?_
  refine rc_cVI (rest := [.int (rc_o r1)]) X (mX8_program T8 h) gL_law_X8_program rfl ⟨rfl, rfl⟩ dyX8_program ⟨Nat.le_of_ble_eq_true rfl, Nat.le_of_ble_eq_true rfl⟩ (rc_recv X T8.1 rfl) rfl rfl (Nat.le_of_ble_eq_true rfl) dL_law_450 hc (fun r2 I2 h => ?_)
  refine rl_eq X 699 dL_law_453 (by decide) h.1 ?_
  exact hk  _ h.2
def wL_12 (xs : Nat → Int32) (x y : Nat) (i : Int) (k : rc_M → Prop) (G : rc_G) (I : rc_M) : Prop :=
  wX7_begin G x I (fun r1 I1 => wX8_begin G y I1 (fun r2 I2 => r1 = r2 ∧ k I2))
set_option maxRecDepth 100000 in
set_option maxHeartbeats 4000000 in
theorem gL_12 {p : Program} {l : Launch} {e : Env} {s : State} {m : MethodId} {args : Array Value} {below : List Frame} {meth : Method} {c : Code} {cells slots : Nat} {Q : State → Prop} {G : rc_G} {A : Nat → Prop} {I : rc_M} {b L x y : Nat} {xs : Nat → Int32} {i : Int} (X : rc_X p s m args meth c cL_law 4 wsL_law RL G A) (S : rl_S b L xs A s) (hi : 0 ≤ i ∧ i + 4 ≤ L) (T7 : kX7 G x) (T8 : kX8 G y) (hc : cells ≤ room_1.cells ∧ slots ≤ room_1.slots) {k : rc_M → Prop} (hk : ∀ J : rc_M, k J → rc_g p l e room_1 s m args below meth c cells slots Q 4 G A 699 (rl_lv i b x y) [] J) (h : wL_12 xs x y i k G I) : rc_g p l e room_1 s m args below meth c cells slots Q 4 G A 458 (rl_lv i b x y) [] I := by
  unfold wL_12 at h
  refine rc_aload_n X dL_law_458 rfl 2 rfl ?_
  refine rc_cVI (rest := []) X (mX7_begin T7 h) gL_law_X7_begin rfl ⟨rfl, rfl⟩ dyX7_begin ⟨Nat.le_of_ble_eq_true rfl, Nat.le_of_ble_eq_true rfl⟩ (rc_recv X T7.1 rfl) rfl rfl (Nat.le_of_ble_eq_true rfl) dL_law_459 hc (fun r1 I1 h => ?_)
  refine rc_aload_n X dL_law_462 rfl 3 rfl ?_
  refine rc_cVI (rest := [.int (rc_o r1)]) X (mX8_begin T8 h) gL_law_X8_begin rfl ⟨rfl, rfl⟩ dyX8_begin ⟨Nat.le_of_ble_eq_true rfl, Nat.le_of_ble_eq_true rfl⟩ (rc_recv X T8.1 rfl) rfl rfl (Nat.le_of_ble_eq_true rfl) dL_law_463 hc (fun r2 I2 h => ?_)
  refine rl_eq X 699 dL_law_466 (by decide) h.1 ?_
  exact hk  _ h.2
def wL_13 (xs : Nat → Int32) (x y : Nat) (i : Int) (k : rc_M → Prop) (G : rc_G) (I : rc_M) : Prop :=
  wX7_pass G x (rl_sx xs (i + 1)) I (fun r1 I1 => wX8_pass G y (rl_sx xs (i + 1)) I1 (fun r2 I2 => r1 = r2 ∧ k I2))
set_option maxRecDepth 100000 in
set_option maxHeartbeats 4000000 in
theorem gL_13 {p : Program} {l : Launch} {e : Env} {s : State} {m : MethodId} {args : Array Value} {below : List Frame} {meth : Method} {c : Code} {cells slots : Nat} {Q : State → Prop} {G : rc_G} {A : Nat → Prop} {I : rc_M} {b L x y : Nat} {xs : Nat → Int32} {i : Int} (X : rc_X p s m args meth c cL_law 4 wsL_law RL G A) (S : rl_S b L xs A s) (hi : 0 ≤ i ∧ i + 4 ≤ L) (T7 : kX7 G x) (T8 : kX8 G y) (hc : cells ≤ room_1.cells ∧ slots ≤ room_1.slots) {k : rc_M → Prop} (hk : ∀ J : rc_M, k J → rc_g p l e room_1 s m args below meth c cells slots Q 4 G A 699 (rl_lv i b x y) [] J) (h : wL_13 xs x y i k G I) : rc_g p l e room_1 s m args below meth c cells slots Q 4 G A 471 (rl_lv i b x y) [] I := by
  unfold wL_13 at h
  refine rc_aload_n X dL_law_471 rfl 2 rfl ?_
  refine rc_aload_n X dL_law_472 rfl 1 rfl ?_
  refine rc_iload_n X dL_law_473 rfl 0 rfl ?_
  refine rc_iconst X dL_law_474 ?_
  refine rc_iadd X dL_law_475 ?_
  refine rl_sld X S dL_law_476 (by omega) ?_
  refine rc_cVI (rest := []) X (mX7_pass T7 h) gL_law_X7_pass rfl ⟨rfl, rfl⟩ dyX7_pass ⟨Nat.le_of_ble_eq_true rfl, Nat.le_of_ble_eq_true rfl⟩ (rc_recv X T7.1 rfl) rfl rfl (Nat.le_of_ble_eq_true rfl) dL_law_477 hc (fun r1 I1 h => ?_)
  refine rc_aload_n X dL_law_480 rfl 3 rfl ?_
  refine rc_aload_n X dL_law_481 rfl 1 rfl ?_
  refine rc_iload_n X dL_law_482 rfl 0 rfl ?_
  refine rc_iconst X dL_law_483 ?_
  refine rc_iadd X dL_law_484 ?_
  refine rl_sld X S dL_law_485 (by omega) ?_
  refine rc_cVI (rest := [.int (rc_o r1)]) X (mX8_pass T8 h) gL_law_X8_pass rfl ⟨rfl, rfl⟩ dyX8_pass ⟨Nat.le_of_ble_eq_true rfl, Nat.le_of_ble_eq_true rfl⟩ (rc_recv X T8.1 rfl) rfl rfl (Nat.le_of_ble_eq_true rfl) dL_law_486 hc (fun r2 I2 h => ?_)
  refine rl_eq X 699 dL_law_489 (by decide) h.1 ?_
  exact hk  _ h.2
def wL_14 (xs : Nat → Int32) (x y : Nat) (i : Int) (k : rc_M → Prop) (G : rc_G) (I : rc_M) : Prop :=
  wX7_tell G x (rl_sx xs (i + 1)) I (fun r1 I1 => wX8_tell G y (rl_sx xs (i + 1)) I1 (fun r2 I2 => r1 = r2 ∧ k I2))
set_option maxRecDepth 100000 in
set_option maxHeartbeats 4000000 in
theorem gL_14 {p : Program} {l : Launch} {e : Env} {s : State} {m : MethodId} {args : Array Value} {below : List Frame} {meth : Method} {c : Code} {cells slots : Nat} {Q : State → Prop} {G : rc_G} {A : Nat → Prop} {I : rc_M} {b L x y : Nat} {xs : Nat → Int32} {i : Int} (X : rc_X p s m args meth c cL_law 4 wsL_law RL G A) (S : rl_S b L xs A s) (hi : 0 ≤ i ∧ i + 4 ≤ L) (T7 : kX7 G x) (T8 : kX8 G y) (hc : cells ≤ room_1.cells ∧ slots ≤ room_1.slots) {k : rc_M → Prop} (hk : ∀ J : rc_M, k J → rc_g p l e room_1 s m args below meth c cells slots Q 4 G A 699 (rl_lv i b x y) [] J) (h : wL_14 xs x y i k G I) : rc_g p l e room_1 s m args below meth c cells slots Q 4 G A 494 (rl_lv i b x y) [] I := by
  unfold wL_14 at h
  refine rc_aload_n X dL_law_494 rfl 2 rfl ?_
  refine rc_aload_n X dL_law_495 rfl 1 rfl ?_
  refine rc_iload_n X dL_law_496 rfl 0 rfl ?_
  refine rc_iconst X dL_law_497 ?_
  refine rc_iadd X dL_law_498 ?_
  refine rl_sld X S dL_law_499 (by omega) ?_
  refine rc_cVI (rest := []) X (mX7_tell T7 h) gL_law_X7_tell rfl ⟨rfl, rfl⟩ dyX7_tell ⟨Nat.le_of_ble_eq_true rfl, Nat.le_of_ble_eq_true rfl⟩ (rc_recv X T7.1 rfl) rfl rfl (Nat.le_of_ble_eq_true rfl) dL_law_500 hc (fun r1 I1 h => ?_)
  refine rc_aload_n X dL_law_503 rfl 3 rfl ?_
  refine rc_aload_n X dL_law_504 rfl 1 rfl ?_
  refine rc_iload_n X dL_law_505 rfl 0 rfl ?_
  refine rc_iconst X dL_law_506 ?_
  refine rc_iadd X dL_law_507 ?_
  refine rl_sld X S dL_law_508 (by omega) ?_
  refine rc_cVI (rest := [.int (rc_o r1)]) X (mX8_tell T8 h) gL_law_X8_tell rfl ⟨rfl, rfl⟩ dyX8_tell ⟨Nat.le_of_ble_eq_true rfl, Nat.le_of_ble_eq_true rfl⟩ (rc_recv X T8.1 rfl) rfl rfl (Nat.le_of_ble_eq_true rfl) dL_law_509 hc (fun r2 I2 h => ?_)
  refine rl_eq X 699 dL_law_512 (by decide) h.1 ?_
  exact hk  _ h.2
def wL_15 (xs : Nat → Int32) (x y : Nat) (i : Int) (k : rc_M → Prop) (G : rc_G) (I : rc_M) : Prop :=
  wX7_projector G x (rl_sx xs (i + 1)) (rl_sx xs (i + 2)) I (fun r1 I1 => wX8_projector G y (rl_sx xs (i + 1)) (rl_sx xs (i + 2)) I1 (fun r2 I2 => r1 = r2 ∧ k I2))
set_option maxRecDepth 100000 in
set_option maxHeartbeats 4000000 in
theorem gL_15 {p : Program} {l : Launch} {e : Env} {s : State} {m : MethodId} {args : Array Value} {below : List Frame} {meth : Method} {c : Code} {cells slots : Nat} {Q : State → Prop} {G : rc_G} {A : Nat → Prop} {I : rc_M} {b L x y : Nat} {xs : Nat → Int32} {i : Int} (X : rc_X p s m args meth c cL_law 4 wsL_law RL G A) (S : rl_S b L xs A s) (hi : 0 ≤ i ∧ i + 4 ≤ L) (T7 : kX7 G x) (T8 : kX8 G y) (hc : cells ≤ room_1.cells ∧ slots ≤ room_1.slots) {k : rc_M → Prop} (hk : ∀ J : rc_M, k J → rc_g p l e room_1 s m args below meth c cells slots Q 4 G A 699 (rl_lv i b x y) [] J) (h : wL_15 xs x y i k G I) : rc_g p l e room_1 s m args below meth c cells slots Q 4 G A 517 (rl_lv i b x y) [] I := by
  unfold wL_15 at h
  refine rc_aload_n X dL_law_517 rfl 2 rfl ?_
  refine rc_aload_n X dL_law_518 rfl 1 rfl ?_
  refine rc_iload_n X dL_law_519 rfl 0 rfl ?_
  refine rc_iconst X dL_law_520 ?_
  refine rc_iadd X dL_law_521 ?_
  refine rl_sld X S dL_law_522 (by omega) ?_
  refine rc_aload_n X dL_law_523 rfl 1 rfl ?_
  refine rc_iload_n X dL_law_524 rfl 0 rfl ?_
  refine rc_iconst X dL_law_525 ?_
  refine rc_iadd X dL_law_526 ?_
  refine rl_sld X S dL_law_527 (by omega) ?_
  refine rc_cVI (rest := []) X (mX7_projector T7 h) gL_law_X7_projector rfl ⟨rfl, rfl⟩ dyX7_projector ⟨Nat.le_of_ble_eq_true rfl, Nat.le_of_ble_eq_true rfl⟩ (rc_recv X T7.1 rfl) rfl rfl (Nat.le_of_ble_eq_true rfl) dL_law_528 hc (fun r1 I1 h => ?_)
  refine rc_aload_n X dL_law_531 rfl 3 rfl ?_
  refine rc_aload_n X dL_law_532 rfl 1 rfl ?_
  refine rc_iload_n X dL_law_533 rfl 0 rfl ?_
  refine rc_iconst X dL_law_534 ?_
  refine rc_iadd X dL_law_535 ?_
  refine rl_sld X S dL_law_536 (by omega) ?_
  refine rc_aload_n X dL_law_537 rfl 1 rfl ?_
  refine rc_iload_n X dL_law_538 rfl 0 rfl ?_
  refine rc_iconst X dL_law_539 ?_
  refine rc_iadd X dL_law_540 ?_
  refine rl_sld X S dL_law_541 (by omega) ?_
  refine rc_cVI (rest := [.int (rc_o r1)]) X (mX8_projector T8 h) gL_law_X8_projector rfl ⟨rfl, rfl⟩ dyX8_projector ⟨Nat.le_of_ble_eq_true rfl, Nat.le_of_ble_eq_true rfl⟩ (rc_recv X T8.1 rfl) rfl rfl (Nat.le_of_ble_eq_true rfl) dL_law_542 hc (fun r2 I2 h => ?_)
  refine rl_eq X 699 dL_law_545 (by decide) h.1 ?_
  exact hk  _ h.2
def wL_16 (xs : Nat → Int32) (x y : Nat) (i : Int) (k : rc_M → Prop) (G : rc_G) (I : rc_M) : Prop :=
  wX7_task G x (rl_sx xs (i + 1)) (rl_sx xs (i + 2)) I (fun r1 I1 => wX8_task G y (rl_sx xs (i + 1)) (rl_sx xs (i + 2)) I1 (fun r2 I2 => r1 = r2 ∧ k I2))
set_option maxRecDepth 100000 in
set_option maxHeartbeats 4000000 in
theorem gL_16 {p : Program} {l : Launch} {e : Env} {s : State} {m : MethodId} {args : Array Value} {below : List Frame} {meth : Method} {c : Code} {cells slots : Nat} {Q : State → Prop} {G : rc_G} {A : Nat → Prop} {I : rc_M} {b L x y : Nat} {xs : Nat → Int32} {i : Int} (X : rc_X p s m args meth c cL_law 4 wsL_law RL G A) (S : rl_S b L xs A s) (hi : 0 ≤ i ∧ i + 4 ≤ L) (T7 : kX7 G x) (T8 : kX8 G y) (hc : cells ≤ room_1.cells ∧ slots ≤ room_1.slots) {k : rc_M → Prop} (hk : ∀ J : rc_M, k J → rc_g p l e room_1 s m args below meth c cells slots Q 4 G A 699 (rl_lv i b x y) [] J) (h : wL_16 xs x y i k G I) : rc_g p l e room_1 s m args below meth c cells slots Q 4 G A 550 (rl_lv i b x y) [] I := by
  unfold wL_16 at h
  refine rc_aload_n X dL_law_550 rfl 2 rfl ?_
  refine rc_aload_n X dL_law_551 rfl 1 rfl ?_
  refine rc_iload_n X dL_law_552 rfl 0 rfl ?_
  refine rc_iconst X dL_law_553 ?_
  refine rc_iadd X dL_law_554 ?_
  refine rl_sld X S dL_law_555 (by omega) ?_
  refine rc_aload_n X dL_law_556 rfl 1 rfl ?_
  refine rc_iload_n X dL_law_557 rfl 0 rfl ?_
  refine rc_iconst X dL_law_558 ?_
  refine rc_iadd X dL_law_559 ?_
  refine rl_sld X S dL_law_560 (by omega) ?_
  refine rc_cVI (rest := []) X (mX7_task T7 h) gL_law_X7_task rfl ⟨rfl, rfl⟩ dyX7_task ⟨Nat.le_of_ble_eq_true rfl, Nat.le_of_ble_eq_true rfl⟩ (rc_recv X T7.1 rfl) rfl rfl (Nat.le_of_ble_eq_true rfl) dL_law_561 hc (fun r1 I1 h => ?_)
  refine rc_aload_n X dL_law_564 rfl 3 rfl ?_
  refine rc_aload_n X dL_law_565 rfl 1 rfl ?_
  refine rc_iload_n X dL_law_566 rfl 0 rfl ?_
  refine rc_iconst X dL_law_567 ?_
  refine rc_iadd X dL_law_568 ?_
  refine rl_sld X S dL_law_569 (by omega) ?_
  refine rc_aload_n X dL_law_570 rfl 1 rfl ?_
  refine rc_iload_n X dL_law_571 rfl 0 rfl ?_
  refine rc_iconst X dL_law_572 ?_
  refine rc_iadd X dL_law_573 ?_
  refine rl_sld X S dL_law_574 (by omega) ?_
  refine rc_cVI (rest := [.int (rc_o r1)]) X (mX8_task T8 h) gL_law_X8_task rfl ⟨rfl, rfl⟩ dyX8_task ⟨Nat.le_of_ble_eq_true rfl, Nat.le_of_ble_eq_true rfl⟩ (rc_recv X T8.1 rfl) rfl rfl (Nat.le_of_ble_eq_true rfl) dL_law_575 hc (fun r2 I2 h => ?_)
  refine rl_eq X 699 dL_law_578 (by decide) h.1 ?_
  exact hk  _ h.2
def wL_17 (xs : Nat → Int32) (x y : Nat) (i : Int) (k : rc_M → Prop) (G : rc_G) (I : rc_M) : Prop :=
  wX7_forecast G x (rl_sx xs (i + 1)) I (fun r1 I1 => wX8_forecast G y (rl_sx xs (i + 1)) I1 (fun r2 I2 => r1 = r2 ∧ k I2))
set_option maxRecDepth 100000 in
set_option maxHeartbeats 4000000 in
theorem gL_17 {p : Program} {l : Launch} {e : Env} {s : State} {m : MethodId} {args : Array Value} {below : List Frame} {meth : Method} {c : Code} {cells slots : Nat} {Q : State → Prop} {G : rc_G} {A : Nat → Prop} {I : rc_M} {b L x y : Nat} {xs : Nat → Int32} {i : Int} (X : rc_X p s m args meth c cL_law 4 wsL_law RL G A) (S : rl_S b L xs A s) (hi : 0 ≤ i ∧ i + 4 ≤ L) (T7 : kX7 G x) (T8 : kX8 G y) (hc : cells ≤ room_1.cells ∧ slots ≤ room_1.slots) {k : rc_M → Prop} (hk : ∀ J : rc_M, k J → rc_g p l e room_1 s m args below meth c cells slots Q 4 G A 699 (rl_lv i b x y) [] J) (h : wL_17 xs x y i k G I) : rc_g p l e room_1 s m args below meth c cells slots Q 4 G A 583 (rl_lv i b x y) [] I := by
  unfold wL_17 at h
  refine rc_aload_n X dL_law_583 rfl 2 rfl ?_
  refine rc_aload_n X dL_law_584 rfl 1 rfl ?_
  refine rc_iload_n X dL_law_585 rfl 0 rfl ?_
  refine rc_iconst X dL_law_586 ?_
  refine rc_iadd X dL_law_587 ?_
  refine rl_sld X S dL_law_588 (by omega) ?_
  refine rc_cVI (rest := []) X (mX7_forecast T7 h) gL_law_X7_forecast rfl ⟨rfl, rfl⟩ dyX7_forecast ⟨Nat.le_of_ble_eq_true rfl, Nat.le_of_ble_eq_true rfl⟩ (rc_recv X T7.1 rfl) rfl rfl (Nat.le_of_ble_eq_true rfl) dL_law_589 hc (fun r1 I1 h => ?_)
  refine rc_aload_n X dL_law_592 rfl 3 rfl ?_
  refine rc_aload_n X dL_law_593 rfl 1 rfl ?_
  refine rc_iload_n X dL_law_594 rfl 0 rfl ?_
  refine rc_iconst X dL_law_595 ?_
  refine rc_iadd X dL_law_596 ?_
  refine rl_sld X S dL_law_597 (by omega) ?_
  refine rc_cVI (rest := [.int (rc_o r1)]) X (mX8_forecast T8 h) gL_law_X8_forecast rfl ⟨rfl, rfl⟩ dyX8_forecast ⟨Nat.le_of_ble_eq_true rfl, Nat.le_of_ble_eq_true rfl⟩ (rc_recv X T8.1 rfl) rfl rfl (Nat.le_of_ble_eq_true rfl) dL_law_598 hc (fun r2 I2 h => ?_)
  refine rl_eq X 699 dL_law_601 (by decide) h.1 ?_
  exact hk  _ h.2
def wL_18 (xs : Nat → Int32) (x y : Nat) (i : Int) (k : rc_M → Prop) (G : rc_G) (I : rc_M) : Prop :=
  wX7_darkWith G x (rl_sx xs (i + 1)) (rl_sx xs (i + 2)) I (fun r1 I1 => wX8_darkWith G y (rl_sx xs (i + 1)) (rl_sx xs (i + 2)) I1 (fun r2 I2 => r1 = r2 ∧ k I2))
set_option maxRecDepth 100000 in
set_option maxHeartbeats 4000000 in
theorem gL_18 {p : Program} {l : Launch} {e : Env} {s : State} {m : MethodId} {args : Array Value} {below : List Frame} {meth : Method} {c : Code} {cells slots : Nat} {Q : State → Prop} {G : rc_G} {A : Nat → Prop} {I : rc_M} {b L x y : Nat} {xs : Nat → Int32} {i : Int} (X : rc_X p s m args meth c cL_law 4 wsL_law RL G A) (S : rl_S b L xs A s) (hi : 0 ≤ i ∧ i + 4 ≤ L) (T7 : kX7 G x) (T8 : kX8 G y) (hc : cells ≤ room_1.cells ∧ slots ≤ room_1.slots) {k : rc_M → Prop} (hk : ∀ J : rc_M, k J → rc_g p l e room_1 s m args below meth c cells slots Q 4 G A 699 (rl_lv i b x y) [] J) (h : wL_18 xs x y i k G I) : rc_g p l e room_1 s m args below meth c cells slots Q 4 G A 606 (rl_lv i b x y) [] I := by
  unfold wL_18 at h
  refine rc_aload_n X dL_law_606 rfl 2 rfl ?_
  refine rc_aload_n X dL_law_607 rfl 1 rfl ?_
  refine rc_iload_n X dL_law_608 rfl 0 rfl ?_
  refine rc_iconst X dL_law_609 ?_
  refine rc_iadd X dL_law_610 ?_
  refine rl_sld X S dL_law_611 (by omega) ?_
  refine rc_aload_n X dL_law_612 rfl 1 rfl ?_
  refine rc_iload_n X dL_law_613 rfl 0 rfl ?_
  refine rc_iconst X dL_law_614 ?_
  refine rc_iadd X dL_law_615 ?_
  refine rl_sld X S dL_law_616 (by omega) ?_
  refine rc_cVI (rest := []) X (mX7_darkWith T7 h) gL_law_X7_darkWith rfl ⟨rfl, rfl⟩ dyX7_darkWith ⟨Nat.le_of_ble_eq_true rfl, Nat.le_of_ble_eq_true rfl⟩ (rc_recv X T7.1 rfl) rfl rfl (Nat.le_of_ble_eq_true rfl) dL_law_617 hc (fun r1 I1 h => ?_)
  refine rc_aload_n X dL_law_620 rfl 3 rfl ?_
  refine rc_aload_n X dL_law_621 rfl 1 rfl ?_
  refine rc_iload_n X dL_law_622 rfl 0 rfl ?_
  refine rc_iconst X dL_law_623 ?_
  refine rc_iadd X dL_law_624 ?_
  refine rl_sld X S dL_law_625 (by omega) ?_
  refine rc_aload_n X dL_law_626 rfl 1 rfl ?_
  refine rc_iload_n X dL_law_627 rfl 0 rfl ?_
  refine rc_iconst X dL_law_628 ?_
  refine rc_iadd X dL_law_629 ?_
  refine rl_sld X S dL_law_630 (by omega) ?_
  refine rc_cVI (rest := [.int (rc_o r1)]) X (mX8_darkWith T8 h) gL_law_X8_darkWith rfl ⟨rfl, rfl⟩ dyX8_darkWith ⟨Nat.le_of_ble_eq_true rfl, Nat.le_of_ble_eq_true rfl⟩ (rc_recv X T8.1 rfl) rfl rfl (Nat.le_of_ble_eq_true rfl) dL_law_631 hc (fun r2 I2 h => ?_)
  refine rl_eq X 699 dL_law_634 (by decide) h.1 ?_
  exact hk  _ h.2
