/-! L_law -/
theorem qL_law_4 : Cond.constant RL 50 (-100003) ∈ wsL_law := List.mem_of_getElem? (i := 4) (by decide +kernel)
def wL_law_588 (G : rc_G) (cl : Nat) (xs : Nat → Int32) (L : Nat) (x : Nat) (k354 : rc_G → Nat → Int → Int → Int → Int → rc_M → Prop) (x5 : Int) (x6 : Int) (x7 : Int) (x8 : Int) (I : rc_M) : Prop :=
  k354 G cl x5 x6 x7 (x8 + 1) I
set_option maxRecDepth 100000 in
set_option maxHeartbeats 4000000 in
theorem gL_law_588 {p : Program} {l : Launch} {e : Env} {s : State} {m : MethodId} {args : Array Value} {below : List Frame} {meth : Method} {c : Code} {cells slots : Nat} {Q : State → Prop} {G : rc_G} {A : Nat → Prop} {I : rc_M} {b L x cl : Nat} {xs : Nat → Int32} {k354 : rc_G → Nat → Int → Int → Int → Int → rc_M → Prop} {x5 : Int} {x6 : Int} {x7 : Int} {x8 : Int} (X : rc_X p s m args meth c cL_law 10 wsL_law RL G A) (S : rl_S b L xs A s) (hO : rk_O s) (hAA : ∀ q, s.heap.size ≤ q → A q) (hend : lw_end p l e s m args below meth c Q A) (hc : cl ≤ 100 ∧ cells ≤ 1000 + 41 * cl ∧ slots ≤ 2000 + 237 * cl) (T1 : kX7 G x) (T2 : rc_is G (x + 88) (rc_sI G 56)) (T3 : rc_is G (x + 89) (rc_sI G 8)) (hk354 : ∀ (G : rc_G) (cl : Nat) (x5 : Int) (x6 : Int) (x7 : Int) (x8 : Int) (J : rc_M) (cells slots : Nat), rc_X p s m args meth c cL_law 10 wsL_law RL G A → kX7 G x → rc_is G (x + 88) (rc_sI G 56) → rc_is G (x + 89) (rc_sI G 8) → (cl ≤ 100 ∧ cells ≤ 1000 + 41 * cl ∧ slots ≤ 2000 + 237 * cl) → k354 G cl x5 x6 x7 x8 J → rc_g p l e room_1 s m args below meth c cells slots Q 10 G A 354 [(0, .ref b), (1, .ref x), (3, .ref (x + 89)), (5, .int (rc_o x5)), (6, .int (rc_o x6)), (7, .int (rc_o x7)), (8, .int (rc_o x8))] [] J)  (h : wL_law_588 G cl xs L x k354 x5 x6 x7 x8 I) : rc_g p l e room_1 s m args below meth c cells slots Q 10 G A 588 [(0, .ref b), (1, .ref x), (3, .ref (x + 89)), (5, .int (rc_o x5)), (6, .int (rc_o x6)), (7, .int (rc_o x7)), (8, .int (rc_o x8))] [] I := by
  unfold wL_law_588 at h
  refine rc_iinc X [(8, .int (rc_o (x8 + 1))), (0, .ref b), (1, .ref x), (3, .ref (x + 89)), (5, .int (rc_o x5)), (6, .int (rc_o x6)), (7, .int (rc_o x7))] dL_law_588 6 rfl (by decide) rfl ?_
  refine rc_goto X 354 dL_law_591 (by decide) ?_
  refine rc_subl [(0, .ref b), (1, .ref x), (3, .ref (x + 89)), (5, .int (rc_o x5)), (6, .int (rc_o x6)), (7, .int (rc_o x7)), (8, .int (rc_o (x8 + 1)))] [1, 2, 3, 4, 5, 6, 0] rfl ?_
  exact hk354 _ _ _ _ _ _ _ _ _ X T1 T2 T3 hc h
def wL_law_581 (G : rc_G) (cl : Nat) (xs : Nat → Int32) (L : Nat) (x : Nat) (k354 : rc_G → Nat → Int → Int → Int → Int → rc_M → Prop) (x5 : Int) (x7 : Int) (x8 : Int) (I : rc_M) : Prop :=
  wL_law_588 G cl xs L x k354 x5 1 x7 x8 I
set_option maxRecDepth 100000 in
set_option maxHeartbeats 4000000 in
theorem gL_law_581 {p : Program} {l : Launch} {e : Env} {s : State} {m : MethodId} {args : Array Value} {below : List Frame} {meth : Method} {c : Code} {cells slots : Nat} {Q : State → Prop} {G : rc_G} {A : Nat → Prop} {I : rc_M} {b L x cl : Nat} {xs : Nat → Int32} {k354 : rc_G → Nat → Int → Int → Int → Int → rc_M → Prop} {x5 : Int} {x7 : Int} {x8 : Int} (X : rc_X p s m args meth c cL_law 10 wsL_law RL G A) (S : rl_S b L xs A s) (hO : rk_O s) (hAA : ∀ q, s.heap.size ≤ q → A q) (hend : lw_end p l e s m args below meth c Q A) (hc : cl ≤ 100 ∧ cells ≤ 1000 + 41 * cl ∧ slots ≤ 2000 + 237 * cl) (T1 : kX7 G x) (T2 : rc_is G (x + 88) (rc_sI G 56)) (T3 : rc_is G (x + 89) (rc_sI G 8)) (hk354 : ∀ (G : rc_G) (cl : Nat) (x5 : Int) (x6 : Int) (x7 : Int) (x8 : Int) (J : rc_M) (cells slots : Nat), rc_X p s m args meth c cL_law 10 wsL_law RL G A → kX7 G x → rc_is G (x + 88) (rc_sI G 56) → rc_is G (x + 89) (rc_sI G 8) → (cl ≤ 100 ∧ cells ≤ 1000 + 41 * cl ∧ slots ≤ 2000 + 237 * cl) → k354 G cl x5 x6 x7 x8 J → rc_g p l e room_1 s m args below meth c cells slots Q 10 G A 354 [(0, .ref b), (1, .ref x), (3, .ref (x + 89)), (5, .int (rc_o x5)), (6, .int (rc_o x6)), (7, .int (rc_o x7)), (8, .int (rc_o x8))] [] J)  (h : wL_law_581 G cl xs L x k354 x5 x7 x8 I) : rc_g p l e room_1 s m args below meth c cells slots Q 10 G A 581 [(0, .ref b), (1, .ref x), (3, .ref (x + 89)), (5, .int (rc_o x5)), (7, .int (rc_o x7)), (8, .int (rc_o x8))] [] I := by
  unfold wL_law_581 at h
  refine rc_iconst X dL_law_581 ?_
  refine rc_goto X 586 dL_law_582 (by decide) ?_
  refine rc_istore X [(6, .int (rc_o 1)), (0, .ref b), (1, .ref x), (3, .ref (x + 89)), (5, .int (rc_o x5)), (7, .int (rc_o x7)), (8, .int (rc_o x8))] dL_law_586 (by decide) rfl ?_
  refine rc_subl [(0, .ref b), (1, .ref x), (3, .ref (x + 89)), (5, .int (rc_o x5)), (6, .int (rc_o 1)), (7, .int (rc_o x7)), (8, .int (rc_o x8))] [1, 2, 3, 4, 0, 5, 6] rfl ?_
  exact gL_law_588 X S hO hAA hend hc T1 T2 T3 hk354  h
def wL_law_479 (G : rc_G) (cl : Nat) (xs : Nat → Int32) (L : Nat) (x : Nat) (k354 : rc_G → Nat → Int → Int → Int → Int → rc_M → Prop) (x5 : Int) (x6 : Int) (x7 : Int) (x8 : Int) (x9 : Int) (I : rc_M) : Prop :=
  (0 ≤ x9 ∧ x9 < 2147483648) ∧ (rc_R (x9 % 7) ∧ ((¬ (x9 % 7) = 0 → wL_law_588 G cl xs L x k354 x5 x6 x7 x8 I) ∧ ((x9 % 7) = 0 → rc_R x6 ∧ ((¬ x6 = 0) ∧ ((0 ≤ x9 ∧ x9 < 2147483648) ∧ ((0 ≤ (tS x9 10) ∧ (tS x9 10) < 2147483648) ∧ ((0 < x5 ∧ x5 < 2147483648) ∧ ((0 ≤ x9 ∧ x9 < 2147483648) ∧ ((0 ≤ (tS x9 13) ∧ (tS x9 13) < 2147483648) ∧ (wX7_mend G x ((tS x9 10) % x5) (1 + ((tS x9 13) % 10)) I (fun r116 I115 => rc_R r116 ∧ ((¬ r116 < 0) ∧ ((0 ≤ x9 ∧ x9 < 2147483648) ∧ ((0 ≤ (tS x9 10) ∧ (tS x9 10) < 2147483648) ∧ ((0 < x5 ∧ x5 < 2147483648) ∧ (wX7_reel G x ((tS x9 10) % x5) 1 I115 (fun r123 I122 => rc_R r123 ∧ ((¬ 6 < r123) ∧ ((0 ≤ x9 ∧ x9 < 2147483648) ∧ ((0 ≤ (tS x9 10) ∧ (tS x9 10) < 2147483648) ∧ ((0 < x5 ∧ x5 < 2147483648) ∧ (wX7_reel G x ((tS x9 10) % x5) 1 I122 (fun r130 I129 => rc_R r130 ∧ ((r130 = 6 → wL_law_581 G cl xs L x k354 x5 x7 x8 I129) ∧ (¬ r130 = 6 → (0 ≤ x9 ∧ x9 < 2147483648) ∧ ((0 ≤ (tS x9 10) ∧ (tS x9 10) < 2147483648) ∧ ((0 < x5 ∧ x5 < 2147483648) ∧ ((0 ≤ x9 ∧ x9 < 2147483648) ∧ ((0 ≤ (tS x9 16) ∧ (tS x9 16) < 2147483648) ∧ (wX7_splice G x ((tS x9 10) % x5) (1 + ((tS x9 16) % 99)) 9 I129 (fun r139 I138 => rc_R r139 ∧ ((¬ r139 < 1) ∧ (wL_law_581 G cl xs L x k354 x5 x7 x8 I138)))))))))))))))))))))))))))))))))
set_option maxRecDepth 100000 in
set_option maxHeartbeats 4000000 in
theorem gL_law_479 {p : Program} {l : Launch} {e : Env} {s : State} {m : MethodId} {args : Array Value} {below : List Frame} {meth : Method} {c : Code} {cells slots : Nat} {Q : State → Prop} {G : rc_G} {A : Nat → Prop} {I : rc_M} {b L x cl : Nat} {xs : Nat → Int32} {k354 : rc_G → Nat → Int → Int → Int → Int → rc_M → Prop} {x5 : Int} {x6 : Int} {x7 : Int} {x8 : Int} {x9 : Int} (X : rc_X p s m args meth c cL_law 10 wsL_law RL G A) (S : rl_S b L xs A s) (hO : rk_O s) (hAA : ∀ q, s.heap.size ≤ q → A q) (hend : lw_end p l e s m args below meth c Q A) (hc : cl ≤ 100 ∧ cells ≤ 1000 + 41 * cl ∧ slots ≤ 2000 + 237 * cl) (T1 : kX7 G x) (T2 : rc_is G (x + 88) (rc_sI G 56)) (T3 : rc_is G (x + 89) (rc_sI G 8)) (hk354 : ∀ (G : rc_G) (cl : Nat) (x5 : Int) (x6 : Int) (x7 : Int) (x8 : Int) (J : rc_M) (cells slots : Nat), rc_X p s m args meth c cL_law 10 wsL_law RL G A → kX7 G x → rc_is G (x + 88) (rc_sI G 56) → rc_is G (x + 89) (rc_sI G 8) → (cl ≤ 100 ∧ cells ≤ 1000 + 41 * cl ∧ slots ≤ 2000 + 237 * cl) → k354 G cl x5 x6 x7 x8 J → rc_g p l e room_1 s m args below meth c cells slots Q 10 G A 354 [(0, .ref b), (1, .ref x), (3, .ref (x + 89)), (5, .int (rc_o x5)), (6, .int (rc_o x6)), (7, .int (rc_o x7)), (8, .int (rc_o x8))] [] J)  (h : wL_law_479 G cl xs L x k354 x5 x6 x7 x8 x9 I) : rc_g p l e room_1 s m args below meth c cells slots Q 10 G A 479 [(0, .ref b), (1, .ref x), (3, .ref (x + 89)), (5, .int (rc_o x5)), (6, .int (rc_o x6)), (7, .int (rc_o x7)), (8, .int (rc_o x8)), (9, .int (rc_o x9))] [] I := by
  unfold wL_law_479 at h
  refine rc_iload X dL_law_479 7 rfl ?_
  refine rc_bipush X dL_law_481 (rc_b8 _ ⟨by decide, by decide⟩) ?_
  obtain ⟨c105, h⟩ := h
  refine rc_irem X dL_law_483 c105 ⟨by decide, by decide⟩ ?_
  obtain ⟨c106, h⟩ := h
  refine rc_if_ne X 588 dL_law_484 (by decide) c106 (fun c107 => ?_) (fun c107 => ?_)
  · have h := h.1 c107
    refine rc_subl [(0, .ref b), (1, .ref x), (3, .ref (x + 89)), (5, .int (rc_o x5)), (6, .int (rc_o x6)), (7, .int (rc_o x7)), (8, .int (rc_o x8))] [0, 1, 2, 3, 4, 5, 6] rfl ?_
    exact gL_law_588 X S hO hAA hend hc T1 T2 T3 hk354  h
  · have h := h.2 c107
    refine rc_iload X dL_law_487 4 rfl ?_
    obtain ⟨c108, h⟩ := h
    obtain ⟨c109, h⟩ := h
    refine rc_if_eq X 588 dL_law_489 (by decide) c108 (fun q => absurd q c109) (fun _ => ?_)
    refine rc_aload_n X dL_law_492 rfl 1 rfl ?_
    refine rc_iload X dL_law_493 7 rfl ?_
    refine rc_bipush X dL_law_495 (rc_b8 _ ⟨by decide, by decide⟩) ?_
    obtain ⟨c110, h⟩ := h
    refine rc_ishr X dL_law_497 c110 ⟨by decide, by decide⟩ ?_
    refine rc_iload X dL_law_498 3 rfl ?_
    obtain ⟨c111, h⟩ := h
    obtain ⟨c112, h⟩ := h
    refine rc_irem X dL_law_500 c111 c112 ?_
    refine rc_iconst X dL_law_501 ?_
    refine rc_iload X dL_law_502 7 rfl ?_
    refine rc_bipush X dL_law_504 (rc_b8 _ ⟨by decide, by decide⟩) ?_
    obtain ⟨c113, h⟩ := h
    refine rc_ishr X dL_law_506 c113 ⟨by decide, by decide⟩ ?_
    refine rc_bipush X dL_law_507 (rc_b8 _ ⟨by decide, by decide⟩) ?_
    obtain ⟨c114, h⟩ := h
    refine rc_irem X dL_law_509 c114 ⟨by decide, by decide⟩ ?_
    refine rc_iadd X dL_law_510 ?_
    refine rc_cVI (rest := []) X (mX7_mend T1 h) gL_law_X7_mend rfl ⟨rfl, rfl⟩ dyX7_mend ⟨Nat.le_of_ble_eq_true rfl, Nat.le_of_ble_eq_true rfl⟩ (rc_recv X T1.1 rfl) rfl rfl (Nat.le_of_ble_eq_true rfl) dL_law_511 (lw_cz hc) (fun r116 I115 h => ?_)
    obtain ⟨c117, h⟩ := h
    obtain ⟨c118, h⟩ := h
    refine rc_if_lt X 585 dL_law_514 (by decide) c117 (fun q => absurd q c118) (fun _ => ?_)
    refine rc_aload_n X dL_law_517 rfl 1 rfl ?_
    refine rc_iload X dL_law_518 7 rfl ?_
    refine rc_bipush X dL_law_520 (rc_b8 _ ⟨by decide, by decide⟩) ?_
    obtain ⟨c119, h⟩ := h
    refine rc_ishr X dL_law_522 c119 ⟨by decide, by decide⟩ ?_
    refine rc_iload X dL_law_523 3 rfl ?_
    obtain ⟨c120, h⟩ := h
    obtain ⟨c121, h⟩ := h
    refine rc_irem X dL_law_525 c120 c121 ?_
    refine rc_iconst X dL_law_526 ?_
    refine rc_cVI (rest := []) X (mX7_reel T1 h) gL_law_X7_reel rfl ⟨rfl, rfl⟩ dyX7_reel ⟨Nat.le_of_ble_eq_true rfl, Nat.le_of_ble_eq_true rfl⟩ (rc_recv X T1.1 rfl) rfl rfl (Nat.le_of_ble_eq_true rfl) dL_law_527 (lw_cz hc) (fun r123 I122 h => ?_)
    refine rc_bipush X dL_law_530 (rc_b8 _ ⟨by decide, by decide⟩) ?_
    obtain ⟨c124, h⟩ := h
    obtain ⟨c125, h⟩ := h
    refine rc_ic_gt X 585 dL_law_532 (by decide) c124 ⟨by decide, by decide⟩ (fun q => absurd q c125) (fun _ => ?_)
    refine rc_aload_n X dL_law_535 rfl 1 rfl ?_
    refine rc_iload X dL_law_536 7 rfl ?_
    refine rc_bipush X dL_law_538 (rc_b8 _ ⟨by decide, by decide⟩) ?_
    obtain ⟨c126, h⟩ := h
    refine rc_ishr X dL_law_540 c126 ⟨by decide, by decide⟩ ?_
    refine rc_iload X dL_law_541 3 rfl ?_
    obtain ⟨c127, h⟩ := h
    obtain ⟨c128, h⟩ := h
    refine rc_irem X dL_law_543 c127 c128 ?_
    refine rc_iconst X dL_law_544 ?_
    refine rc_cVI (rest := []) X (mX7_reel T1 h) gL_law_X7_reel rfl ⟨rfl, rfl⟩ dyX7_reel ⟨Nat.le_of_ble_eq_true rfl, Nat.le_of_ble_eq_true rfl⟩ (rc_recv X T1.1 rfl) rfl rfl (Nat.le_of_ble_eq_true rfl) dL_law_545 (lw_cz hc) (fun r130 I129 h => ?_)
    refine rc_bipush X dL_law_548 (rc_b8 _ ⟨by decide, by decide⟩) ?_
    obtain ⟨c131, h⟩ := h
    refine rc_ic_eq X 581 dL_law_550 (by decide) c131 ⟨by decide, by decide⟩ (fun c132 => ?_) (fun c132 => ?_)
    · have h := h.1 c132
      refine rc_subl [(0, .ref b), (1, .ref x), (3, .ref (x + 89)), (5, .int (rc_o x5)), (7, .int (rc_o x7)), (8, .int (rc_o x8))] [0, 1, 2, 3, 5, 6] rfl ?_
      exact gL_law_581 X S hO hAA hend hc T1 T2 T3 hk354  h
    · have h := h.2 c132
      refine rc_aload_n X dL_law_553 rfl 1 rfl ?_
      refine rc_iload X dL_law_554 7 rfl ?_
      refine rc_bipush X dL_law_556 (rc_b8 _ ⟨by decide, by decide⟩) ?_
      obtain ⟨c133, h⟩ := h
      refine rc_ishr X dL_law_558 c133 ⟨by decide, by decide⟩ ?_
      refine rc_iload X dL_law_559 3 rfl ?_
      obtain ⟨c134, h⟩ := h
      obtain ⟨c135, h⟩ := h
      refine rc_irem X dL_law_561 c134 c135 ?_
      refine rc_iconst X dL_law_562 ?_
      refine rc_iload X dL_law_563 7 rfl ?_
      refine rc_bipush X dL_law_565 (rc_b8 _ ⟨by decide, by decide⟩) ?_
      obtain ⟨c136, h⟩ := h
      refine rc_ishr X dL_law_567 c136 ⟨by decide, by decide⟩ ?_
      refine rc_bipush X dL_law_568 (rc_b8 _ ⟨by decide, by decide⟩) ?_
      obtain ⟨c137, h⟩ := h
      refine rc_irem X dL_law_570 c137 ⟨by decide, by decide⟩ ?_
      refine rc_iadd X dL_law_571 ?_
      refine rc_bipush X dL_law_572 (rc_b8 _ ⟨by decide, by decide⟩) ?_
      refine rc_cVI (rest := []) X (mX7_splice T1 h) gL_law_X7_splice rfl ⟨rfl, rfl⟩ dyX7_splice ⟨Nat.le_of_ble_eq_true rfl, Nat.le_of_ble_eq_true rfl⟩ (rc_recv X T1.1 rfl) rfl rfl (Nat.le_of_ble_eq_true rfl) dL_law_574 (lw_cz hc) (fun r139 I138 h => ?_)
      refine rc_iconst X dL_law_577 ?_
      obtain ⟨c140, h⟩ := h
      obtain ⟨c141, h⟩ := h
      refine rc_ic_lt X 585 dL_law_578 (by decide) c140 ⟨by decide, by decide⟩ (fun q => absurd q c141) (fun _ => ?_)
      refine rc_subl [(0, .ref b), (1, .ref x), (3, .ref (x + 89)), (5, .int (rc_o x5)), (7, .int (rc_o x7)), (8, .int (rc_o x8))] [0, 1, 2, 3, 5, 6] rfl ?_
      exact gL_law_581 X S hO hAA hend hc T1 T2 T3 hk354  h
def wL_law_418 (G : rc_G) (cl : Nat) (xs : Nat → Int32) (L : Nat) (x : Nat) (k354 : rc_G → Nat → Int → Int → Int → Int → rc_M → Prop) (x5 : Int) (x7 : Int) (x8 : Int) (x9 : Int) (I : rc_M) : Prop :=
  (0 ≤ x9 ∧ x9 < 2147483648) ∧ (rc_R (x9 % 11) ∧ ((¬ (x9 % 11) = 0 → wL_law_479 G cl xs L x k354 x5 1 x7 x8 x9 I) ∧ ((x9 % 11) = 0 → (¬ (1 : Int) = 0) ∧ (wX7_begin G x I (fun r144 I143 => rc_R r144 ∧ (rc_R x7 ∧ ((r144 = x7) ∧ (wX7_tell G x 1 I143 (fun r149 I148 => rc_R r149 ∧ ((r149 = 0) ∧ (wX7_tell G x 3 I148 (fun r153 I152 => rc_R r153 ∧ ((r153 = 0) ∧ (wX7_tell G x 6 I152 (fun r157 I156 => rc_R r157 ∧ ((r157 = 0) ∧ (wL_law_479 G cl xs L x k354 x5 1 x7 x8 x9 I156)))))))))))))))))
set_option maxRecDepth 100000 in
set_option maxHeartbeats 4000000 in
theorem gL_law_418 {p : Program} {l : Launch} {e : Env} {s : State} {m : MethodId} {args : Array Value} {below : List Frame} {meth : Method} {c : Code} {cells slots : Nat} {Q : State → Prop} {G : rc_G} {A : Nat → Prop} {I : rc_M} {b L x cl : Nat} {xs : Nat → Int32} {k354 : rc_G → Nat → Int → Int → Int → Int → rc_M → Prop} {x5 : Int} {x7 : Int} {x8 : Int} {x9 : Int} (X : rc_X p s m args meth c cL_law 10 wsL_law RL G A) (S : rl_S b L xs A s) (hO : rk_O s) (hAA : ∀ q, s.heap.size ≤ q → A q) (hend : lw_end p l e s m args below meth c Q A) (hc : cl ≤ 100 ∧ cells ≤ 1000 + 41 * cl ∧ slots ≤ 2000 + 237 * cl) (T1 : kX7 G x) (T2 : rc_is G (x + 88) (rc_sI G 56)) (T3 : rc_is G (x + 89) (rc_sI G 8)) (hk354 : ∀ (G : rc_G) (cl : Nat) (x5 : Int) (x6 : Int) (x7 : Int) (x8 : Int) (J : rc_M) (cells slots : Nat), rc_X p s m args meth c cL_law 10 wsL_law RL G A → kX7 G x → rc_is G (x + 88) (rc_sI G 56) → rc_is G (x + 89) (rc_sI G 8) → (cl ≤ 100 ∧ cells ≤ 1000 + 41 * cl ∧ slots ≤ 2000 + 237 * cl) → k354 G cl x5 x6 x7 x8 J → rc_g p l e room_1 s m args below meth c cells slots Q 10 G A 354 [(0, .ref b), (1, .ref x), (3, .ref (x + 89)), (5, .int (rc_o x5)), (6, .int (rc_o x6)), (7, .int (rc_o x7)), (8, .int (rc_o x8))] [] J)  (h : wL_law_418 G cl xs L x k354 x5 x7 x8 x9 I) : rc_g p l e room_1 s m args below meth c cells slots Q 10 G A 418 [(0, .ref b), (1, .ref x), (3, .ref (x + 89)), (5, .int (rc_o x5)), (7, .int (rc_o x7)), (8, .int (rc_o x8)), (9, .int (rc_o x9))] [] I := by
  unfold wL_law_418 at h
  refine rc_iconst X dL_law_418 ?_
  refine rc_goto X 423 dL_law_419 (by decide) ?_
  refine rc_istore X [(6, .int (rc_o 1)), (0, .ref b), (1, .ref x), (3, .ref (x + 89)), (5, .int (rc_o x5)), (7, .int (rc_o x7)), (8, .int (rc_o x8)), (9, .int (rc_o x9))] dL_law_423 (by decide) rfl ?_
  refine rc_iload X dL_law_425 7 rfl ?_
  refine rc_bipush X dL_law_427 (rc_b8 _ ⟨by decide, by decide⟩) ?_
  obtain ⟨c102, h⟩ := h
  refine rc_irem X dL_law_429 c102 ⟨by decide, by decide⟩ ?_
  obtain ⟨c103, h⟩ := h
  refine rc_if_ne X 479 dL_law_430 (by decide) c103 (fun c104 => ?_) (fun c104 => ?_)
  · have h := h.1 c104
    refine rc_subl [(0, .ref b), (1, .ref x), (3, .ref (x + 89)), (5, .int (rc_o x5)), (6, .int (rc_o 1)), (7, .int (rc_o x7)), (8, .int (rc_o x8)), (9, .int (rc_o x9))] [1, 2, 3, 4, 0, 5, 6, 7] rfl ?_
    exact gL_law_479 X S hO hAA hend hc T1 T2 T3 hk354  h
  · have h := h.2 c104
    refine rc_iload X dL_law_433 0 rfl ?_
    obtain ⟨c142, h⟩ := h
    refine rc_if_eq X 479 dL_law_435 (by decide) ⟨by decide, by decide⟩ (fun q => absurd q c142) (fun _ => ?_)
    refine rc_aload_n X dL_law_438 rfl 2 rfl ?_
    refine rc_cVI (rest := []) X (mX7_begin T1 h) gL_law_X7_begin rfl ⟨rfl, rfl⟩ dyX7_begin ⟨Nat.le_of_ble_eq_true rfl, Nat.le_of_ble_eq_true rfl⟩ (rc_recv X T1.1 rfl) rfl rfl (Nat.le_of_ble_eq_true rfl) dL_law_439 (lw_cz hc) (fun r144 I143 h => ?_)
    refine rc_iload X dL_law_442 5 rfl ?_
    obtain ⟨c145, h⟩ := h
    obtain ⟨c146, h⟩ := h
    obtain ⟨c147, h⟩ := h
    refine rc_ic_ne X 476 dL_law_444 (by decide) c145 c146 (fun q => absurd c147 q) (fun _ => ?_)
    refine rc_aload_n X dL_law_447 rfl 2 rfl ?_
    refine rc_iconst X dL_law_448 ?_
    refine rc_cVI (rest := []) X (mX7_tell T1 h) gL_law_X7_tell rfl ⟨rfl, rfl⟩ dyX7_tell ⟨Nat.le_of_ble_eq_true rfl, Nat.le_of_ble_eq_true rfl⟩ (rc_recv X T1.1 rfl) rfl rfl (Nat.le_of_ble_eq_true rfl) dL_law_449 (lw_cz hc) (fun r149 I148 h => ?_)
    obtain ⟨c150, h⟩ := h
    obtain ⟨c151, h⟩ := h
    refine rc_if_ne X 476 dL_law_452 (by decide) c150 (fun q => absurd c151 q) (fun _ => ?_)
    refine rc_aload_n X dL_law_455 rfl 2 rfl ?_
    refine rc_iconst X dL_law_456 ?_
    refine rc_cVI (rest := []) X (mX7_tell T1 h) gL_law_X7_tell rfl ⟨rfl, rfl⟩ dyX7_tell ⟨Nat.le_of_ble_eq_true rfl, Nat.le_of_ble_eq_true rfl⟩ (rc_recv X T1.1 rfl) rfl rfl (Nat.le_of_ble_eq_true rfl) dL_law_457 (lw_cz hc) (fun r153 I152 h => ?_)
    obtain ⟨c154, h⟩ := h
    obtain ⟨c155, h⟩ := h
    refine rc_if_ne X 476 dL_law_460 (by decide) c154 (fun q => absurd c155 q) (fun _ => ?_)
    refine rc_aload_n X dL_law_463 rfl 2 rfl ?_
    refine rc_bipush X dL_law_464 (rc_b8 _ ⟨by decide, by decide⟩) ?_
    refine rc_cVI (rest := []) X (mX7_tell T1 h) gL_law_X7_tell rfl ⟨rfl, rfl⟩ dyX7_tell ⟨Nat.le_of_ble_eq_true rfl, Nat.le_of_ble_eq_true rfl⟩ (rc_recv X T1.1 rfl) rfl rfl (Nat.le_of_ble_eq_true rfl) dL_law_466 (lw_cz hc) (fun r157 I156 h => ?_)
    obtain ⟨c158, h⟩ := h
    obtain ⟨c159, h⟩ := h
    refine rc_if_ne X 476 dL_law_469 (by decide) c158 (fun q => absurd c159 q) (fun _ => ?_)
    refine rc_iconst X dL_law_472 ?_
    refine rc_goto X 477 dL_law_473 (by decide) ?_
    refine rc_istore X [(6, .int (rc_o 1)), (0, .ref b), (1, .ref x), (3, .ref (x + 89)), (5, .int (rc_o x5)), (7, .int (rc_o x7)), (8, .int (rc_o x8)), (9, .int (rc_o x9))] dL_law_477 (by decide) rfl ?_
    refine rc_subl [(0, .ref b), (1, .ref x), (3, .ref (x + 89)), (5, .int (rc_o x5)), (6, .int (rc_o 1)), (7, .int (rc_o x7)), (8, .int (rc_o x8)), (9, .int (rc_o x9))] [1, 2, 3, 4, 0, 5, 6, 7] rfl ?_
    exact gL_law_479 X S hO hAA hend hc T1 T2 T3 hk354  h
def wL_law_354 (G : rc_G) (cl : Nat) (xs : Nat → Int32) (L : Nat) (x : Nat) (k354 : rc_G → Nat → Int → Int → Int → Int → rc_M → Prop) (x5 : Int) (x6 : Int) (x7 : Int) (x8 : Int) (I : rc_M) : Prop :=
  rc_R x8 ∧ ((14 ≤ x8 → wX7_checksum G x I (fun r49 I48 => rc_R x6 ∧ ((¬ x6 = 0) ∧ ((cl + 1 ≤ 100) ∧ (wX7_save G x 1 I48 (fun r53 G54 I52 => rc_R r53 ∧ (rc_R x5 ∧ ((r53 = x5) ∧ (wX7_begin G54 x I52 (fun r61 I60 => rc_R r61 ∧ (rc_R x7 ∧ ((r61 = x7) ∧ (wX7_mend G54 x 0 10 I60 (fun r66 I65 => rc_R r66 ∧ ((¬ r66 < 0) ∧ (wX7_set G54 x 0 1 I65 (fun r70 I69 => rc_R r70 ∧ (rc_R (I69 (x + 89) 0) ∧ ((r70 = (I69 (x + 89) 0)) ∧ ((¬ (1 : Int) = 0) ∧ (wX7_restore G54 x 1 I69 (fun r76 I75 => rc_R r76 ∧ (rc_R x5 ∧ ((r76 = x5) ∧ (wX7_checksum G54 x I75 (fun r81 I80 => (r81 = r49) ∧ ((1 : Int) = 1))))))))))))))))))))))))))) ∧ (¬ 14 ≤ x8 → rc_R x6 ∧ ((¬ x6 = 0) ∧ (((0 : Int) ≤ (13 + x8) ∧ ((13 + x8) : Int) ≤ 100) ∧ ((0 ≤ (tC xs L (13 + x8)) ∧ (tC xs L (13 + x8)) < 2147483648) ∧ ((0 ≤ (tS (tC xs L (13 + x8)) 4) ∧ (tS (tC xs L (13 + x8)) 4) < 2147483648) ∧ ((cl + 1 ≤ 100) ∧ (wL_goes G x (1 + ((tS (tC xs L (13 + x8)) 4) % 60)) I (fun r89 G90 I88 => rc_R r89 ∧ ((¬ r89 = 0) ∧ (wL_sound G90 x x7 I88 (fun r96 I95 => rc_R r96 ∧ ((¬ r96 = 0) ∧ ((0 ≤ x8 ∧ x8 < 2147483648) ∧ (rc_R (x8 % 4) ∧ ((0 < (x8 % 4) → wL_law_418 G90 (cl + 1) xs L x k354 x5 x7 x8 (tC xs L (13 + x8)) I95) ∧ (¬ 0 < (x8 % 4) → wL_refuses G90 x x5 I95 (fun r161 I160 => rc_R r161 ∧ ((¬ r161 = 0) ∧ (wL_law_418 G90 (cl + 1) xs L x k354 x5 x7 x8 (tC xs L (13 + x8)) I160))))))))))))))))))))
set_option maxRecDepth 100000 in
set_option maxHeartbeats 4000000 in
theorem gL_law_354 {p : Program} {l : Launch} {e : Env} {s : State} {m : MethodId} {args : Array Value} {below : List Frame} {meth : Method} {c : Code} {cells slots : Nat} {Q : State → Prop} {G : rc_G} {A : Nat → Prop} {I : rc_M} {b L x cl : Nat} {xs : Nat → Int32} {k354 : rc_G → Nat → Int → Int → Int → Int → rc_M → Prop} {x5 : Int} {x6 : Int} {x7 : Int} {x8 : Int} (X : rc_X p s m args meth c cL_law 10 wsL_law RL G A) (S : rl_S b L xs A s) (hO : rk_O s) (hAA : ∀ q, s.heap.size ≤ q → A q) (hend : lw_end p l e s m args below meth c Q A) (hc : cl ≤ 100 ∧ cells ≤ 1000 + 41 * cl ∧ slots ≤ 2000 + 237 * cl) (T1 : kX7 G x) (T2 : rc_is G (x + 88) (rc_sI G 56)) (T3 : rc_is G (x + 89) (rc_sI G 8)) (hk354 : ∀ (G : rc_G) (cl : Nat) (x5 : Int) (x6 : Int) (x7 : Int) (x8 : Int) (J : rc_M) (cells slots : Nat), rc_X p s m args meth c cL_law 10 wsL_law RL G A → kX7 G x → rc_is G (x + 88) (rc_sI G 56) → rc_is G (x + 89) (rc_sI G 8) → (cl ≤ 100 ∧ cells ≤ 1000 + 41 * cl ∧ slots ≤ 2000 + 237 * cl) → k354 G cl x5 x6 x7 x8 J → rc_g p l e room_1 s m args below meth c cells slots Q 10 G A 354 [(0, .ref b), (1, .ref x), (3, .ref (x + 89)), (5, .int (rc_o x5)), (6, .int (rc_o x6)), (7, .int (rc_o x7)), (8, .int (rc_o x8))] [] J)  (h : wL_law_354 G cl xs L x k354 x5 x6 x7 x8 I) : rc_g p l e room_1 s m args below meth c cells slots Q 10 G A 354 [(0, .ref b), (1, .ref x), (3, .ref (x + 89)), (5, .int (rc_o x5)), (6, .int (rc_o x6)), (7, .int (rc_o x7)), (8, .int (rc_o x8))] [] I := by
  unfold wL_law_354 at h
  refine rc_iload X dL_law_354 6 rfl ?_
  refine rc_bipush X dL_law_356 (rc_b8 _ ⟨by decide, by decide⟩) ?_
  obtain ⟨c46, h⟩ := h
  refine rc_ic_ge X 594 dL_law_358 (by decide) c46 ⟨by decide, by decide⟩ (fun c47 => ?_) (fun c47 => ?_)
  · have h := h.1 c47
    refine rc_aload_n X dL_law_594 rfl 1 rfl ?_
    refine rc_cVL (rest := []) X (mX7_checksum T1 h) gL_law_X7_checksum rfl ⟨rfl, rfl⟩ dyX7_checksum ⟨Nat.le_of_ble_eq_true rfl, Nat.le_of_ble_eq_true rfl⟩ (rc_recv X T1.1 rfl) rfl rfl (Nat.le_of_ble_eq_true rfl) dL_law_595 (lw_cz hc) (fun r49 I48 h => ?_)
    refine rc_lstore X [(8, .long r49), (0, .ref b), (1, .ref x), (3, .ref (x + 89)), (5, .int (rc_o x5)), (6, .int (rc_o x6)), (7, .int (rc_o x7))] dL_law_598 (by decide) rfl ?_
    refine rc_iload X dL_law_600 5 rfl ?_
    obtain ⟨c50, h⟩ := h
    obtain ⟨c51, h⟩ := h
    refine rc_if_eq X 650 dL_law_602 (by decide) c50 (fun q => absurd q c51) (fun _ => ?_)
    refine rc_aload_n X dL_law_605 rfl 2 rfl ?_
    refine rc_iconst X dL_law_606 ?_
    obtain ⟨c56, h⟩ := h
    refine rl_cSave (rest := []) X hO hAA (fun sz => mX7_save T1 h sz) gL_law_X7_save ⟨Nat.le_of_ble_eq_true rfl, Nat.le_of_ble_eq_true rfl⟩ (rc_recv X T1.1 rfl) (Nat.le_of_ble_eq_true rfl) dL_law_607 (lw_cs hc) (fun r53 G54 I52 h le55 X => ?_)
    have T1 := kX7_le le55 T1
    have T2 := rs_iI le55 T2
    have T3 := rs_iI le55 T3
    have hc := lw_up hc c56
    refine rc_iload X dL_law_610 4 rfl ?_
    obtain ⟨c57, h⟩ := h
    obtain ⟨c58, h⟩ := h
    obtain ⟨c59, h⟩ := h
    refine rc_ic_ne X 650 dL_law_612 (by decide) c57 c58 (fun q => absurd c59 q) (fun _ => ?_)
    refine rc_aload_n X dL_law_615 rfl 2 rfl ?_
    refine rc_cVI (rest := []) X (mX7_begin T1 h) gL_law_X7_begin rfl ⟨rfl, rfl⟩ dyX7_begin ⟨Nat.le_of_ble_eq_true rfl, Nat.le_of_ble_eq_true rfl⟩ (rc_recv X T1.1 rfl) rfl rfl (Nat.le_of_ble_eq_true rfl) dL_law_616 (lw_cz hc) (fun r61 I60 h => ?_)
    refine rc_iload X dL_law_619 6 rfl ?_
    obtain ⟨c62, h⟩ := h
    obtain ⟨c63, h⟩ := h
    obtain ⟨c64, h⟩ := h
    refine rc_ic_ne X 650 dL_law_621 (by decide) c62 c63 (fun q => absurd c64 q) (fun _ => ?_)
    refine rc_aload_n X dL_law_624 rfl 2 rfl ?_
    refine rc_iconst X dL_law_625 ?_
    refine rc_bipush X dL_law_626 (rc_b8 _ ⟨by decide, by decide⟩) ?_
    refine rc_cVI (rest := []) X (mX7_mend T1 h) gL_law_X7_mend rfl ⟨rfl, rfl⟩ dyX7_mend ⟨Nat.le_of_ble_eq_true rfl, Nat.le_of_ble_eq_true rfl⟩ (rc_recv X T1.1 rfl) rfl rfl (Nat.le_of_ble_eq_true rfl) dL_law_628 (lw_cz hc) (fun r66 I65 h => ?_)
    obtain ⟨c67, h⟩ := h
    obtain ⟨c68, h⟩ := h
    refine rc_if_lt X 650 dL_law_631 (by decide) c67 (fun q => absurd q c68) (fun _ => ?_)
    refine rc_aload_n X dL_law_634 rfl 2 rfl ?_
    refine rc_iconst X dL_law_635 ?_
    refine rc_iconst X dL_law_636 ?_
    refine rc_cVI (rest := []) X (mX7_set T1 h) gL_law_X7_set rfl ⟨rfl, rfl⟩ dyX7_set ⟨Nat.le_of_ble_eq_true rfl, Nat.le_of_ble_eq_true rfl⟩ (rc_recv X T1.1 rfl) rfl rfl (Nat.le_of_ble_eq_true rfl) dL_law_637 (lw_cz hc) (fun r70 I69 h => ?_)
    refine rc_aload_n X dL_law_640 rfl 3 rfl ?_
    refine rc_iconst X dL_law_641 ?_
    refine rc_iald X T3 (by decide) dL_law_642 ⟨by decide, by decide⟩ ?_
    obtain ⟨c71, h⟩ := h
    obtain ⟨c72, h⟩ := h
    obtain ⟨c73, h⟩ := h
    refine rc_ic_ne X 650 dL_law_643 (by decide) c71 c72 (fun q => absurd c73 q) (fun _ => ?_)
    refine rc_iconst X dL_law_646 ?_
    refine rc_goto X 651 dL_law_647 (by decide) ?_
    refine rc_istore X [(6, .int (rc_o 1)), (8, .long r49), (0, .ref b), (1, .ref x), (3, .ref (x + 89)), (5, .int (rc_o x5)), (7, .int (rc_o x7))] dL_law_651 (by decide) rfl ?_
    refine rc_iload X dL_law_653 0 rfl ?_
    obtain ⟨c74, h⟩ := h
    refine rc_if_eq X 682 dL_law_655 (by decide) ⟨by decide, by decide⟩ (fun q => absurd q c74) (fun _ => ?_)
    refine rc_aload_n X dL_law_658 rfl 3 rfl ?_
    refine rc_iconst X dL_law_659 ?_
    refine rc_cVI (rest := []) X (mX7_restore T1 h) gL_law_X7_restore rfl ⟨rfl, rfl⟩ dyX7_restore ⟨Nat.le_of_ble_eq_true rfl, Nat.le_of_ble_eq_true rfl⟩ (rc_recv X T1.1 rfl) rfl rfl (Nat.le_of_ble_eq_true rfl) dL_law_660 (lw_cz hc) (fun r76 I75 h => ?_)
    refine rc_iload X dL_law_663 5 rfl ?_
    obtain ⟨c77, h⟩ := h
    obtain ⟨c78, h⟩ := h
    obtain ⟨c79, h⟩ := h
    refine rc_ic_ne X 682 dL_law_665 (by decide) c77 c78 (fun q => absurd c79 q) (fun _ => ?_)
    refine rc_aload_n X dL_law_668 rfl 3 rfl ?_
    refine rc_cVL (rest := []) X (mX7_checksum T1 h) gL_law_X7_checksum rfl ⟨rfl, rfl⟩ dyX7_checksum ⟨Nat.le_of_ble_eq_true rfl, Nat.le_of_ble_eq_true rfl⟩ (rc_recv X T1.1 rfl) rfl rfl (Nat.le_of_ble_eq_true rfl) dL_law_669 (lw_cz hc) (fun r81 I80 h => ?_)
    refine rc_lload X dL_law_672 1 rfl ?_
    obtain ⟨c82, h⟩ := h
    refine rc_lne X 682 dL_law_674 dL_law_675 (by decide) c82 ?_
    refine rc_iconst X dL_law_678 ?_
    refine rc_goto X 683 dL_law_679 (by decide) ?_
    exact hend _ _ _ _ _ _ X hc h
  · have h := h.2 c47
    refine rc_iload X dL_law_361 4 rfl ?_
    obtain ⟨c83, h⟩ := h
    obtain ⟨c84, h⟩ := h
    refine rc_if_eq X 594 dL_law_363 (by decide) c83 (fun q => absurd q c84) (fun _ => ?_)
    refine rc_aload_n X dL_law_366 rfl 0 rfl ?_
    refine rc_bipush X dL_law_367 (rc_b8 _ ⟨by decide, by decide⟩) ?_
    refine rc_iload X dL_law_369 6 rfl ?_
    refine rc_iadd X dL_law_371 ?_
    obtain ⟨c85, h⟩ := h
    refine rl_cCell (rest := []) X S c85 (Nat.le_of_ble_eq_true rfl) dL_law_372 (lw_cz hc) ?_
    refine rc_istore X [(9, .int (rc_o (tC xs L (13 + x8)))), (0, .ref b), (1, .ref x), (3, .ref (x + 89)), (5, .int (rc_o x5)), (6, .int (rc_o x6)), (7, .int (rc_o x7)), (8, .int (rc_o x8))] dL_law_375 (by decide) rfl ?_
    refine rc_aload_n X dL_law_377 rfl 2 rfl ?_
    refine rc_iconst X dL_law_378 ?_
    refine rc_iload X dL_law_379 0 rfl ?_
    refine rc_iconst X dL_law_381 ?_
    obtain ⟨c86, h⟩ := h
    refine rc_ishr X dL_law_382 c86 ⟨by decide, by decide⟩ ?_
    refine rc_bipush X dL_law_383 (rc_b8 _ ⟨by decide, by decide⟩) ?_
    obtain ⟨c87, h⟩ := h
    refine rc_irem X dL_law_385 c87 ⟨by decide, by decide⟩ ?_
    refine rc_iadd X dL_law_386 ?_
    obtain ⟨c92, h⟩ := h
    refine rl_cGoes (rest := []) X hO hAA (fun sz => mL_goes T1 h sz) gL_law_L_goes ⟨Nat.le_of_ble_eq_true rfl, Nat.le_of_ble_eq_true rfl⟩ (Nat.le_of_ble_eq_true rfl) dL_law_387 (lw_cs hc) (fun r89 G90 I88 h le91 X => ?_)
    have T1 := kX7_le le91 T1
    have T2 := rs_iI le91 T2
    have T3 := rs_iI le91 T3
    have hc := lw_up hc c92
    obtain ⟨c93, h⟩ := h
    obtain ⟨c94, h⟩ := h
    refine rc_if_eq X 422 dL_law_390 (by decide) c93 (fun q => absurd q c94) (fun _ => ?_)
    refine rc_aload_n X dL_law_393 rfl 2 rfl ?_
    refine rc_iload X dL_law_394 6 rfl ?_
    refine rc_cSI (rest := []) X (mL_sound T1 h) gL_law_L_sound rfl ⟨rfl, rfl⟩ dyL_sound ⟨Nat.le_of_ble_eq_true rfl, Nat.le_of_ble_eq_true rfl⟩ rfl rfl (Nat.le_of_ble_eq_true rfl) dL_law_396 (lw_cz hc) (fun r96 I95 h => ?_)
    obtain ⟨c97, h⟩ := h
    obtain ⟨c98, h⟩ := h
    refine rc_if_eq X 422 dL_law_399 (by decide) c97 (fun q => absurd q c98) (fun _ => ?_)
    refine rc_iload X dL_law_402 7 rfl ?_
    refine rc_iconst X dL_law_404 ?_
    obtain ⟨c99, h⟩ := h
    refine rc_irem X dL_law_405 c99 ⟨by decide, by decide⟩ ?_
    obtain ⟨c100, h⟩ := h
    refine rc_if_gt X 418 dL_law_406 (by decide) c100 (fun c101 => ?_) (fun c101 => ?_)
    · have h := h.1 c101
      refine rc_subl [(0, .ref b), (1, .ref x), (3, .ref (x + 89)), (5, .int (rc_o x5)), (7, .int (rc_o x7)), (8, .int (rc_o x8)), (9, .int (rc_o (tC xs L (13 + x8))))] [1, 2, 3, 4, 6, 7, 0] rfl ?_
      exact gL_law_418 X S hO hAA hend hc T1 T2 T3 hk354  h
    · have h := h.2 c101
      refine rc_aload_n X dL_law_409 rfl 2 rfl ?_
      refine rc_iload X dL_law_410 4 rfl ?_
      refine rc_cSI (rest := []) X (mL_refuses T1 h) gL_law_L_refuses rfl ⟨rfl, rfl⟩ dyL_refuses ⟨Nat.le_of_ble_eq_true rfl, Nat.le_of_ble_eq_true rfl⟩ rfl rfl (Nat.le_of_ble_eq_true rfl) dL_law_412 (lw_cz hc) (fun r161 I160 h => ?_)
      obtain ⟨c162, h⟩ := h
      obtain ⟨c163, h⟩ := h
      refine rc_if_eq X 422 dL_law_415 (by decide) c162 (fun q => absurd q c163) (fun _ => ?_)
      refine rc_subl [(0, .ref b), (1, .ref x), (3, .ref (x + 89)), (5, .int (rc_o x5)), (7, .int (rc_o x7)), (8, .int (rc_o x8)), (9, .int (rc_o (tC xs L (13 + x8))))] [1, 2, 3, 4, 6, 7, 0] rfl ?_
      exact gL_law_418 X S hO hAA hend hc T1 T2 T3 hk354  h
noncomputable def rL_law_354 (xs : Nat → Int32) (L : Nat) (x : Nat)  (n : Nat) : rc_G → Nat → Int → Int → Int → Int → rc_M → Prop :=
  Nat.rec (motive := fun _ => rc_G → Nat → Int → Int → Int → Int → rc_M → Prop) (fun _ _ _ _ _ _ _ => False) (fun _ ih G cl => wL_law_354 G cl xs L x  ih) n
set_option maxRecDepth 100000 in
set_option maxHeartbeats 4000000 in
theorem sL_law_354 {p : Program} {l : Launch} {e : Env} {s : State} {m : MethodId} {args : Array Value} {below : List Frame} {meth : Method} {c : Code} {cells slots : Nat} {Q : State → Prop} {G : rc_G} {A : Nat → Prop} {I : rc_M} {b L x cl : Nat} {xs : Nat → Int32}  {n : Nat} {x5 : Int} {x6 : Int} {x7 : Int} {x8 : Int} (X : rc_X p s m args meth c cL_law 10 wsL_law RL G A) (S : rl_S b L xs A s) (hO : rk_O s) (hAA : ∀ q, s.heap.size ≤ q → A q) (hend : lw_end p l e s m args below meth c Q A) (hc : cl ≤ 100 ∧ cells ≤ 1000 + 41 * cl ∧ slots ≤ 2000 + 237 * cl) (T1 : kX7 G x) (T2 : rc_is G (x + 88) (rc_sI G 56)) (T3 : rc_is G (x + 89) (rc_sI G 8))  (h : rL_law_354 xs L x  n G cl x5 x6 x7 x8 I) : rc_g p l e room_1 s m args below meth c cells slots Q 10 G A 354 [(0, .ref b), (1, .ref x), (3, .ref (x + 89)), (5, .int (rc_o x5)), (6, .int (rc_o x6)), (7, .int (rc_o x7)), (8, .int (rc_o x8))] [] I := by
  induction n generalizing G cl cells slots x5 x6 x7 x8 I with
  | zero => exact h.elim
  | succ n ih => exact gL_law_354 (k354 := rL_law_354 xs L x  n) X S hO hAA hend hc T1 T2 T3  (fun G cl x5 x6 x7 x8 J cells slots X T1 T2 T3 hc h2 => ih X hc T1 T2 T3 h2) h
def wL_law_278 (G : rc_G) (cl : Nat) (xs : Nat → Int32) (L : Nat) (x : Nat) (k278 : rc_G → Nat → Int → Int → Int → Int → Int → rc_M → Prop) (x4 : Int) (x5 : Int) (x6 : Int) (x7 : Int) (x8 : Int) (I : rc_M) : Prop :=
  rc_R x8 ∧ (rc_R x7 ∧ ((x7 ≤ x8 → rc_R x6 ∧ ((¬ x6 = 0) ∧ (wX7_setProgram G x I (fun r33 I32 => rc_R r33 ∧ (rc_R x7 ∧ ((r33 = x7) ∧ (wX7_begin G x I32 (fun r38 I37 => rc_R r38 ∧ (rc_R x7 ∧ ((r38 = x7) ∧ (wL_sound G x x7 I37 (fun r43 I42 => rc_R r43 ∧ ((¬ r43 = 0) ∧ (∃ n, rL_law_354 xs L x  n G cl x5 1 x7 0 I42)))))))))))))) ∧ (¬ x7 ≤ x8 → (0 ≤ x4 ∧ x4 < 2147483648) ∧ ((0 ≤ (7 + (2 * x8)) ∧ (7 + (2 * x8)) < 32) ∧ ((0 ≤ (tS x4 (7 + (2 * x8))) ∧ (tS x4 (7 + (2 * x8))) < 2147483648) ∧ ((0 < x5 ∧ x5 < 2147483648) ∧ (wX7_append G x (48 + ((tS x4 (7 + (2 * x8))) % x5)) I (fun r169 I168 => k278 G cl x4 x5 x6 x7 (x8 + 1) I168))))))))
set_option maxRecDepth 100000 in
set_option maxHeartbeats 4000000 in
theorem gL_law_278 {p : Program} {l : Launch} {e : Env} {s : State} {m : MethodId} {args : Array Value} {below : List Frame} {meth : Method} {c : Code} {cells slots : Nat} {Q : State → Prop} {G : rc_G} {A : Nat → Prop} {I : rc_M} {b L x cl : Nat} {xs : Nat → Int32} {k278 : rc_G → Nat → Int → Int → Int → Int → Int → rc_M → Prop} {x4 : Int} {x5 : Int} {x6 : Int} {x7 : Int} {x8 : Int} (X : rc_X p s m args meth c cL_law 10 wsL_law RL G A) (S : rl_S b L xs A s) (hO : rk_O s) (hAA : ∀ q, s.heap.size ≤ q → A q) (hend : lw_end p l e s m args below meth c Q A) (hc : cl ≤ 100 ∧ cells ≤ 1000 + 41 * cl ∧ slots ≤ 2000 + 237 * cl) (T1 : kX7 G x) (T2 : rc_is G (x + 88) (rc_sI G 56)) (T3 : rc_is G (x + 89) (rc_sI G 8)) (hk278 : ∀ (G : rc_G) (cl : Nat) (x4 : Int) (x5 : Int) (x6 : Int) (x7 : Int) (x8 : Int) (J : rc_M) (cells slots : Nat), rc_X p s m args meth c cL_law 10 wsL_law RL G A → kX7 G x → rc_is G (x + 88) (rc_sI G 56) → rc_is G (x + 89) (rc_sI G 8) → (cl ≤ 100 ∧ cells ≤ 1000 + 41 * cl ∧ slots ≤ 2000 + 237 * cl) → k278 G cl x4 x5 x6 x7 x8 J → rc_g p l e room_1 s m args below meth c cells slots Q 10 G A 278 [(0, .ref b), (1, .ref x), (3, .ref (x + 89)), (4, .int (rc_o x4)), (5, .int (rc_o x5)), (6, .int (rc_o x6)), (7, .int (rc_o x7)), (8, .int (rc_o x8))] [] J)  (h : wL_law_278 G cl xs L x k278 x4 x5 x6 x7 x8 I) : rc_g p l e room_1 s m args below meth c cells slots Q 10 G A 278 [(0, .ref b), (1, .ref x), (3, .ref (x + 89)), (4, .int (rc_o x4)), (5, .int (rc_o x5)), (6, .int (rc_o x6)), (7, .int (rc_o x7)), (8, .int (rc_o x8))] [] I := by
  unfold wL_law_278 at h
  refine rc_iload X dL_law_278 7 rfl ?_
  refine rc_iload X dL_law_280 6 rfl ?_
  obtain ⟨c27, h⟩ := h
  obtain ⟨c28, h⟩ := h
  refine rc_ic_ge X 312 dL_law_282 (by decide) c27 c28 (fun c29 => ?_) (fun c29 => ?_)
  · have h := h.1 c29
    refine rc_iload X dL_law_312 5 rfl ?_
    obtain ⟨c30, h⟩ := h
    obtain ⟨c31, h⟩ := h
    refine rc_if_eq X 348 dL_law_314 (by decide) c30 (fun q => absurd q c31) (fun _ => ?_)
    refine rc_aload_n X dL_law_317 rfl 1 rfl ?_
    refine rc_cVI (rest := []) X (mX7_setProgram T1 h) gL_law_X7_setProgram rfl ⟨rfl, rfl⟩ dyX7_setProgram ⟨Nat.le_of_ble_eq_true rfl, Nat.le_of_ble_eq_true rfl⟩ (rc_recv X T1.1 rfl) rfl rfl (Nat.le_of_ble_eq_true rfl) dL_law_318 (lw_cz hc) (fun r33 I32 h => ?_)
    refine rc_iload X dL_law_321 6 rfl ?_
    obtain ⟨c34, h⟩ := h
    obtain ⟨c35, h⟩ := h
    obtain ⟨c36, h⟩ := h
    refine rc_ic_ne X 348 dL_law_323 (by decide) c34 c35 (fun q => absurd c36 q) (fun _ => ?_)
    refine rc_aload_n X dL_law_326 rfl 1 rfl ?_
    refine rc_cVI (rest := []) X (mX7_begin T1 h) gL_law_X7_begin rfl ⟨rfl, rfl⟩ dyX7_begin ⟨Nat.le_of_ble_eq_true rfl, Nat.le_of_ble_eq_true rfl⟩ (rc_recv X T1.1 rfl) rfl rfl (Nat.le_of_ble_eq_true rfl) dL_law_327 (lw_cz hc) (fun r38 I37 h => ?_)
    refine rc_iload X dL_law_330 6 rfl ?_
    obtain ⟨c39, h⟩ := h
    obtain ⟨c40, h⟩ := h
    obtain ⟨c41, h⟩ := h
    refine rc_ic_ne X 348 dL_law_332 (by decide) c39 c40 (fun q => absurd c41 q) (fun _ => ?_)
    refine rc_aload_n X dL_law_335 rfl 1 rfl ?_
    refine rc_iload X dL_law_336 6 rfl ?_
    refine rc_cSI (rest := []) X (mL_sound T1 h) gL_law_L_sound rfl ⟨rfl, rfl⟩ dyL_sound ⟨Nat.le_of_ble_eq_true rfl, Nat.le_of_ble_eq_true rfl⟩ rfl rfl (Nat.le_of_ble_eq_true rfl) dL_law_338 (lw_cz hc) (fun r43 I42 h => ?_)
    obtain ⟨c44, h⟩ := h
    obtain ⟨c45, h⟩ := h
    refine rc_if_eq X 348 dL_law_341 (by decide) c44 (fun q => absurd q c45) (fun _ => ?_)
    refine rc_iconst X dL_law_344 ?_
    refine rc_goto X 349 dL_law_345 (by decide) ?_
    refine rc_istore X [(6, .int (rc_o 1)), (0, .ref b), (1, .ref x), (3, .ref (x + 89)), (4, .int (rc_o x4)), (5, .int (rc_o x5)), (7, .int (rc_o x7)), (8, .int (rc_o x8))] dL_law_349 (by decide) rfl ?_
    refine rc_iconst X dL_law_351 ?_
    refine rc_istore X [(8, .int (rc_o 0)), (6, .int (rc_o 1)), (0, .ref b), (1, .ref x), (3, .ref (x + 89)), (4, .int (rc_o x4)), (5, .int (rc_o x5)), (7, .int (rc_o x7))] dL_law_352 (by decide) rfl ?_
    refine rc_subl [(0, .ref b), (1, .ref x), (3, .ref (x + 89)), (5, .int (rc_o x5)), (6, .int (rc_o 1)), (7, .int (rc_o x7)), (8, .int (rc_o 0))] [2, 3, 4, 6, 1, 7, 0] rfl ?_
    obtain ⟨n, h⟩ := h
    exact sL_law_354 X S hO hAA hend hc T1 T2 T3  h
  · have h := h.2 c29
    refine rc_aload_n X dL_law_285 rfl 1 rfl ?_
    refine rc_bipush X dL_law_286 (rc_b8 _ ⟨by decide, by decide⟩) ?_
    refine rc_iload X dL_law_288 3 rfl ?_
    refine rc_bipush X dL_law_290 (rc_b8 _ ⟨by decide, by decide⟩) ?_
    refine rc_iconst X dL_law_292 ?_
    refine rc_iload X dL_law_293 7 rfl ?_
    refine rc_imul X dL_law_295 ?_
    refine rc_iadd X dL_law_296 ?_
    obtain ⟨c164, h⟩ := h
    obtain ⟨c165, h⟩ := h
    refine rc_ishr X dL_law_297 c164 c165 ?_
    refine rc_iload X dL_law_298 4 rfl ?_
    obtain ⟨c166, h⟩ := h
    obtain ⟨c167, h⟩ := h
    refine rc_irem X dL_law_300 c166 c167 ?_
    refine rc_iadd X dL_law_301 ?_
    refine rc_cVI (rest := []) X (mX7_append T1 h) gL_law_X7_append rfl ⟨rfl, rfl⟩ dyX7_append ⟨Nat.le_of_ble_eq_true rfl, Nat.le_of_ble_eq_true rfl⟩ (rc_recv X T1.1 rfl) rfl rfl (Nat.le_of_ble_eq_true rfl) dL_law_302 (lw_cz hc) (fun r169 I168 h => ?_)
    refine rc_pop X dL_law_305 rfl ?_
    refine rc_iinc X [(8, .int (rc_o (x8 + 1))), (0, .ref b), (1, .ref x), (3, .ref (x + 89)), (4, .int (rc_o x4)), (5, .int (rc_o x5)), (6, .int (rc_o x6)), (7, .int (rc_o x7))] dL_law_306 7 rfl (by decide) rfl ?_
    refine rc_goto X 278 dL_law_309 (by decide) ?_
    refine rc_subl [(0, .ref b), (1, .ref x), (3, .ref (x + 89)), (4, .int (rc_o x4)), (5, .int (rc_o x5)), (6, .int (rc_o x6)), (7, .int (rc_o x7)), (8, .int (rc_o (x8 + 1)))] [1, 2, 3, 4, 5, 6, 7, 0] rfl ?_
    exact hk278 _ _ _ _ _ _ _ _ _ _ X T1 T2 T3 hc h
noncomputable def rL_law_278 (xs : Nat → Int32) (L : Nat) (x : Nat)  (n : Nat) : rc_G → Nat → Int → Int → Int → Int → Int → rc_M → Prop :=
  Nat.rec (motive := fun _ => rc_G → Nat → Int → Int → Int → Int → Int → rc_M → Prop) (fun _ _ _ _ _ _ _ _ => False) (fun _ ih G cl => wL_law_278 G cl xs L x  ih) n
set_option maxRecDepth 100000 in
set_option maxHeartbeats 4000000 in
theorem sL_law_278 {p : Program} {l : Launch} {e : Env} {s : State} {m : MethodId} {args : Array Value} {below : List Frame} {meth : Method} {c : Code} {cells slots : Nat} {Q : State → Prop} {G : rc_G} {A : Nat → Prop} {I : rc_M} {b L x cl : Nat} {xs : Nat → Int32}  {n : Nat} {x4 : Int} {x5 : Int} {x6 : Int} {x7 : Int} {x8 : Int} (X : rc_X p s m args meth c cL_law 10 wsL_law RL G A) (S : rl_S b L xs A s) (hO : rk_O s) (hAA : ∀ q, s.heap.size ≤ q → A q) (hend : lw_end p l e s m args below meth c Q A) (hc : cl ≤ 100 ∧ cells ≤ 1000 + 41 * cl ∧ slots ≤ 2000 + 237 * cl) (T1 : kX7 G x) (T2 : rc_is G (x + 88) (rc_sI G 56)) (T3 : rc_is G (x + 89) (rc_sI G 8))  (h : rL_law_278 xs L x  n G cl x4 x5 x6 x7 x8 I) : rc_g p l e room_1 s m args below meth c cells slots Q 10 G A 278 [(0, .ref b), (1, .ref x), (3, .ref (x + 89)), (4, .int (rc_o x4)), (5, .int (rc_o x5)), (6, .int (rc_o x6)), (7, .int (rc_o x7)), (8, .int (rc_o x8))] [] I := by
  induction n generalizing G cl cells slots x4 x5 x6 x7 x8 I with
  | zero => exact h.elim
  | succ n ih => exact gL_law_278 (k278 := rL_law_278 xs L x  n) X S hO hAA hend hc T1 T2 T3  (fun G cl x4 x5 x6 x7 x8 J cells slots X T1 T2 T3 hc h2 => ih X hc T1 T2 T3 h2) h
def wL_law_251 (G : rc_G) (cl : Nat) (xs : Nat → Int32) (L : Nat) (x : Nat) (k208 : rc_G → Nat → Int → Int → Int → Int → rc_M → Prop) (x4 : Int) (x5 : Int) (x7 : Int) (I : rc_M) : Prop :=
  k208 G cl x4 x5 1 (x7 + 1) I
set_option maxRecDepth 100000 in
set_option maxHeartbeats 4000000 in
theorem gL_law_251 {p : Program} {l : Launch} {e : Env} {s : State} {m : MethodId} {args : Array Value} {below : List Frame} {meth : Method} {c : Code} {cells slots : Nat} {Q : State → Prop} {G : rc_G} {A : Nat → Prop} {I : rc_M} {b L x cl : Nat} {xs : Nat → Int32} {k208 : rc_G → Nat → Int → Int → Int → Int → rc_M → Prop} {x4 : Int} {x5 : Int} {x7 : Int} (X : rc_X p s m args meth c cL_law 10 wsL_law RL G A) (S : rl_S b L xs A s) (hO : rk_O s) (hAA : ∀ q, s.heap.size ≤ q → A q) (hend : lw_end p l e s m args below meth c Q A) (hc : cl ≤ 100 ∧ cells ≤ 1000 + 41 * cl ∧ slots ≤ 2000 + 237 * cl) (T1 : kX7 G x) (T2 : rc_is G (x + 88) (rc_sI G 56)) (T3 : rc_is G (x + 89) (rc_sI G 8)) (hk208 : ∀ (G : rc_G) (cl : Nat) (x4 : Int) (x5 : Int) (x6 : Int) (x7 : Int) (J : rc_M) (cells slots : Nat), rc_X p s m args meth c cL_law 10 wsL_law RL G A → kX7 G x → rc_is G (x + 88) (rc_sI G 56) → rc_is G (x + 89) (rc_sI G 8) → (cl ≤ 100 ∧ cells ≤ 1000 + 41 * cl ∧ slots ≤ 2000 + 237 * cl) → k208 G cl x4 x5 x6 x7 J → rc_g p l e room_1 s m args below meth c cells slots Q 10 G A 208 [(0, .ref b), (1, .ref x), (3, .ref (x + 89)), (4, .int (rc_o x4)), (5, .int (rc_o x5)), (6, .int (rc_o x6)), (7, .int (rc_o x7))] [] J)  (h : wL_law_251 G cl xs L x k208 x4 x5 x7 I) : rc_g p l e room_1 s m args below meth c cells slots Q 10 G A 251 [(0, .ref b), (1, .ref x), (3, .ref (x + 89)), (4, .int (rc_o x4)), (5, .int (rc_o x5)), (7, .int (rc_o x7))] [] I := by
  unfold wL_law_251 at h
  refine rc_iconst X dL_law_251 ?_
  refine rc_goto X 256 dL_law_252 (by decide) ?_
  refine rc_istore X [(6, .int (rc_o 1)), (0, .ref b), (1, .ref x), (3, .ref (x + 89)), (4, .int (rc_o x4)), (5, .int (rc_o x5)), (7, .int (rc_o x7))] dL_law_256 (by decide) rfl ?_
  refine rc_iinc X [(7, .int (rc_o (x7 + 1))), (6, .int (rc_o 1)), (0, .ref b), (1, .ref x), (3, .ref (x + 89)), (4, .int (rc_o x4)), (5, .int (rc_o x5))] dL_law_258 6 rfl (by decide) rfl ?_
  refine rc_goto X 208 dL_law_261 (by decide) ?_
  refine rc_subl [(0, .ref b), (1, .ref x), (3, .ref (x + 89)), (4, .int (rc_o x4)), (5, .int (rc_o x5)), (6, .int (rc_o 1)), (7, .int (rc_o (x7 + 1)))] [2, 3, 4, 5, 6, 1, 0] rfl ?_
  exact hk208 _ _ _ _ _ _ _ _ _ X T1 T2 T3 hc h
def wL_law_208 (G : rc_G) (cl : Nat) (xs : Nat → Int32) (L : Nat) (x : Nat) (k208 : rc_G → Nat → Int → Int → Int → Int → rc_M → Prop) (x4 : Int) (x5 : Int) (x6 : Int) (x7 : Int) (I : rc_M) : Prop :=
  rc_R x7 ∧ ((8 ≤ x7 → (0 ≤ x4 ∧ x4 < 2147483648) ∧ ((0 ≤ (tS x4 4) ∧ (tS x4 4) < 2147483648) ∧ (∃ n, rL_law_278 xs L x  n G cl x4 x5 x6 (1 + ((tS x4 4) % 6)) 0 I))) ∧ (¬ 8 ≤ x7 → rc_R x6 ∧ ((¬ x6 = 0) ∧ (((0 : Int) ≤ (5 + x7) ∧ ((5 + x7) : Int) ≤ 100) ∧ ((0 ≤ (tC xs L (5 + x7)) ∧ (tC xs L (5 + x7)) < 2147483648) ∧ (rc_R ((tC xs L (5 + x7)) % 2) ∧ ((((tC xs L (5 + x7)) % 2) = 0 → wL_law_251 G cl xs L x k208 x4 x5 x7 I) ∧ (¬ ((tC xs L (5 + x7)) % 2) = 0 → (0 ≤ (tC xs L (5 + x7)) ∧ (tC xs L (5 + x7)) < 2147483648) ∧ (wL_sets G x (x + 89) x7 (tS (tC xs L (5 + x7)) 3) I (fun r178 I177 => rc_R r178 ∧ ((¬ r178 = 0) ∧ (wL_law_251 G cl xs L x k208 x4 x5 x7 I177))))))))))))
set_option maxRecDepth 100000 in
set_option maxHeartbeats 4000000 in
theorem gL_law_208 {p : Program} {l : Launch} {e : Env} {s : State} {m : MethodId} {args : Array Value} {below : List Frame} {meth : Method} {c : Code} {cells slots : Nat} {Q : State → Prop} {G : rc_G} {A : Nat → Prop} {I : rc_M} {b L x cl : Nat} {xs : Nat → Int32} {k208 : rc_G → Nat → Int → Int → Int → Int → rc_M → Prop} {x4 : Int} {x5 : Int} {x6 : Int} {x7 : Int} (X : rc_X p s m args meth c cL_law 10 wsL_law RL G A) (S : rl_S b L xs A s) (hO : rk_O s) (hAA : ∀ q, s.heap.size ≤ q → A q) (hend : lw_end p l e s m args below meth c Q A) (hc : cl ≤ 100 ∧ cells ≤ 1000 + 41 * cl ∧ slots ≤ 2000 + 237 * cl) (T1 : kX7 G x) (T2 : rc_is G (x + 88) (rc_sI G 56)) (T3 : rc_is G (x + 89) (rc_sI G 8)) (hk208 : ∀ (G : rc_G) (cl : Nat) (x4 : Int) (x5 : Int) (x6 : Int) (x7 : Int) (J : rc_M) (cells slots : Nat), rc_X p s m args meth c cL_law 10 wsL_law RL G A → kX7 G x → rc_is G (x + 88) (rc_sI G 56) → rc_is G (x + 89) (rc_sI G 8) → (cl ≤ 100 ∧ cells ≤ 1000 + 41 * cl ∧ slots ≤ 2000 + 237 * cl) → k208 G cl x4 x5 x6 x7 J → rc_g p l e room_1 s m args below meth c cells slots Q 10 G A 208 [(0, .ref b), (1, .ref x), (3, .ref (x + 89)), (4, .int (rc_o x4)), (5, .int (rc_o x5)), (6, .int (rc_o x6)), (7, .int (rc_o x7))] [] J)  (h : wL_law_208 G cl xs L x k208 x4 x5 x6 x7 I) : rc_g p l e room_1 s m args below meth c cells slots Q 10 G A 208 [(0, .ref b), (1, .ref x), (3, .ref (x + 89)), (4, .int (rc_o x4)), (5, .int (rc_o x5)), (6, .int (rc_o x6)), (7, .int (rc_o x7))] [] I := by
  unfold wL_law_208 at h
  refine rc_iload X dL_law_208 6 rfl ?_
  refine rc_bipush X dL_law_210 (rc_b8 _ ⟨by decide, by decide⟩) ?_
  obtain ⟨c23, h⟩ := h
  refine rc_ic_ge X 264 dL_law_212 (by decide) c23 ⟨by decide, by decide⟩ (fun c24 => ?_) (fun c24 => ?_)
  · have h := h.1 c24
    refine rc_iconst X dL_law_264 ?_
    refine rc_iload X dL_law_265 3 rfl ?_
    refine rc_iconst X dL_law_267 ?_
    obtain ⟨c25, h⟩ := h
    refine rc_ishr X dL_law_268 c25 ⟨by decide, by decide⟩ ?_
    refine rc_bipush X dL_law_269 (rc_b8 _ ⟨by decide, by decide⟩) ?_
    obtain ⟨c26, h⟩ := h
    refine rc_irem X dL_law_271 c26 ⟨by decide, by decide⟩ ?_
    refine rc_iadd X dL_law_272 ?_
    refine rc_istore X [(7, .int (rc_o (1 + ((tS x4 4) % 6)))), (0, .ref b), (1, .ref x), (3, .ref (x + 89)), (4, .int (rc_o x4)), (5, .int (rc_o x5)), (6, .int (rc_o x6))] dL_law_273 (by decide) rfl ?_
    refine rc_iconst X dL_law_275 ?_
    refine rc_istore X [(8, .int (rc_o 0)), (7, .int (rc_o (1 + ((tS x4 4) % 6)))), (0, .ref b), (1, .ref x), (3, .ref (x + 89)), (4, .int (rc_o x4)), (5, .int (rc_o x5)), (6, .int (rc_o x6))] dL_law_276 (by decide) rfl ?_
    refine rc_subl [(0, .ref b), (1, .ref x), (3, .ref (x + 89)), (4, .int (rc_o x4)), (5, .int (rc_o x5)), (6, .int (rc_o x6)), (7, .int (rc_o (1 + ((tS x4 4) % 6)))), (8, .int (rc_o 0))] [2, 3, 4, 5, 6, 7, 1, 0] rfl ?_
    obtain ⟨n, h⟩ := h
    exact sL_law_278 X S hO hAA hend hc T1 T2 T3  h
  · have h := h.2 c24
    refine rc_iload X dL_law_215 5 rfl ?_
    obtain ⟨c170, h⟩ := h
    obtain ⟨c171, h⟩ := h
    refine rc_if_eq X 264 dL_law_217 (by decide) c170 (fun q => absurd q c171) (fun _ => ?_)
    refine rc_aload_n X dL_law_220 rfl 0 rfl ?_
    refine rc_iconst X dL_law_221 ?_
    refine rc_iload X dL_law_222 6 rfl ?_
    refine rc_iadd X dL_law_224 ?_
    obtain ⟨c172, h⟩ := h
    refine rl_cCell (rest := []) X S c172 (Nat.le_of_ble_eq_true rfl) dL_law_225 (lw_cz hc) ?_
    refine rc_istore X [(8, .int (rc_o (tC xs L (5 + x7)))), (0, .ref b), (1, .ref x), (3, .ref (x + 89)), (4, .int (rc_o x4)), (5, .int (rc_o x5)), (6, .int (rc_o x6)), (7, .int (rc_o x7))] dL_law_228 (by decide) rfl ?_
    refine rc_iload X dL_law_230 0 rfl ?_
    refine rc_iconst X dL_law_232 ?_
    obtain ⟨c173, h⟩ := h
    refine rc_irem X dL_law_233 c173 ⟨by decide, by decide⟩ ?_
    obtain ⟨c174, h⟩ := h
    refine rc_if_eq X 251 dL_law_234 (by decide) c174 (fun c175 => ?_) (fun c175 => ?_)
    · have h := h.1 c175
      refine rc_subl [(0, .ref b), (1, .ref x), (3, .ref (x + 89)), (4, .int (rc_o x4)), (5, .int (rc_o x5)), (7, .int (rc_o x7))] [1, 2, 3, 4, 5, 7] rfl ?_
      exact gL_law_251 X S hO hAA hend hc T1 T2 T3 hk208  h
    · have h := h.2 c175
      refine rc_aload_n X dL_law_237 rfl 2 rfl ?_
      refine rc_aload_n X dL_law_238 rfl 3 rfl ?_
      refine rc_iload X dL_law_239 7 rfl ?_
      refine rc_iload X dL_law_241 0 rfl ?_
      refine rc_iconst X dL_law_243 ?_
      obtain ⟨c176, h⟩ := h
      refine rc_ishr X dL_law_244 c176 ⟨by decide, by decide⟩ ?_
      refine rc_cSI (rest := []) X (mL_sets T1 T3 h) gL_law_L_sets rfl ⟨rfl, rfl⟩ dyL_sets ⟨Nat.le_of_ble_eq_true rfl, Nat.le_of_ble_eq_true rfl⟩ rfl rfl (Nat.le_of_ble_eq_true rfl) dL_law_245 (lw_cz hc) (fun r178 I177 h => ?_)
      obtain ⟨c179, h⟩ := h
      obtain ⟨c180, h⟩ := h
      refine rc_if_eq X 255 dL_law_248 (by decide) c179 (fun q => absurd q c180) (fun _ => ?_)
      refine rc_subl [(0, .ref b), (1, .ref x), (3, .ref (x + 89)), (4, .int (rc_o x4)), (5, .int (rc_o x5)), (7, .int (rc_o x7))] [1, 2, 3, 4, 5, 7] rfl ?_
      exact gL_law_251 X S hO hAA hend hc T1 T2 T3 hk208  h
noncomputable def rL_law_208 (xs : Nat → Int32) (L : Nat) (x : Nat)  (n : Nat) : rc_G → Nat → Int → Int → Int → Int → rc_M → Prop :=
  Nat.rec (motive := fun _ => rc_G → Nat → Int → Int → Int → Int → rc_M → Prop) (fun _ _ _ _ _ _ _ => False) (fun _ ih G cl => wL_law_208 G cl xs L x  ih) n
set_option maxRecDepth 100000 in
set_option maxHeartbeats 4000000 in
theorem sL_law_208 {p : Program} {l : Launch} {e : Env} {s : State} {m : MethodId} {args : Array Value} {below : List Frame} {meth : Method} {c : Code} {cells slots : Nat} {Q : State → Prop} {G : rc_G} {A : Nat → Prop} {I : rc_M} {b L x cl : Nat} {xs : Nat → Int32}  {n : Nat} {x4 : Int} {x5 : Int} {x6 : Int} {x7 : Int} (X : rc_X p s m args meth c cL_law 10 wsL_law RL G A) (S : rl_S b L xs A s) (hO : rk_O s) (hAA : ∀ q, s.heap.size ≤ q → A q) (hend : lw_end p l e s m args below meth c Q A) (hc : cl ≤ 100 ∧ cells ≤ 1000 + 41 * cl ∧ slots ≤ 2000 + 237 * cl) (T1 : kX7 G x) (T2 : rc_is G (x + 88) (rc_sI G 56)) (T3 : rc_is G (x + 89) (rc_sI G 8))  (h : rL_law_208 xs L x  n G cl x4 x5 x6 x7 I) : rc_g p l e room_1 s m args below meth c cells slots Q 10 G A 208 [(0, .ref b), (1, .ref x), (3, .ref (x + 89)), (4, .int (rc_o x4)), (5, .int (rc_o x5)), (6, .int (rc_o x6)), (7, .int (rc_o x7))] [] I := by
  induction n generalizing G cl cells slots x4 x5 x6 x7 I with
  | zero => exact h.elim
  | succ n ih => exact gL_law_208 (k208 := rL_law_208 xs L x  n) X S hO hAA hend hc T1 T2 T3  (fun G cl x4 x5 x6 x7 J cells slots X T1 T2 T3 hc h2 => ih X hc T1 T2 T3 h2) h
def wL_law_186 (G : rc_G) (cl : Nat) (xs : Nat → Int32) (L : Nat) (x : Nat) (k81 : rc_G → Nat → Int → Int → Int → Int → rc_M → Prop) (k123 : rc_G → Nat → Int → Int → Int → Int → Int → Int → rc_M → Prop) (x4 : Int) (x5 : Int) (x7 : Int) (x8 : Int) (x9 : Int) (I : rc_M) : Prop :=
  k123 G cl x4 x5 1 x7 x8 (x9 + 1) I
set_option maxRecDepth 100000 in
set_option maxHeartbeats 4000000 in
theorem gL_law_186 {p : Program} {l : Launch} {e : Env} {s : State} {m : MethodId} {args : Array Value} {below : List Frame} {meth : Method} {c : Code} {cells slots : Nat} {Q : State → Prop} {G : rc_G} {A : Nat → Prop} {I : rc_M} {b L x cl : Nat} {xs : Nat → Int32} {k81 : rc_G → Nat → Int → Int → Int → Int → rc_M → Prop} {k123 : rc_G → Nat → Int → Int → Int → Int → Int → Int → rc_M → Prop} {x4 : Int} {x5 : Int} {x7 : Int} {x8 : Int} {x9 : Int} (X : rc_X p s m args meth c cL_law 10 wsL_law RL G A) (S : rl_S b L xs A s) (hO : rk_O s) (hAA : ∀ q, s.heap.size ≤ q → A q) (hend : lw_end p l e s m args below meth c Q A) (hc : cl ≤ 100 ∧ cells ≤ 1000 + 41 * cl ∧ slots ≤ 2000 + 237 * cl) (T1 : kX7 G x) (T2 : rc_is G (x + 88) (rc_sI G 56)) (T3 : rc_is G (x + 89) (rc_sI G 8)) (hk81 : ∀ (G : rc_G) (cl : Nat) (x4 : Int) (x5 : Int) (x6 : Int) (x7 : Int) (J : rc_M) (cells slots : Nat), rc_X p s m args meth c cL_law 10 wsL_law RL G A → kX7 G x → rc_is G (x + 88) (rc_sI G 56) → rc_is G (x + 89) (rc_sI G 8) → (cl ≤ 100 ∧ cells ≤ 1000 + 41 * cl ∧ slots ≤ 2000 + 237 * cl) → k81 G cl x4 x5 x6 x7 J → rc_g p l e room_1 s m args below meth c cells slots Q 10 G A 81 [(0, .ref b), (1, .ref x), (2, .ref (x + 88)), (3, .ref (x + 89)), (4, .int (rc_o x4)), (5, .int (rc_o x5)), (6, .int (rc_o x6)), (7, .int (rc_o x7))] [] J) (hk123 : ∀ (G : rc_G) (cl : Nat) (x4 : Int) (x5 : Int) (x6 : Int) (x7 : Int) (x8 : Int) (x9 : Int) (J : rc_M) (cells slots : Nat), rc_X p s m args meth c cL_law 10 wsL_law RL G A → kX7 G x → rc_is G (x + 88) (rc_sI G 56) → rc_is G (x + 89) (rc_sI G 8) → (cl ≤ 100 ∧ cells ≤ 1000 + 41 * cl ∧ slots ≤ 2000 + 237 * cl) → k123 G cl x4 x5 x6 x7 x8 x9 J → rc_g p l e room_1 s m args below meth c cells slots Q 10 G A 123 [(0, .ref b), (1, .ref x), (2, .ref (x + 88)), (3, .ref (x + 89)), (4, .int (rc_o x4)), (5, .int (rc_o x5)), (6, .int (rc_o x6)), (7, .int (rc_o x7)), (8, .int (rc_o x8)), (9, .int (rc_o x9))] [] J)  (h : wL_law_186 G cl xs L x k81 k123 x4 x5 x7 x8 x9 I) : rc_g p l e room_1 s m args below meth c cells slots Q 10 G A 186 [(0, .ref b), (1, .ref x), (2, .ref (x + 88)), (3, .ref (x + 89)), (4, .int (rc_o x4)), (5, .int (rc_o x5)), (7, .int (rc_o x7)), (8, .int (rc_o x8)), (9, .int (rc_o x9))] [] I := by
  unfold wL_law_186 at h
  refine rc_iconst X dL_law_186 ?_
  refine rc_goto X 191 dL_law_187 (by decide) ?_
  refine rc_istore X [(6, .int (rc_o 1)), (0, .ref b), (1, .ref x), (2, .ref (x + 88)), (3, .ref (x + 89)), (4, .int (rc_o x4)), (5, .int (rc_o x5)), (7, .int (rc_o x7)), (8, .int (rc_o x8)), (9, .int (rc_o x9))] dL_law_191 (by decide) rfl ?_
  refine rc_iinc X [(9, .int (rc_o (x9 + 1))), (6, .int (rc_o 1)), (0, .ref b), (1, .ref x), (2, .ref (x + 88)), (3, .ref (x + 89)), (4, .int (rc_o x4)), (5, .int (rc_o x5)), (7, .int (rc_o x7)), (8, .int (rc_o x8))] dL_law_193 9 rfl (by decide) rfl ?_
  refine rc_goto X 123 dL_law_196 (by decide) ?_
  refine rc_subl [(0, .ref b), (1, .ref x), (2, .ref (x + 88)), (3, .ref (x + 89)), (4, .int (rc_o x4)), (5, .int (rc_o x5)), (6, .int (rc_o 1)), (7, .int (rc_o x7)), (8, .int (rc_o x8)), (9, .int (rc_o (x9 + 1)))] [2, 3, 4, 5, 6, 7, 1, 8, 9, 0] rfl ?_
  exact hk123 _ _ _ _ _ _ _ _ _ _ _ X T1 T2 T3 hc h
def wL_law_123 (G : rc_G) (cl : Nat) (xs : Nat → Int32) (L : Nat) (x : Nat) (k81 : rc_G → Nat → Int → Int → Int → Int → rc_M → Prop) (k123 : rc_G → Nat → Int → Int → Int → Int → Int → Int → rc_M → Prop) (x4 : Int) (x5 : Int) (x6 : Int) (x7 : Int) (x8 : Int) (x9 : Int) (I : rc_M) : Prop :=
  rc_R x9 ∧ ((3 ≤ x9 → k81 G cl x4 x5 x6 (x7 + 1) I) ∧ (¬ 3 ≤ x9 → rc_R x6 ∧ ((¬ x6 = 0) ∧ ((0 ≤ x8 ∧ x8 < 2147483648) ∧ ((0 ≤ (6 + x9) ∧ (6 + x9) < 32) ∧ ((0 ≤ (tS x8 (6 + x9)) ∧ (tS x8 (6 + x9)) < 2147483648) ∧ (rc_R ((tS x8 (6 + x9)) % 2) ∧ ((((tS x8 (6 + x9)) % 2) = 0 → wL_law_186 G cl xs L x k81 k123 x4 x5 x7 x8 x9 I) ∧ (¬ ((tS x8 (6 + x9)) % 2) = 0 → (0 ≤ x8 ∧ x8 < 2147483648) ∧ ((0 ≤ (9 + (3 * x9)) ∧ (9 + (3 * x9)) < 32) ∧ ((0 ≤ (tS x8 (9 + (3 * x9))) ∧ (tS x8 (9 + (3 * x9))) < 2147483648) ∧ ((0 ≤ x8 ∧ x8 < 2147483648) ∧ ((0 ≤ (10 + (4 * x9)) ∧ (10 + (4 * x9)) < 32) ∧ ((0 ≤ (tS x8 (10 + (4 * x9))) ∧ (tS x8 (10 + (4 * x9))) < 2147483648) ∧ (wL_splices G x (x + 88) x7 (1 + ((tS x8 (9 + (3 * x9))) % 99)) (1 + ((tS x8 (10 + (4 * x9))) % 4)) I (fun r203 I202 => rc_R r203 ∧ ((¬ r203 = 0) ∧ (wL_law_186 G cl xs L x k81 k123 x4 x5 x7 x8 x9 I202))))))))))))))))))
set_option maxRecDepth 100000 in
set_option maxHeartbeats 4000000 in
theorem gL_law_123 {p : Program} {l : Launch} {e : Env} {s : State} {m : MethodId} {args : Array Value} {below : List Frame} {meth : Method} {c : Code} {cells slots : Nat} {Q : State → Prop} {G : rc_G} {A : Nat → Prop} {I : rc_M} {b L x cl : Nat} {xs : Nat → Int32} {k81 : rc_G → Nat → Int → Int → Int → Int → rc_M → Prop} {k123 : rc_G → Nat → Int → Int → Int → Int → Int → Int → rc_M → Prop} {x4 : Int} {x5 : Int} {x6 : Int} {x7 : Int} {x8 : Int} {x9 : Int} (X : rc_X p s m args meth c cL_law 10 wsL_law RL G A) (S : rl_S b L xs A s) (hO : rk_O s) (hAA : ∀ q, s.heap.size ≤ q → A q) (hend : lw_end p l e s m args below meth c Q A) (hc : cl ≤ 100 ∧ cells ≤ 1000 + 41 * cl ∧ slots ≤ 2000 + 237 * cl) (T1 : kX7 G x) (T2 : rc_is G (x + 88) (rc_sI G 56)) (T3 : rc_is G (x + 89) (rc_sI G 8)) (hk81 : ∀ (G : rc_G) (cl : Nat) (x4 : Int) (x5 : Int) (x6 : Int) (x7 : Int) (J : rc_M) (cells slots : Nat), rc_X p s m args meth c cL_law 10 wsL_law RL G A → kX7 G x → rc_is G (x + 88) (rc_sI G 56) → rc_is G (x + 89) (rc_sI G 8) → (cl ≤ 100 ∧ cells ≤ 1000 + 41 * cl ∧ slots ≤ 2000 + 237 * cl) → k81 G cl x4 x5 x6 x7 J → rc_g p l e room_1 s m args below meth c cells slots Q 10 G A 81 [(0, .ref b), (1, .ref x), (2, .ref (x + 88)), (3, .ref (x + 89)), (4, .int (rc_o x4)), (5, .int (rc_o x5)), (6, .int (rc_o x6)), (7, .int (rc_o x7))] [] J) (hk123 : ∀ (G : rc_G) (cl : Nat) (x4 : Int) (x5 : Int) (x6 : Int) (x7 : Int) (x8 : Int) (x9 : Int) (J : rc_M) (cells slots : Nat), rc_X p s m args meth c cL_law 10 wsL_law RL G A → kX7 G x → rc_is G (x + 88) (rc_sI G 56) → rc_is G (x + 89) (rc_sI G 8) → (cl ≤ 100 ∧ cells ≤ 1000 + 41 * cl ∧ slots ≤ 2000 + 237 * cl) → k123 G cl x4 x5 x6 x7 x8 x9 J → rc_g p l e room_1 s m args below meth c cells slots Q 10 G A 123 [(0, .ref b), (1, .ref x), (2, .ref (x + 88)), (3, .ref (x + 89)), (4, .int (rc_o x4)), (5, .int (rc_o x5)), (6, .int (rc_o x6)), (7, .int (rc_o x7)), (8, .int (rc_o x8)), (9, .int (rc_o x9))] [] J)  (h : wL_law_123 G cl xs L x k81 k123 x4 x5 x6 x7 x8 x9 I) : rc_g p l e room_1 s m args below meth c cells slots Q 10 G A 123 [(0, .ref b), (1, .ref x), (2, .ref (x + 88)), (3, .ref (x + 89)), (4, .int (rc_o x4)), (5, .int (rc_o x5)), (6, .int (rc_o x6)), (7, .int (rc_o x7)), (8, .int (rc_o x8)), (9, .int (rc_o x9))] [] I := by
  unfold wL_law_123 at h
  refine rc_iload X dL_law_123 9 rfl ?_
  refine rc_iconst X dL_law_125 ?_
  obtain ⟨c187, h⟩ := h
  refine rc_ic_ge X 199 dL_law_126 (by decide) c187 ⟨by decide, by decide⟩ (fun c188 => ?_) (fun c188 => ?_)
  · have h := h.1 c188
    refine rc_iinc X [(7, .int (rc_o (x7 + 1))), (0, .ref b), (1, .ref x), (2, .ref (x + 88)), (3, .ref (x + 89)), (4, .int (rc_o x4)), (5, .int (rc_o x5)), (6, .int (rc_o x6)), (8, .int (rc_o x8)), (9, .int (rc_o x9))] dL_law_199 7 rfl (by decide) rfl ?_
    refine rc_goto X 81 dL_law_202 (by decide) ?_
    refine rc_subl [(0, .ref b), (1, .ref x), (2, .ref (x + 88)), (3, .ref (x + 89)), (4, .int (rc_o x4)), (5, .int (rc_o x5)), (6, .int (rc_o x6)), (7, .int (rc_o (x7 + 1)))] [1, 2, 3, 4, 5, 6, 7, 0] rfl ?_
    exact hk81 _ _ _ _ _ _ _ _ _ X T1 T2 T3 hc h
  · have h := h.2 c188
    refine rc_iload X dL_law_129 6 rfl ?_
    obtain ⟨c189, h⟩ := h
    obtain ⟨c190, h⟩ := h
    refine rc_if_eq X 199 dL_law_131 (by decide) c189 (fun q => absurd q c190) (fun _ => ?_)
    refine rc_iload X dL_law_134 8 rfl ?_
    refine rc_bipush X dL_law_136 (rc_b8 _ ⟨by decide, by decide⟩) ?_
    refine rc_iload X dL_law_138 9 rfl ?_
    refine rc_iadd X dL_law_140 ?_
    obtain ⟨c191, h⟩ := h
    obtain ⟨c192, h⟩ := h
    refine rc_ishr X dL_law_141 c191 c192 ?_
    refine rc_iconst X dL_law_142 ?_
    obtain ⟨c193, h⟩ := h
    refine rc_irem X dL_law_143 c193 ⟨by decide, by decide⟩ ?_
    obtain ⟨c194, h⟩ := h
    refine rc_if_eq X 186 dL_law_144 (by decide) c194 (fun c195 => ?_) (fun c195 => ?_)
    · have h := h.1 c195
      refine rc_subl [(0, .ref b), (1, .ref x), (2, .ref (x + 88)), (3, .ref (x + 89)), (4, .int (rc_o x4)), (5, .int (rc_o x5)), (7, .int (rc_o x7)), (8, .int (rc_o x8)), (9, .int (rc_o x9))] [0, 1, 2, 3, 4, 5, 7, 8, 9] rfl ?_
      exact gL_law_186 X S hO hAA hend hc T1 T2 T3 hk81 hk123  h
    · have h := h.2 c195
      refine rc_aload_n X dL_law_147 rfl 1 rfl ?_
      refine rc_aload_n X dL_law_148 rfl 2 rfl ?_
      refine rc_iload X dL_law_149 7 rfl ?_
      refine rc_iconst X dL_law_151 ?_
      refine rc_iload X dL_law_152 8 rfl ?_
      refine rc_bipush X dL_law_154 (rc_b8 _ ⟨by decide, by decide⟩) ?_
      refine rc_iconst X dL_law_156 ?_
      refine rc_iload X dL_law_157 9 rfl ?_
      refine rc_imul X dL_law_159 ?_
      refine rc_iadd X dL_law_160 ?_
      obtain ⟨c196, h⟩ := h
      obtain ⟨c197, h⟩ := h
      refine rc_ishr X dL_law_161 c196 c197 ?_
      refine rc_bipush X dL_law_162 (rc_b8 _ ⟨by decide, by decide⟩) ?_
      obtain ⟨c198, h⟩ := h
      refine rc_irem X dL_law_164 c198 ⟨by decide, by decide⟩ ?_
      refine rc_iadd X dL_law_165 ?_
      refine rc_iconst X dL_law_166 ?_
      refine rc_iload X dL_law_167 8 rfl ?_
      refine rc_bipush X dL_law_169 (rc_b8 _ ⟨by decide, by decide⟩) ?_
      refine rc_iconst X dL_law_171 ?_
      refine rc_iload X dL_law_172 9 rfl ?_
      refine rc_imul X dL_law_174 ?_
      refine rc_iadd X dL_law_175 ?_
      obtain ⟨c199, h⟩ := h
      obtain ⟨c200, h⟩ := h
      refine rc_ishr X dL_law_176 c199 c200 ?_
      refine rc_iconst X dL_law_177 ?_
      obtain ⟨c201, h⟩ := h
      refine rc_irem X dL_law_178 c201 ⟨by decide, by decide⟩ ?_
      refine rc_iadd X dL_law_179 ?_
      refine rc_cSI (rest := []) X (mL_splices T1 T2 h) gL_law_L_splices rfl ⟨rfl, rfl⟩ dyL_splices ⟨Nat.le_of_ble_eq_true rfl, Nat.le_of_ble_eq_true rfl⟩ rfl rfl (Nat.le_of_ble_eq_true rfl) dL_law_180 (lw_cz hc) (fun r203 I202 h => ?_)
      obtain ⟨c204, h⟩ := h
      obtain ⟨c205, h⟩ := h
      refine rc_if_eq X 190 dL_law_183 (by decide) c204 (fun q => absurd q c205) (fun _ => ?_)
      refine rc_subl [(0, .ref b), (1, .ref x), (2, .ref (x + 88)), (3, .ref (x + 89)), (4, .int (rc_o x4)), (5, .int (rc_o x5)), (7, .int (rc_o x7)), (8, .int (rc_o x8)), (9, .int (rc_o x9))] [0, 1, 2, 3, 4, 5, 7, 8, 9] rfl ?_
      exact gL_law_186 X S hO hAA hend hc T1 T2 T3 hk81 hk123  h
noncomputable def rL_law_123 (xs : Nat → Int32) (L : Nat) (x : Nat) (k81 : rc_G → Nat → Int → Int → Int → Int → rc_M → Prop) (n : Nat) : rc_G → Nat → Int → Int → Int → Int → Int → Int → rc_M → Prop :=
  Nat.rec (motive := fun _ => rc_G → Nat → Int → Int → Int → Int → Int → Int → rc_M → Prop) (fun _ _ _ _ _ _ _ _ _ => False) (fun _ ih G cl => wL_law_123 G cl xs L x k81 ih) n
set_option maxRecDepth 100000 in
set_option maxHeartbeats 4000000 in
theorem sL_law_123 {p : Program} {l : Launch} {e : Env} {s : State} {m : MethodId} {args : Array Value} {below : List Frame} {meth : Method} {c : Code} {cells slots : Nat} {Q : State → Prop} {G : rc_G} {A : Nat → Prop} {I : rc_M} {b L x cl : Nat} {xs : Nat → Int32} {k81 : rc_G → Nat → Int → Int → Int → Int → rc_M → Prop} {n : Nat} {x4 : Int} {x5 : Int} {x6 : Int} {x7 : Int} {x8 : Int} {x9 : Int} (X : rc_X p s m args meth c cL_law 10 wsL_law RL G A) (S : rl_S b L xs A s) (hO : rk_O s) (hAA : ∀ q, s.heap.size ≤ q → A q) (hend : lw_end p l e s m args below meth c Q A) (hc : cl ≤ 100 ∧ cells ≤ 1000 + 41 * cl ∧ slots ≤ 2000 + 237 * cl) (T1 : kX7 G x) (T2 : rc_is G (x + 88) (rc_sI G 56)) (T3 : rc_is G (x + 89) (rc_sI G 8)) (hk81 : ∀ (G : rc_G) (cl : Nat) (x4 : Int) (x5 : Int) (x6 : Int) (x7 : Int) (J : rc_M) (cells slots : Nat), rc_X p s m args meth c cL_law 10 wsL_law RL G A → kX7 G x → rc_is G (x + 88) (rc_sI G 56) → rc_is G (x + 89) (rc_sI G 8) → (cl ≤ 100 ∧ cells ≤ 1000 + 41 * cl ∧ slots ≤ 2000 + 237 * cl) → k81 G cl x4 x5 x6 x7 J → rc_g p l e room_1 s m args below meth c cells slots Q 10 G A 81 [(0, .ref b), (1, .ref x), (2, .ref (x + 88)), (3, .ref (x + 89)), (4, .int (rc_o x4)), (5, .int (rc_o x5)), (6, .int (rc_o x6)), (7, .int (rc_o x7))] [] J) (h : rL_law_123 xs L x k81 n G cl x4 x5 x6 x7 x8 x9 I) : rc_g p l e room_1 s m args below meth c cells slots Q 10 G A 123 [(0, .ref b), (1, .ref x), (2, .ref (x + 88)), (3, .ref (x + 89)), (4, .int (rc_o x4)), (5, .int (rc_o x5)), (6, .int (rc_o x6)), (7, .int (rc_o x7)), (8, .int (rc_o x8)), (9, .int (rc_o x9))] [] I := by
  induction n generalizing G cl cells slots x4 x5 x6 x7 x8 x9 I with
  | zero => exact h.elim
  | succ n ih => exact gL_law_123 (k123 := rL_law_123 xs L x k81 n) X S hO hAA hend hc T1 T2 T3 hk81 (fun G cl x4 x5 x6 x7 x8 x9 J cells slots X T1 T2 T3 hc h2 => ih X hc T1 T2 T3 h2) h
def wL_law_81 (G : rc_G) (cl : Nat) (xs : Nat → Int32) (L : Nat) (x : Nat) (k81 : rc_G → Nat → Int → Int → Int → Int → rc_M → Prop) (x4 : Int) (x5 : Int) (x6 : Int) (x7 : Int) (I : rc_M) : Prop :=
  rc_R x7 ∧ (rc_R x5 ∧ ((x5 ≤ x7 → ∃ n, rL_law_208 xs L x  n G cl x4 x5 x6 0 I) ∧ (¬ x5 ≤ x7 → rc_R x6 ∧ ((¬ x6 = 0) ∧ (((0 : Int) ≤ (1 + x7) ∧ ((1 + x7) : Int) ≤ 100) ∧ ((0 ≤ (tC xs L (1 + x7)) ∧ (tC xs L (1 + x7)) < 2147483648) ∧ (wL_makes G x (x + 88) x7 (100 + ((tC xs L (1 + x7)) % 90)) I (fun r186 I185 => ∃ n, rL_law_123 xs L x k81 n G cl x4 x5 r186 x7 (tC xs L (1 + x7)) 0 I185))))))))
set_option maxRecDepth 100000 in
set_option maxHeartbeats 4000000 in
theorem gL_law_81 {p : Program} {l : Launch} {e : Env} {s : State} {m : MethodId} {args : Array Value} {below : List Frame} {meth : Method} {c : Code} {cells slots : Nat} {Q : State → Prop} {G : rc_G} {A : Nat → Prop} {I : rc_M} {b L x cl : Nat} {xs : Nat → Int32} {k81 : rc_G → Nat → Int → Int → Int → Int → rc_M → Prop} {x4 : Int} {x5 : Int} {x6 : Int} {x7 : Int} (X : rc_X p s m args meth c cL_law 10 wsL_law RL G A) (S : rl_S b L xs A s) (hO : rk_O s) (hAA : ∀ q, s.heap.size ≤ q → A q) (hend : lw_end p l e s m args below meth c Q A) (hc : cl ≤ 100 ∧ cells ≤ 1000 + 41 * cl ∧ slots ≤ 2000 + 237 * cl) (T1 : kX7 G x) (T2 : rc_is G (x + 88) (rc_sI G 56)) (T3 : rc_is G (x + 89) (rc_sI G 8)) (hk81 : ∀ (G : rc_G) (cl : Nat) (x4 : Int) (x5 : Int) (x6 : Int) (x7 : Int) (J : rc_M) (cells slots : Nat), rc_X p s m args meth c cL_law 10 wsL_law RL G A → kX7 G x → rc_is G (x + 88) (rc_sI G 56) → rc_is G (x + 89) (rc_sI G 8) → (cl ≤ 100 ∧ cells ≤ 1000 + 41 * cl ∧ slots ≤ 2000 + 237 * cl) → k81 G cl x4 x5 x6 x7 J → rc_g p l e room_1 s m args below meth c cells slots Q 10 G A 81 [(0, .ref b), (1, .ref x), (2, .ref (x + 88)), (3, .ref (x + 89)), (4, .int (rc_o x4)), (5, .int (rc_o x5)), (6, .int (rc_o x6)), (7, .int (rc_o x7))] [] J)  (h : wL_law_81 G cl xs L x k81 x4 x5 x6 x7 I) : rc_g p l e room_1 s m args below meth c cells slots Q 10 G A 81 [(0, .ref b), (1, .ref x), (2, .ref (x + 88)), (3, .ref (x + 89)), (4, .int (rc_o x4)), (5, .int (rc_o x5)), (6, .int (rc_o x6)), (7, .int (rc_o x7))] [] I := by
  unfold wL_law_81 at h
  refine rc_iload X dL_law_81 7 rfl ?_
  refine rc_iload X dL_law_83 5 rfl ?_
  obtain ⟨c20, h⟩ := h
  obtain ⟨c21, h⟩ := h
  refine rc_ic_ge X 205 dL_law_85 (by decide) c20 c21 (fun c22 => ?_) (fun c22 => ?_)
  · have h := h.1 c22
    refine rc_iconst X dL_law_205 ?_
    refine rc_istore X [(7, .int (rc_o 0)), (0, .ref b), (1, .ref x), (2, .ref (x + 88)), (3, .ref (x + 89)), (4, .int (rc_o x4)), (5, .int (rc_o x5)), (6, .int (rc_o x6))] dL_law_206 (by decide) rfl ?_
    refine rc_subl [(0, .ref b), (1, .ref x), (3, .ref (x + 89)), (4, .int (rc_o x4)), (5, .int (rc_o x5)), (6, .int (rc_o x6)), (7, .int (rc_o 0))] [1, 2, 4, 5, 6, 7, 0] rfl ?_
    obtain ⟨n, h⟩ := h
    exact sL_law_208 X S hO hAA hend hc T1 T2 T3  h
  · have h := h.2 c22
    refine rc_iload X dL_law_88 6 rfl ?_
    obtain ⟨c181, h⟩ := h
    obtain ⟨c182, h⟩ := h
    refine rc_if_eq X 205 dL_law_90 (by decide) c181 (fun q => absurd q c182) (fun _ => ?_)
    refine rc_aload_n X dL_law_93 rfl 0 rfl ?_
    refine rc_iconst X dL_law_94 ?_
    refine rc_iload X dL_law_95 7 rfl ?_
    refine rc_iadd X dL_law_97 ?_
    obtain ⟨c183, h⟩ := h
    refine rl_cCell (rest := []) X S c183 (Nat.le_of_ble_eq_true rfl) dL_law_98 (lw_cz hc) ?_
    refine rc_istore X [(8, .int (rc_o (tC xs L (1 + x7)))), (0, .ref b), (1, .ref x), (2, .ref (x + 88)), (3, .ref (x + 89)), (4, .int (rc_o x4)), (5, .int (rc_o x5)), (6, .int (rc_o x6)), (7, .int (rc_o x7))] dL_law_101 (by decide) rfl ?_
    refine rc_aload_n X dL_law_103 rfl 2 rfl ?_
    refine rc_aload_n X dL_law_104 rfl 3 rfl ?_
    refine rc_iload X dL_law_105 8 rfl ?_
    refine rc_bipush X dL_law_107 (rc_b8 _ ⟨by decide, by decide⟩) ?_
    refine rc_iload X dL_law_109 0 rfl ?_
    refine rc_bipush X dL_law_111 (rc_b8 _ ⟨by decide, by decide⟩) ?_
    obtain ⟨c184, h⟩ := h
    refine rc_irem X dL_law_113 c184 ⟨by decide, by decide⟩ ?_
    refine rc_iadd X dL_law_114 ?_
    refine rc_cSI (rest := []) X (mL_makes T1 T2 h) gL_law_L_makes rfl ⟨rfl, rfl⟩ dyL_makes ⟨Nat.le_of_ble_eq_true rfl, Nat.le_of_ble_eq_true rfl⟩ rfl rfl (Nat.le_of_ble_eq_true rfl) dL_law_115 (lw_cz hc) (fun r186 I185 h => ?_)
    refine rc_istore X [(6, .int (rc_o r186)), (8, .int (rc_o (tC xs L (1 + x7)))), (0, .ref b), (1, .ref x), (2, .ref (x + 88)), (3, .ref (x + 89)), (4, .int (rc_o x4)), (5, .int (rc_o x5)), (7, .int (rc_o x7))] dL_law_118 (by decide) rfl ?_
    refine rc_iconst X dL_law_120 ?_
    refine rc_istore X [(9, .int (rc_o 0)), (6, .int (rc_o r186)), (8, .int (rc_o (tC xs L (1 + x7)))), (0, .ref b), (1, .ref x), (2, .ref (x + 88)), (3, .ref (x + 89)), (4, .int (rc_o x4)), (5, .int (rc_o x5)), (7, .int (rc_o x7))] dL_law_121 (by decide) rfl ?_
    refine rc_subl [(0, .ref b), (1, .ref x), (2, .ref (x + 88)), (3, .ref (x + 89)), (4, .int (rc_o x4)), (5, .int (rc_o x5)), (6, .int (rc_o r186)), (7, .int (rc_o x7)), (8, .int (rc_o (tC xs L (1 + x7)))), (9, .int (rc_o 0))] [3, 4, 5, 6, 7, 8, 1, 9, 2, 0] rfl ?_
    obtain ⟨n, h⟩ := h
    exact sL_law_123 X S hO hAA hend hc T1 T2 T3 hk81 h
noncomputable def rL_law_81 (xs : Nat → Int32) (L : Nat) (x : Nat)  (n : Nat) : rc_G → Nat → Int → Int → Int → Int → rc_M → Prop :=
  Nat.rec (motive := fun _ => rc_G → Nat → Int → Int → Int → Int → rc_M → Prop) (fun _ _ _ _ _ _ _ => False) (fun _ ih G cl => wL_law_81 G cl xs L x  ih) n
set_option maxRecDepth 100000 in
set_option maxHeartbeats 4000000 in
theorem sL_law_81 {p : Program} {l : Launch} {e : Env} {s : State} {m : MethodId} {args : Array Value} {below : List Frame} {meth : Method} {c : Code} {cells slots : Nat} {Q : State → Prop} {G : rc_G} {A : Nat → Prop} {I : rc_M} {b L x cl : Nat} {xs : Nat → Int32}  {n : Nat} {x4 : Int} {x5 : Int} {x6 : Int} {x7 : Int} (X : rc_X p s m args meth c cL_law 10 wsL_law RL G A) (S : rl_S b L xs A s) (hO : rk_O s) (hAA : ∀ q, s.heap.size ≤ q → A q) (hend : lw_end p l e s m args below meth c Q A) (hc : cl ≤ 100 ∧ cells ≤ 1000 + 41 * cl ∧ slots ≤ 2000 + 237 * cl) (T1 : kX7 G x) (T2 : rc_is G (x + 88) (rc_sI G 56)) (T3 : rc_is G (x + 89) (rc_sI G 8))  (h : rL_law_81 xs L x  n G cl x4 x5 x6 x7 I) : rc_g p l e room_1 s m args below meth c cells slots Q 10 G A 81 [(0, .ref b), (1, .ref x), (2, .ref (x + 88)), (3, .ref (x + 89)), (4, .int (rc_o x4)), (5, .int (rc_o x5)), (6, .int (rc_o x6)), (7, .int (rc_o x7))] [] I := by
  induction n generalizing G cl cells slots x4 x5 x6 x7 I with
  | zero => exact h.elim
  | succ n ih => exact gL_law_81 (k81 := rL_law_81 xs L x  n) X S hO hAA hend hc T1 T2 T3  (fun G cl x4 x5 x6 x7 J cells slots X T1 T2 T3 hc h2 => ih X hc T1 T2 T3 h2) h
def wL_law_18 (G : rc_G) (cl : Nat) (xs : Nat → Int32) (L : Nat) (x : Nat)   (I : rc_M) : Prop :=
  wL_first G (x + 89) I (fun I1 => ((0 : Int) ≤ 0 ∧ (0 : Int) ≤ 100) ∧ ((0 ≤ (tC xs L 0) ∧ (tC xs L 0) < 2147483648) ∧ (wX7_restore G x 1 I1 (fun r5 I4 => rc_R r5 ∧ ((r5 = (-100003)) ∧ (wX7_tell G x 0 I4 (fun r9 I8 => rc_R r9 ∧ ((r9 = 0) ∧ (wX7_faultPosition G x I8 (fun r13 I12 => rc_R r13 ∧ ((r13 = 0) ∧ (wX7_begin G x I12 (fun r17 I16 => rc_R r17 ∧ ((r17 = (-100003)) ∧ (∃ n, rL_law_81 xs L x  n G cl (tC xs L 0) (1 + ((tC xs L 0) % 4)) 1 0 I16)))))))))))))))
set_option maxRecDepth 100000 in
set_option maxHeartbeats 4000000 in
theorem gL_law_18 {p : Program} {l : Launch} {e : Env} {s : State} {m : MethodId} {args : Array Value} {below : List Frame} {meth : Method} {c : Code} {cells slots : Nat} {Q : State → Prop} {G : rc_G} {A : Nat → Prop} {I : rc_M} {b L x cl : Nat} {xs : Nat → Int32}   (X : rc_X p s m args meth c cL_law 10 wsL_law RL G A) (S : rl_S b L xs A s) (hO : rk_O s) (hAA : ∀ q, s.heap.size ≤ q → A q) (hend : lw_end p l e s m args below meth c Q A) (hc : cl ≤ 100 ∧ cells ≤ 1000 + 41 * cl ∧ slots ≤ 2000 + 237 * cl) (T1 : kX7 G x) (T2 : rc_is G (x + 88) (rc_sI G 56)) (T3 : rc_is G (x + 89) (rc_sI G 8))   (h : wL_law_18 G cl xs L x   I) : rc_g p l e room_1 s m args below meth c cells slots Q 10 G A 18 [(0, .ref b), (1, .ref x), (2, .ref (x + 88)), (3, .ref (x + 89))] [] I := by
  unfold wL_law_18 at h
  refine rc_aload_n X dL_law_18 rfl 3 rfl ?_
  refine rc_cSV (rest := []) X (mL_first T3 h) gL_law_L_first rfl ⟨rfl, rfl⟩ dyL_first ⟨Nat.le_of_ble_eq_true rfl, Nat.le_of_ble_eq_true rfl⟩ rfl rfl (Nat.le_of_ble_eq_true rfl) dL_law_19 (lw_cz hc) (fun I1 h => ?_)
  refine rc_aload_n X dL_law_22 rfl 0 rfl ?_
  refine rc_iconst X dL_law_23 ?_
  obtain ⟨c2, h⟩ := h
  refine rl_cCell (rest := []) X S c2 (Nat.le_of_ble_eq_true rfl) dL_law_24 (lw_cz hc) ?_
  refine rc_istore X [(4, .int (rc_o (tC xs L 0))), (0, .ref b), (1, .ref x), (2, .ref (x + 88)), (3, .ref (x + 89))] dL_law_27 (by decide) rfl ?_
  refine rc_iconst X dL_law_29 ?_
  refine rc_iload X dL_law_30 0 rfl ?_
  refine rc_iconst X dL_law_32 ?_
  obtain ⟨c3, h⟩ := h
  refine rc_irem X dL_law_33 c3 ⟨by decide, by decide⟩ ?_
  refine rc_iadd X dL_law_34 ?_
  refine rc_istore X [(5, .int (rc_o (1 + ((tC xs L 0) % 4)))), (4, .int (rc_o (tC xs L 0))), (0, .ref b), (1, .ref x), (2, .ref (x + 88)), (3, .ref (x + 89))] dL_law_35 (by decide) rfl ?_
  refine rc_aload_n X dL_law_37 rfl 3 rfl ?_
  refine rc_iconst X dL_law_38 ?_
  refine rc_cVI (rest := []) X (mX7_restore T1 h) gL_law_X7_restore rfl ⟨rfl, rfl⟩ dyX7_restore ⟨Nat.le_of_ble_eq_true rfl, Nat.le_of_ble_eq_true rfl⟩ (rc_recv X T1.1 rfl) rfl rfl (Nat.le_of_ble_eq_true rfl) dL_law_39 (lw_cz hc) (fun r5 I4 h => ?_)
  refine rc_ldc (n := (-100003)) X qL_law_4 (by decide +kernel) dL_law_42 ?_
  obtain ⟨c6, h⟩ := h
  obtain ⟨c7, h⟩ := h
  refine rc_ic_ne X 75 dL_law_44 (by decide) c6 ⟨by decide, by decide⟩ (fun q => absurd c7 q) (fun _ => ?_)
  refine rc_aload_n X dL_law_47 rfl 3 rfl ?_
  refine rc_iconst X dL_law_48 ?_
  refine rc_cVI (rest := []) X (mX7_tell T1 h) gL_law_X7_tell rfl ⟨rfl, rfl⟩ dyX7_tell ⟨Nat.le_of_ble_eq_true rfl, Nat.le_of_ble_eq_true rfl⟩ (rc_recv X T1.1 rfl) rfl rfl (Nat.le_of_ble_eq_true rfl) dL_law_49 (lw_cz hc) (fun r9 I8 h => ?_)
  obtain ⟨c10, h⟩ := h
  obtain ⟨c11, h⟩ := h
  refine rc_if_ne X 75 dL_law_52 (by decide) c10 (fun q => absurd c11 q) (fun _ => ?_)
  refine rc_aload_n X dL_law_55 rfl 3 rfl ?_
  refine rc_cVI (rest := []) X (mX7_faultPosition T1 h) gL_law_X7_faultPosition rfl ⟨rfl, rfl⟩ dyX7_faultPosition ⟨Nat.le_of_ble_eq_true rfl, Nat.le_of_ble_eq_true rfl⟩ (rc_recv X T1.1 rfl) rfl rfl (Nat.le_of_ble_eq_true rfl) dL_law_56 (lw_cz hc) (fun r13 I12 h => ?_)
  obtain ⟨c14, h⟩ := h
  obtain ⟨c15, h⟩ := h
  refine rc_if_ne X 75 dL_law_59 (by decide) c14 (fun q => absurd c15 q) (fun _ => ?_)
  refine rc_aload_n X dL_law_62 rfl 3 rfl ?_
  refine rc_cVI (rest := []) X (mX7_begin T1 h) gL_law_X7_begin rfl ⟨rfl, rfl⟩ dyX7_begin ⟨Nat.le_of_ble_eq_true rfl, Nat.le_of_ble_eq_true rfl⟩ (rc_recv X T1.1 rfl) rfl rfl (Nat.le_of_ble_eq_true rfl) dL_law_63 (lw_cz hc) (fun r17 I16 h => ?_)
  refine rc_ldc (n := (-100003)) X qL_law_4 (by decide +kernel) dL_law_66 ?_
  obtain ⟨c18, h⟩ := h
  obtain ⟨c19, h⟩ := h
  refine rc_ic_ne X 75 dL_law_68 (by decide) c18 ⟨by decide, by decide⟩ (fun q => absurd c19 q) (fun _ => ?_)
  refine rc_iconst X dL_law_71 ?_
  refine rc_goto X 76 dL_law_72 (by decide) ?_
  refine rc_istore X [(6, .int (rc_o 1)), (5, .int (rc_o (1 + ((tC xs L 0) % 4)))), (4, .int (rc_o (tC xs L 0))), (0, .ref b), (1, .ref x), (2, .ref (x + 88)), (3, .ref (x + 89))] dL_law_76 (by decide) rfl ?_
  refine rc_iconst X dL_law_78 ?_
  refine rc_istore X [(7, .int (rc_o 0)), (6, .int (rc_o 1)), (5, .int (rc_o (1 + ((tC xs L 0) % 4)))), (4, .int (rc_o (tC xs L 0))), (0, .ref b), (1, .ref x), (2, .ref (x + 88)), (3, .ref (x + 89))] dL_law_79 (by decide) rfl ?_
  refine rc_subl [(0, .ref b), (1, .ref x), (2, .ref (x + 88)), (3, .ref (x + 89)), (4, .int (rc_o (tC xs L 0))), (5, .int (rc_o (1 + ((tC xs L 0) % 4)))), (6, .int (rc_o 1)), (7, .int (rc_o 0))] [4, 5, 6, 7, 3, 2, 1, 0] rfl ?_
  obtain ⟨n, h⟩ := h
  exact sL_law_81 X S hO hAA hend hc T1 T2 T3  h
