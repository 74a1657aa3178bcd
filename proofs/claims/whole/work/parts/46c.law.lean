def wL_19 (xs : Nat → Int32) (x y : Nat) (i : Int) (k : rc_G → rc_M → Prop) (G : rc_G) (I : rc_M) : Prop :=
  wX7_save G x (rl_sx xs (i + 1)) I (fun r1 G1 I1 => wX8_save G1 y (rl_sx xs (i + 1)) I1 (fun r2 I2 => r1 = r2 ∧ k G1 I2))
set_option maxRecDepth 100000 in
set_option maxHeartbeats 4000000 in
theorem gL_19 {p : Program} {l : Launch} {e : Env} {s : State} {m : MethodId} {args : Array Value} {below : List Frame} {meth : Method} {c : Code} {cells slots : Nat} {Q : State → Prop} {G : rc_G} {A : Nat → Prop} {I : rc_M} {b L x y : Nat} {xs : Nat → Int32} {i : Int} (X : rc_X p s m args meth c cL_law 4 wsL_law RL G A) (S : rl_S b L xs A s) (hi : 0 ≤ i ∧ i + 4 ≤ L) (T7 : kX7 G x) (T8 : kX8 G y) (hO : rk_O s) (hAA : ∀ q, s.heap.size ≤ q → A q) (hcs2 : cells + 41 ≤ room_1.cells ∧ slots + 237 ≤ room_1.slots) {k : rc_G → rc_M → Prop} (hk : ∀ (G1 : rc_G) (J : rc_M), rs_le G G1 → rc_X p s m args meth c cL_law 4 wsL_law RL G1 A → k G1 J → rc_g p l e room_1 s m args below meth c (cells + 41) (slots + 237) Q 4 G1 A 699 (rl_lv i b x y) [] J) (h : wL_19 xs x y i k G I) : rc_g p l e room_1 s m args below meth c cells slots Q 4 G A 639 (rl_lv i b x y) [] I := by
  unfold wL_19 at h
  have hcs3 := hcs2
  refine rc_aload_n X dL_law_639 rfl 2 rfl ?_
  refine rc_aload_n X dL_law_640 rfl 1 rfl ?_
  refine rc_iload_n X dL_law_641 rfl 0 rfl ?_
  refine rc_iconst X dL_law_642 ?_
  refine rc_iadd X dL_law_643 ?_
  refine rl_sld X S dL_law_644 (by omega) ?_
  refine rl_cSave (rest := []) X hO hAA (mX7_save T7 h) gL_law_X7_save ⟨Nat.le_of_ble_eq_true rfl, Nat.le_of_ble_eq_true rfl⟩ (rc_recv X T7.1 rfl) (Nat.le_of_ble_eq_true rfl) dL_law_645 hcs2 (fun r1 G1 I1 h hle X1 => ?_)
  have T8 := kX8_le hle T8
  have T7 := kX7_le hle T7
  refine rc_aload_n X1 dL_law_648 rfl 3 rfl ?_
  refine rc_aload_n X1 dL_law_649 rfl 1 rfl ?_
  refine rc_iload_n X1 dL_law_650 rfl 0 rfl ?_
  refine rc_iconst X1 dL_law_651 ?_
  refine rc_iadd X1 dL_law_652 ?_
  refine rl_sld X1 S dL_law_653 (by omega) ?_
  refine rc_cVI (rest := [.int (rc_o r1)]) X1 (mX8_save T8 h) gL_law_X8_save rfl ⟨rfl, rfl⟩ dyX8_save ⟨Nat.le_of_ble_eq_true rfl, Nat.le_of_ble_eq_true rfl⟩ (rc_recv X1 T8.1 rfl) rfl rfl (Nat.le_of_ble_eq_true rfl) dL_law_654 hcs3 (fun r2 I2 h => ?_)
  refine rl_eq X1 699 dL_law_657 (by decide) h.1 ?_
  exact hk _ _ hle X1 h.2
def wL_20 (xs : Nat → Int32) (x y : Nat) (i : Int) (k : rc_M → Prop) (G : rc_G) (I : rc_M) : Prop :=
  wX7_restore G x (rl_sx xs (i + 1)) I (fun r1 I1 => wX8_restore G y (rl_sx xs (i + 1)) I1 (fun r2 I2 => r1 = r2 ∧ k I2))
set_option maxRecDepth 100000 in
set_option maxHeartbeats 4000000 in
theorem gL_20 {p : Program} {l : Launch} {e : Env} {s : State} {m : MethodId} {args : Array Value} {below : List Frame} {meth : Method} {c : Code} {cells slots : Nat} {Q : State → Prop} {G : rc_G} {A : Nat → Prop} {I : rc_M} {b L x y : Nat} {xs : Nat → Int32} {i : Int} (X : rc_X p s m args meth c cL_law 4 wsL_law RL G A) (S : rl_S b L xs A s) (hi : 0 ≤ i ∧ i + 4 ≤ L) (T7 : kX7 G x) (T8 : kX8 G y) (hc : cells ≤ room_1.cells ∧ slots ≤ room_1.slots) {k : rc_M → Prop} (hk : ∀ J : rc_M, k J → rc_g p l e room_1 s m args below meth c cells slots Q 4 G A 699 (rl_lv i b x y) [] J) (h : wL_20 xs x y i k G I) : rc_g p l e room_1 s m args below meth c cells slots Q 4 G A 662 (rl_lv i b x y) [] I := by
  unfold wL_20 at h
  refine rc_aload_n X dL_law_662 rfl 2 rfl ?_
  refine rc_aload_n X dL_law_663 rfl 1 rfl ?_
  refine rc_iload_n X dL_law_664 rfl 0 rfl ?_
  refine rc_iconst X dL_law_665 ?_
  refine rc_iadd X dL_law_666 ?_
  refine rl_sld X S dL_law_667 (by omega) ?_
  refine rc_cVI (rest := []) X (mX7_restore T7 h) gL_law_X7_restore rfl ⟨rfl, rfl⟩ dyX7_restore ⟨Nat.le_of_ble_eq_true rfl, Nat.le_of_ble_eq_true rfl⟩ (rc_recv X T7.1 rfl) rfl rfl (Nat.le_of_ble_eq_true rfl) dL_law_668 hc (fun r1 I1 h => ?_)
  refine rc_aload_n X dL_law_671 rfl 3 rfl ?_
  refine rc_aload_n X dL_law_672 rfl 1 rfl ?_
  refine rc_iload_n X dL_law_673 rfl 0 rfl ?_
  refine rc_iconst X dL_law_674 ?_
  refine rc_iadd X dL_law_675 ?_
  refine rl_sld X S dL_law_676 (by omega) ?_
  refine rc_cVI (rest := [.int (rc_o r1)]) X (mX8_restore T8 h) gL_law_X8_restore rfl ⟨rfl, rfl⟩ dyX8_restore ⟨Nat.le_of_ble_eq_true rfl, Nat.le_of_ble_eq_true rfl⟩ (rc_recv X T8.1 rfl) rfl rfl (Nat.le_of_ble_eq_true rfl) dL_law_677 hc (fun r2 I2 h => ?_)
  refine rl_eq X 699 dL_law_680 (by decide) h.1 ?_
  exact hk  _ h.2
def wL_21 (xs : Nat → Int32) (x y : Nat) (i : Int) (k : rc_M → Prop) (G : rc_G) (I : rc_M) : Prop :=
  wX7_checksum G x I (fun r1 I1 => wX8_checksum G y I1 (fun r2 I2 => r1 = r2 ∧ k I2))
set_option maxRecDepth 100000 in
set_option maxHeartbeats 4000000 in
theorem gL_21 {p : Program} {l : Launch} {e : Env} {s : State} {m : MethodId} {args : Array Value} {below : List Frame} {meth : Method} {c : Code} {cells slots : Nat} {Q : State → Prop} {G : rc_G} {A : Nat → Prop} {I : rc_M} {b L x y : Nat} {xs : Nat → Int32} {i : Int} (X : rc_X p s m args meth c cL_law 4 wsL_law RL G A) (S : rl_S b L xs A s) (hi : 0 ≤ i ∧ i + 4 ≤ L) (T7 : kX7 G x) (T8 : kX8 G y) (hc : cells ≤ room_1.cells ∧ slots ≤ room_1.slots) {k : rc_M → Prop} (hk : ∀ J : rc_M, k J → rc_g p l e room_1 s m args below meth c cells slots Q 4 G A 699 (rl_lv i b x y) [] J) (h : wL_21 xs x y i k G I) : rc_g p l e room_1 s m args below meth c cells slots Q 4 G A 685 (rl_lv i b x y) [] I := by
  unfold wL_21 at h
  refine rc_aload_n X dL_law_685 rfl 2 rfl ?_
  refine rc_cVL (rest := []) X (mX7_checksum T7 h) gL_law_X7_checksum rfl ⟨rfl, rfl⟩ dyX7_checksum ⟨Nat.le_of_ble_eq_true rfl, Nat.le_of_ble_eq_true rfl⟩ (rc_recv X T7.1 rfl) rfl rfl (Nat.le_of_ble_eq_true rfl) dL_law_686 hc (fun r1 I1 h => ?_)
  refine rc_aload_n X dL_law_689 rfl 3 rfl ?_
  refine rc_cVL (rest := [.long r1]) X (mX8_checksum T8 h) gL_law_X8_checksum rfl ⟨rfl, rfl⟩ dyX8_checksum ⟨Nat.le_of_ble_eq_true rfl, Nat.le_of_ble_eq_true rfl⟩ (rc_recv X T8.1 rfl) rfl rfl (Nat.le_of_ble_eq_true rfl) dL_law_690 hc (fun r2 I2 h => ?_)
  refine rl_leq X 699 dL_law_693 dL_law_694 (by decide) h.1 ?_
  exact hk _ h.2
