def wL_body (xs : Nat → Int32) (L x y : Nat) (k : Int → rc_G → rc_M → Prop) (i : Int) (G : rc_G) (I : rc_M) : Prop :=
  i + 4 ≤ L → (rl_sw xs i = 0 → wL_0 xs x y i (fun J => k (i + 4) G J) G I) ∧ (rl_sw xs i = 1 → wL_1 xs x y i (fun J => k (i + 4) G J) G I) ∧ (rl_sw xs i = 2 → wL_2 xs x y i (fun J => k (i + 4) G J) G I) ∧ (rl_sw xs i = 3 → wL_3 xs x y i (fun J => k (i + 4) G J) G I) ∧ (rl_sw xs i = 4 → wL_4 xs x y i (fun J => k (i + 4) G J) G I) ∧ (rl_sw xs i = 5 → wL_5 xs x y i (fun J => k (i + 4) G J) G I) ∧ (rl_sw xs i = 6 → wL_6 xs x y i (fun J => k (i + 4) G J) G I) ∧ (rl_sw xs i = 7 → wL_7 xs x y i (fun J => k (i + 4) G J) G I) ∧ (rl_sw xs i = 8 → wL_8 xs x y i (fun J => k (i + 4) G J) G I) ∧ (rl_sw xs i = 9 → wL_9 xs x y i (fun J => k (i + 4) G J) G I) ∧ (rl_sw xs i = 10 → wL_10 xs x y i (fun J => k (i + 4) G J) G I) ∧ (rl_sw xs i = 11 → wL_11 xs x y i (fun J => k (i + 4) G J) G I) ∧ (rl_sw xs i = 12 → wL_12 xs x y i (fun J => k (i + 4) G J) G I) ∧ (rl_sw xs i = 13 → wL_13 xs x y i (fun J => k (i + 4) G J) G I) ∧ (rl_sw xs i = 14 → wL_14 xs x y i (fun J => k (i + 4) G J) G I) ∧ (rl_sw xs i = 15 → wL_15 xs x y i (fun J => k (i + 4) G J) G I) ∧ (rl_sw xs i = 16 → wL_16 xs x y i (fun J => k (i + 4) G J) G I) ∧ (rl_sw xs i = 17 → wL_17 xs x y i (fun J => k (i + 4) G J) G I) ∧ (rl_sw xs i = 18 → wL_18 xs x y i (fun J => k (i + 4) G J) G I) ∧ (rl_sw xs i = 19 → wL_19 xs x y i (fun G1 J => k (i + 4) G1 J) G I) ∧ (rl_sw xs i = 20 → wL_20 xs x y i (fun J => k (i + 4) G J) G I) ∧ (rl_sw xs i = 21 → wL_21 xs x y i (fun J => k (i + 4) G J) G I) ∧ ((rl_sw xs i < 0 ∨ 21 < rl_sw xs i) → k (i + 4) G I)
noncomputable def wL_loop (xs : Nat → Int32) (L x y : Nat) (n : Nat) : Int → rc_G → rc_M → Prop :=
  Nat.rec (motive := fun _ => Int → rc_G → rc_M → Prop) (fun _ _ _ => False) (fun _ ih => wL_body xs L x y ih) n
set_option maxRecDepth 100000 in
set_option maxHeartbeats 4000000 in
theorem gL_body {p : Program} {l : Launch} {e : Env} {s : State} {m : MethodId} {args : Array Value} {below : List Frame} {meth : Method} {c : Code} {cells slots : Nat} {Q : State → Prop} {G : rc_G} {A : Nat → Prop} {I : rc_M} {b L x y : Nat} {xs : Nat → Int32} {i : Int} (X : rc_X p s m args meth c cL_law 4 wsL_law RL G A) (S : rl_S b L xs A s) (hO : rk_O s) (hAA : ∀ q, s.heap.size ≤ q → A q) (hi0 : 0 ≤ i) (hi9 : i ≤ 2052) (T7 : kX7 G x) (T8 : kX8 G y) (hc1 : cells ≤ 1000 + 41 * i.toNat) (hc2 : slots ≤ 2000 + 237 * i.toNat) {k : Int → rc_G → rc_M → Prop}
    (hkk : ∀ (i : Int) (G : rc_G) (I : rc_M) (cells slots : Nat), rc_X p s m args meth c cL_law 4 wsL_law RL G A → kX7 G x → kX8 G y → (0 ≤ i ∧ i ≤ 2052) → cells ≤ 1000 + 41 * i.toNat → slots ≤ 2000 + 237 * i.toNat → k i G I → rc_g p l e room_1 s m args below meth c cells slots Q 4 G A 18 (rl_lv i b x y) [] I)
    (hend2 : ∀ (G : rc_G) (I : rc_M) (cells slots : Nat), rc_X p s m args meth c cL_law 4 wsL_law RL G A → cells ≤ 100000 → slots ≤ 1000000 → rc_g p l e room_1 s m args below meth c cells slots Q 4 G A 705 (rl_lv i b x y) [] I)
    (h : wL_body xs L x y k i G I) : rc_g p l e room_1 s m args below meth c cells slots Q 4 G A 18 (rl_lv i b x y) [] I := by
  have hL := S.2.2.2
  refine rc_iload_n X dL_law_18 rfl 0 rfl ?_
  refine rc_aload_n X dL_law_19 rfl 1 rfl ?_
  refine rl_slen X S dL_law_20 ?_
  refine rc_iconst X dL_law_21 ?_
  refine rc_isub X dL_law_22 ?_
  by_cases hend : i + 4 ≤ L
  · refine rc_ic_gt X 705 dL_law_23 (by decide) ⟨by omega, by omega⟩ ⟨by omega, by omega⟩ (fun q => absurd q (by omega)) (fun _ => ?_)
    have hi : 0 ≤ i ∧ i + 4 ≤ L := ⟨hi0, hend⟩
    have hcc : cells ≤ room_1.cells ∧ slots ≤ room_1.slots := ⟨Nat.le_trans (show cells ≤ 100000 by omega) (Nat.le_of_ble_eq_true rfl), Nat.le_trans (show slots ≤ 1000000 by omega) (Nat.le_of_ble_eq_true rfl)⟩
    have hcs2 : cells + 41 ≤ room_1.cells ∧ slots + 237 ≤ room_1.slots := ⟨Nat.le_trans (show cells + 41 ≤ 100000 by omega) (Nat.le_of_ble_eq_true rfl), Nat.le_trans (show slots + 237 ≤ 1000000 by omega) (Nat.le_of_ble_eq_true rfl)⟩
    have hk : ∀ J : rc_M, k (i + 4) G J → rc_g p l e room_1 s m args below meth c cells slots Q 4 G A 699 (rl_lv i b x y) [] J := fun J hj => by
      refine rc_iinc X (rl_lv (i + 4) b x y) dL_law_699 0 rfl (by decide) rfl ?_
      refine rc_goto X 18 dL_law_702 (by decide) ?_
      exact hkk _ G J cells slots X T7 T8 (by omega) (by omega) (by omega) hj
    have hk2 : ∀ (G1 : rc_G) (J : rc_M), rs_le G G1 → rc_X p s m args meth c cL_law 4 wsL_law RL G1 A → k (i + 4) G1 J → rc_g p l e room_1 s m args below meth c (cells + 41) (slots + 237) Q 4 G1 A 699 (rl_lv i b x y) [] J := fun G1 J hle X1 hj => by
      refine rc_iinc X1 (rl_lv (i + 4) b x y) dL_law_699 0 rfl (by decide) rfl ?_
      refine rc_goto X1 18 dL_law_702 (by decide) ?_
      exact hkk _ G1 J _ _ X1 (kX7_le hle T7) (kX8_le hle T8) (by omega) (by omega) (by omega) hj
    refine rc_aload_n X dL_law_26 rfl 1 rfl ?_
    refine rc_iload_n X dL_law_27 rfl 0 rfl ?_
    refine rl_sld X S dL_law_28 (by omega) ?_
    refine rc_bipush X dL_law_29 (rc_b8 _ ⟨by decide, by decide⟩) ?_
    refine rl_and X dL_law_31 ?_
    by_cases c0 : rl_sw xs i = 0
    · have h := (h hend).1 c0
      refine rc_tsAt X 136 0 dL_law_32 (rc_Rx _) c0 (by decide) (by decide) rfl (by decide) ?_
      exact gL_0 X S hi T7 T8 hcc hk h
    by_cases c1 : rl_sw xs i = 1
    · have h := (h hend).2.1 c1
      refine rc_tsAt X 159 1 dL_law_32 (rc_Rx _) c1 (by decide) (by decide) rfl (by decide) ?_
      exact gL_1 X S hi T7 T8 hcc hk h
    by_cases c2 : rl_sw xs i = 2
    · have h := (h hend).2.2.1 c2
      refine rc_tsAt X 202 2 dL_law_32 (rc_Rx _) c2 (by decide) (by decide) rfl (by decide) ?_
      exact gL_2 X S hi T7 T8 hcc hk h
    by_cases c3 : rl_sw xs i = 3
    · have h := (h hend).2.2.2.1 c3
      refine rc_tsAt X 235 3 dL_law_32 (rc_Rx _) c3 (by decide) (by decide) rfl (by decide) ?_
      exact gL_3 X S hi T7 T8 hcc hk h
    by_cases c4 : rl_sw xs i = 4
    · have h := (h hend).2.2.2.2.1 c4
      refine rc_tsAt X 268 4 dL_law_32 (rc_Rx _) c4 (by decide) (by decide) rfl (by decide) ?_
      exact gL_4 X S hi T7 T8 hcc hk h
    by_cases c5 : rl_sw xs i = 5
    · have h := (h hend).2.2.2.2.2.1 c5
      refine rc_tsAt X 327 5 dL_law_32 (rc_Rx _) c5 (by decide) (by decide) rfl (by decide) ?_
      exact gL_5 X S hi T7 T8 hcc hk h
    by_cases c6 : rl_sw xs i = 6
    · have h := (h hend).2.2.2.2.2.2.1 c6
      refine rc_tsAt X 360 6 dL_law_32 (rc_Rx _) c6 (by decide) (by decide) rfl (by decide) ?_
      exact gL_6 X S hi T7 T8 hcc hk h
    by_cases c7 : rl_sw xs i = 7
    · have h := (h hend).2.2.2.2.2.2.2.1 c7
      refine rc_tsAt X 383 7 dL_law_32 (rc_Rx _) c7 (by decide) (by decide) rfl (by decide) ?_
      exact gL_7 X S hi T7 T8 hcc hk h
    by_cases c8 : rl_sw xs i = 8
    · have h := (h hend).2.2.2.2.2.2.2.2.1 c8
      refine rc_tsAt X 396 8 dL_law_32 (rc_Rx _) c8 (by decide) (by decide) rfl (by decide) ?_
      exact gL_8 X S hi T7 T8 hcc hk h
    by_cases c9 : rl_sw xs i = 9
    · have h := (h hend).2.2.2.2.2.2.2.2.2.1 c9
      refine rc_tsAt X 409 9 dL_law_32 (rc_Rx _) c9 (by decide) (by decide) rfl (by decide) ?_
      exact gL_9 X S hi T7 T8 hcc hk h
    by_cases c10 : rl_sw xs i = 10
    · have h := (h hend).2.2.2.2.2.2.2.2.2.2.1 c10
      refine rc_tsAt X 422 10 dL_law_32 (rc_Rx _) c10 (by decide) (by decide) rfl (by decide) ?_
      exact gL_10 X S hi T7 T8 hcc hk h
    by_cases c11 : rl_sw xs i = 11
    · have h := (h hend).2.2.2.2.2.2.2.2.2.2.2.1 c11
      refine rc_tsAt X 435 11 dL_law_32 (rc_Rx _) c11 (by decide) (by decide) rfl (by decide) ?_
      exact gL_11 X S hi T7 T8 hcc hk h
    by_cases c12 : rl_sw xs i = 12
    · have h := (h hend).2.2.2.2.2.2.2.2.2.2.2.2.1 c12
      refine rc_tsAt X 458 12 dL_law_32 (rc_Rx _) c12 (by decide) (by decide) rfl (by decide) ?_
      exact gL_12 X S hi T7 T8 hcc hk h
    by_cases c13 : rl_sw xs i = 13
    · have h := (h hend).2.2.2.2.2.2.2.2.2.2.2.2.2.1 c13
      refine rc_tsAt X 471 13 dL_law_32 (rc_Rx _) c13 (by decide) (by decide) rfl (by decide) ?_
      exact gL_13 X S hi T7 T8 hcc hk h
    by_cases c14 : rl_sw xs i = 14
    · have h := (h hend).2.2.2.2.2.2.2.2.2.2.2.2.2.2.1 c14
      refine rc_tsAt X 494 14 dL_law_32 (rc_Rx _) c14 (by decide) (by decide) rfl (by decide) ?_
      exact gL_14 X S hi T7 T8 hcc hk h
    by_cases c15 : rl_sw xs i = 15
    · have h := (h hend).2.2.2.2.2.2.2.2.2.2.2.2.2.2.2.1 c15
      refine rc_tsAt X 517 15 dL_law_32 (rc_Rx _) c15 (by decide) (by decide) rfl (by decide) ?_
      exact gL_15 X S hi T7 T8 hcc hk h
    by_cases c16 : rl_sw xs i = 16
    · have h := (h hend).2.2.2.2.2.2.2.2.2.2.2.2.2.2.2.2.1 c16
      refine rc_tsAt X 550 16 dL_law_32 (rc_Rx _) c16 (by decide) (by decide) rfl (by decide) ?_
      exact gL_16 X S hi T7 T8 hcc hk h
    by_cases c17 : rl_sw xs i = 17
    · have h := (h hend).2.2.2.2.2.2.2.2.2.2.2.2.2.2.2.2.2.1 c17
      refine rc_tsAt X 583 17 dL_law_32 (rc_Rx _) c17 (by decide) (by decide) rfl (by decide) ?_
      exact gL_17 X S hi T7 T8 hcc hk h
    by_cases c18 : rl_sw xs i = 18
    · have h := (h hend).2.2.2.2.2.2.2.2.2.2.2.2.2.2.2.2.2.2.1 c18
      refine rc_tsAt X 606 18 dL_law_32 (rc_Rx _) c18 (by decide) (by decide) rfl (by decide) ?_
      exact gL_18 X S hi T7 T8 hcc hk h
    by_cases c19 : rl_sw xs i = 19
    · have h := (h hend).2.2.2.2.2.2.2.2.2.2.2.2.2.2.2.2.2.2.2.1 c19
      refine rc_tsAt X 639 19 dL_law_32 (rc_Rx _) c19 (by decide) (by decide) rfl (by decide) ?_
      exact gL_19 X S hi T7 T8 hO hAA hcs2 hk2 h
    by_cases c20 : rl_sw xs i = 20
    · have h := (h hend).2.2.2.2.2.2.2.2.2.2.2.2.2.2.2.2.2.2.2.2.1 c20
      refine rc_tsAt X 662 20 dL_law_32 (rc_Rx _) c20 (by decide) (by decide) rfl (by decide) ?_
      exact gL_20 X S hi T7 T8 hcc hk h
    by_cases c21 : rl_sw xs i = 21
    · have h := (h hend).2.2.2.2.2.2.2.2.2.2.2.2.2.2.2.2.2.2.2.2.2.1 c21
      refine rc_tsAt X 685 21 dL_law_32 (rc_Rx _) c21 (by decide) (by decide) rfl (by decide) ?_
      exact gL_21 X S hi T7 T8 hcc hk h
    have h := (h hend).2.2.2.2.2.2.2.2.2.2.2.2.2.2.2.2.2.2.2.2.2.2 (by omega)
    refine rc_tsOut X 699 dL_law_32 (rc_Rx _) (by omega) (by decide) ?_
    exact hk _ h
  · refine rc_ic_gt X 705 dL_law_23 (by decide) ⟨by omega, by omega⟩ ⟨by omega, by omega⟩ (fun _ => ?_) (fun q => absurd q (by omega))
    exact hend2 G I cells slots X (by omega) (by omega)
theorem gL_loop {p : Program} {l : Launch} {e : Env} {s : State} {m : MethodId} {args : Array Value} {below : List Frame} {meth : Method} {c : Code} {Q : State → Prop} {A : Nat → Prop} {b L x y : Nat} {xs : Nat → Int32} (S : rl_S b L xs A s) (hO : rk_O s) (hAA : ∀ q, s.heap.size ≤ q → A q)
    (hend2 : ∀ (i : Int) (G : rc_G) (I : rc_M) (cells slots : Nat), rc_X p s m args meth c cL_law 4 wsL_law RL G A → cells ≤ 100000 → slots ≤ 1000000 → rc_g p l e room_1 s m args below meth c cells slots Q 4 G A 705 (rl_lv i b x y) [] I) (n : Nat) :
    ∀ (i : Int) (G : rc_G) (I : rc_M) (cells slots : Nat), rc_X p s m args meth c cL_law 4 wsL_law RL G A → kX7 G x → kX8 G y → (0 ≤ i ∧ i ≤ 2052) → cells ≤ 1000 + 41 * i.toNat → slots ≤ 2000 + 237 * i.toNat → wL_loop xs L x y n i G I → rc_g p l e room_1 s m args below meth c cells slots Q 4 G A 18 (rl_lv i b x y) [] I := by
  induction n with
  | zero => exact fun _ _ _ _ _ _ _ _ _ _ _ h => h.elim
  | succ n ih => exact fun i G I cells slots X T7 T8 hi hc1 hc2 h => gL_body X S hO hAA hi.1 hi.2 T7 T8 hc1 hc2 ih (hend2 i) h
