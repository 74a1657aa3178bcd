/-! X5_open -/
abbrev rmX5_open : Room := { frames := 1, cells := 0, slots := 0, locals := 21 }
theorem dyX5_open : yX5_open.cls = RX5 ∧ yX5_open.cls ≠ "java/lang/invoke/MethodHandle" ∧ yX5_open.cls ≠ "java/lang/invoke/VarHandle" ∧ (parseMethodDescriptor yX5_open.desc).map (fun d => d.parameters.length) = some 1 := ⟨rfl, by decide +kernel, by decide +kernel, by decide +kernel⟩
theorem qX5_open_1 : Cond.fieldLink RX5 28 "ReelChanger$Show" "running" "Z" ∈ wsX5_open := List.mem_of_getElem? (i := 1) (by decide +kernel)
theorem nX5_open_X5 : ∀ w ∈ wsX50, w ∈ wsX5_open := fun w h => List.mem_cons_of_mem _ (List.mem_append_left _ (List.mem_append_left _ (List.mem_append_left _ (List.mem_append_right _ (h)))))
theorem qX5_open_2 : Cond.fieldLink RX5 32 "ReelChanger$Show" "time" "I" ∈ wsX5_open := List.mem_of_getElem? (i := 2) (by decide +kernel)
theorem qX5_open_3 : Cond.fieldLink RX5 36 "ReelChanger$Show" "dark" "I" ∈ wsX5_open := List.mem_of_getElem? (i := 3) (by decide +kernel)
theorem qX5_open_4 : Cond.fieldLink RX5 39 "ReelChanger$Show" "missed" "I" ∈ wsX5_open := List.mem_of_getElem? (i := 4) (by decide +kernel)
theorem qX5_open_5 : Cond.fieldLink RX5 42 "ReelChanger$Show" "late" "I" ∈ wsX5_open := List.mem_of_getElem? (i := 5) (by decide +kernel)
theorem qX5_open_6 : Cond.fieldLink RX5 45 "ReelChanger$Show" "breaks" "I" ∈ wsX5_open := List.mem_of_getElem? (i := 6) (by decide +kernel)
theorem qX5_open_7 : Cond.fieldLink RX5 52 "ReelChanger$Show" "front" "I" ∈ wsX5_open := List.mem_of_getElem? (i := 7) (by decide +kernel)
theorem qX5_open_8 : Cond.fieldLink RX5 58 "ReelChanger$Show" "ranOut" "Z" ∈ wsX5_open := List.mem_of_getElem? (i := 8) (by decide +kernel)
theorem qX5_open_9 : Cond.fieldLink RX5 12 "ReelChanger$Show" "operator" "LReelChanger$Operator;" ∈ wsX5_open := List.mem_of_getElem? (i := 9) (by decide +kernel)
theorem qX5_open_10 : Cond.fieldLink RX5 21 "ReelChanger$Show" "first" "LReelChanger$Projector;" ∈ wsX5_open := List.mem_of_getElem? (i := 10) (by decide +kernel)
theorem qX5_open_11 : Cond.fieldLink RX5 78 "ReelChanger$Projector" "state" "I" ∈ wsX5_open := List.mem_of_getElem? (i := 11) (by decide +kernel)
theorem nX5_open_X2 : ∀ w ∈ wsX20, w ∈ wsX5_open := fun w h => List.mem_cons_of_mem _ (List.mem_append_left _ (List.mem_append_left _ (List.mem_append_right _ (h))))
theorem qX5_open_12 : Cond.fieldLink RX5 81 "ReelChanger$Projector" "frame" "I" ∈ wsX5_open := List.mem_of_getElem? (i := 12) (by decide +kernel)
theorem qX5_open_13 : Cond.fieldLink RX5 25 "ReelChanger$Show" "second" "LReelChanger$Projector;" ∈ wsX5_open := List.mem_of_getElem? (i := 13) (by decide +kernel)
theorem qX5_open_14 : Cond.fieldLink RX5 55 "ReelChanger$Show" "threaded" "I" ∈ wsX5_open := List.mem_of_getElem? (i := 14) (by decide +kernel)
theorem qX5_open_15 : Cond.fieldLink RX5 84 "ReelChanger$Stock" "placeCount" "I" ∈ wsX5_open := List.mem_of_getElem? (i := 15) (by decide +kernel)
theorem nX5_open_X6 : ∀ w ∈ wsX60, w ∈ wsX5_open := fun w h => List.mem_cons_of_mem _ (List.mem_append_left _ (List.mem_append_right _ (h)))
def wX5_open (G : rc_G) (a0 : Nat) (a1 : Nat) (I : rc_M) (post : rc_M → Prop) : Prop :=
  ∀ I1, I1 = rc_s I a0 0 1 → ∀ I2, I2 = rc_s I1 a0 1 0 → ∀ I3, I3 = rc_s I2 a0 2 0 → ∀ I4, I4 = rc_s I3 a0 3 0 → ∀ I5, I5 = rc_s I4 a0 4 0 → ∀ I6, I6 = rc_s I5 a0 5 0 → ∀ I7, I7 = rc_s I6 a0 7 0 → ∀ I8, I8 = rc_s I7 a0 9 0 → wX0_dropAll G (a0 + 1) I8 (fun I9 => wX2_thread G (a0 + 4) 0 I9 (fun I10 => ∀ I11, I11 = rc_s I10 (a0 + 4) 0 3 → ∀ I12, I12 = rc_s I11 (a0 + 4) 2 0 → ∀ I13, I13 = rc_s I12 (a0 + 5) 0 0 → ∀ I14, I14 = rc_s I13 a0 8 1 → rc_R (I14 a1 1) ∧ (((I14 a1 1) ≤ 1 → post I14) ∧ (¬ (I14 a1 1) ≤ 1 → wX2_thread G (a0 + 5) 1 I14 (fun I17 => ∀ I18, I18 = rc_s I17 a0 8 2 → post I18)))))
set_option maxRecDepth 100000 in
set_option maxHeartbeats 4000000 in
theorem gX5_open_0 {p : Program} {l : Launch} {e : Env} {s : State} {m : MethodId} {below : List Frame} {meth : Method} {c : Code} {G : rc_G} {a0 : Nat} {a1 : Nat} {I : rc_M} {post : rc_M → Prop}  (X : rc_X p s m ([.ref a0, .ref a1] : List Value).toArray meth c cX5_open 2 wsX5_open RX5 G (rc_A G)) (hr : meth.sig.returnType = none) (T0 : kX5 G a0) (T1 : kX6 G a1)  (h : wX5_open G a0 a1 I post) : rc_g p l e rmX5_open s m ([.ref a0, .ref a1] : List Value).toArray below meth c 0 0 (MQ below (rc_QV G post) ([.ref a0, .ref a1] : List Value).toArray s 0 0 (rc_A G)) 2 G (rc_A G) 0 [(0, .ref a0), (1, .ref a1)] [] I := by
  unfold wX5_open at h
  refine rc_aload_n X dX5_open_0 rfl 0 rfl ?_
  refine rc_iconst X dX5_open_1 ?_
  refine pfX5_running X T0.1 nX5_open_X5 qX5_open_1 dX5_open_2 (Or.inr rfl) (fun I1 e1 => ?_)
  have h := h I1 e1
  refine rc_aload_n X dX5_open_5 rfl 0 rfl ?_
  refine rc_iconst X dX5_open_6 ?_
  refine pfX5_time X T0.1 nX5_open_X5 qX5_open_2 dX5_open_7 (fun I2 e2 => ?_)
  have h := h I2 e2
  refine rc_aload_n X dX5_open_10 rfl 0 rfl ?_
  refine rc_iconst X dX5_open_11 ?_
  refine pfX5_dark X T0.1 nX5_open_X5 qX5_open_3 dX5_open_12 (fun I3 e3 => ?_)
  have h := h I3 e3
  refine rc_aload_n X dX5_open_15 rfl 0 rfl ?_
  refine rc_iconst X dX5_open_16 ?_
  refine pfX5_missed X T0.1 nX5_open_X5 qX5_open_4 dX5_open_17 (fun I4 e4 => ?_)
  have h := h I4 e4
  refine rc_aload_n X dX5_open_20 rfl 0 rfl ?_
  refine rc_iconst X dX5_open_21 ?_
  refine pfX5_late X T0.1 nX5_open_X5 qX5_open_5 dX5_open_22 (fun I5 e5 => ?_)
  have h := h I5 e5
  refine rc_aload_n X dX5_open_25 rfl 0 rfl ?_
  refine rc_iconst X dX5_open_26 ?_
  refine pfX5_breaks X T0.1 nX5_open_X5 qX5_open_6 dX5_open_27 (fun I6 e6 => ?_)
  have h := h I6 e6
  refine rc_aload_n X dX5_open_30 rfl 0 rfl ?_
  refine rc_iconst X dX5_open_31 ?_
  refine pfX5_front X T0.1 nX5_open_X5 qX5_open_7 dX5_open_32 (fun I7 e7 => ?_)
  have h := h I7 e7
  refine rc_aload_n X dX5_open_35 rfl 0 rfl ?_
  refine rc_iconst X dX5_open_36 ?_
  refine pfX5_ranOut X T0.1 nX5_open_X5 qX5_open_8 dX5_open_37 (Or.inl rfl) (fun I8 e8 => ?_)
  have h := h I8 e8
  refine rc_aload_n X dX5_open_40 rfl 0 rfl ?_
  refine gfX5_operator X T0.1 nX5_open_X5 qX5_open_9 dX5_open_41 ?_
  refine rc_cVV (rest := []) X (mX0_dropAll T0.2.1 h) gX5_open_X0_dropAll rfl ⟨rfl, rfl⟩ dyX0_dropAll ⟨Nat.le_of_ble_eq_true rfl, Nat.le_of_ble_eq_true rfl⟩ (rc_recv X T0.2.1.1 rfl) rfl rfl (Nat.le_of_ble_eq_true rfl) dX5_open_44 ⟨Nat.zero_le _, Nat.zero_le _⟩ (fun I9 h => ?_)
  refine rc_aload_n X dX5_open_47 rfl 0 rfl ?_
  refine gfX5_first X T0.1 nX5_open_X5 qX5_open_10 dX5_open_48 ?_
  refine rc_iconst X dX5_open_51 ?_
  refine rc_cVV (rest := []) X (mX2_thread T0.2.2.1 h) gX5_open_X2_thread rfl ⟨rfl, rfl⟩ dyX2_thread ⟨Nat.le_of_ble_eq_true rfl, Nat.le_of_ble_eq_true rfl⟩ (rc_recv X T0.2.2.1.1 rfl) rfl rfl (Nat.le_of_ble_eq_true rfl) dX5_open_52 ⟨Nat.zero_le _, Nat.zero_le _⟩ (fun I10 h => ?_)
  refine rc_aload_n X dX5_open_55 rfl 0 rfl ?_
  refine gfX5_first X T0.1 nX5_open_X5 qX5_open_10 dX5_open_56 ?_
  refine rc_iconst X dX5_open_59 ?_
  refine pfX2_state X T0.2.2.1.1 nX5_open_X2 qX5_open_11 dX5_open_60 (fun I11 e11 => ?_)
  have h := h I11 e11
  refine rc_aload_n X dX5_open_63 rfl 0 rfl ?_
  refine gfX5_first X T0.1 nX5_open_X5 qX5_open_10 dX5_open_64 ?_
  refine rc_iconst X dX5_open_67 ?_
  refine pfX2_frame X T0.2.2.1.1 nX5_open_X2 qX5_open_12 dX5_open_68 (fun I12 e12 => ?_)
  have h := h I12 e12
  refine rc_aload_n X dX5_open_71 rfl 0 rfl ?_
  refine gfX5_second X T0.1 nX5_open_X5 qX5_open_13 dX5_open_72 ?_
  refine rc_iconst X dX5_open_75 ?_
  refine pfX2_state X T0.2.2.2.1 nX5_open_X2 qX5_open_11 dX5_open_76 (fun I13 e13 => ?_)
  have h := h I13 e13
  refine rc_aload_n X dX5_open_79 rfl 0 rfl ?_
  refine rc_iconst X dX5_open_80 ?_
  refine pfX5_threaded X T0.1 nX5_open_X5 qX5_open_14 dX5_open_81 (fun I14 e14 => ?_)
  have h := h I14 e14
  refine rc_aload_n X dX5_open_84 rfl 1 rfl ?_
  refine gfX6_placeCount X T1.1 nX5_open_X6 qX5_open_15 dX5_open_85 ?_
  refine rc_iconst X dX5_open_88 ?_
  obtain ⟨c15, h⟩ := h
  refine rc_ic_le X 105 dX5_open_89 (by decide) c15 ⟨by decide, by decide⟩ (fun c16 => ?_) (fun c16 => ?_)
  · have h := h.1 c16
    exact rc_vret X hr dX5_open_105 h
  · have h := h.2 c16
    refine rc_aload_n X dX5_open_92 rfl 0 rfl ?_
    refine gfX5_second X T0.1 nX5_open_X5 qX5_open_13 dX5_open_93 ?_
    refine rc_iconst X dX5_open_96 ?_
    refine rc_cVV (rest := []) X (mX2_thread T0.2.2.2 h) gX5_open_X2_thread rfl ⟨rfl, rfl⟩ dyX2_thread ⟨Nat.le_of_ble_eq_true rfl, Nat.le_of_ble_eq_true rfl⟩ (rc_recv X T0.2.2.2.1 rfl) rfl rfl (Nat.le_of_ble_eq_true rfl) dX5_open_97 ⟨Nat.zero_le _, Nat.zero_le _⟩ (fun I17 h => ?_)
    refine rc_aload_n X dX5_open_100 rfl 0 rfl ?_
    refine rc_iconst X dX5_open_101 ?_
    refine pfX5_threaded X T0.1 nX5_open_X5 qX5_open_14 dX5_open_102 (fun I18 e18 => ?_)
    have h := h I18 e18
    exact rc_vret X hr dX5_open_105 h
theorem mX5_open {l : Launch} {G : rc_G} {a0 : Nat} {a1 : Nat} {I : rc_M} {post : rc_M → Prop} (T0 : kX5 G a0) (T1 : kX6 G a1) (h : wX5_open G a0 a1 I post) : rc_CV l yX5_open wsX5_open rmX5_open G [.ref a0, .ref a1] I post :=
  rc_body (by decide +kernel) rfl rfl (Nat.le_of_ble_eq_true rfl) rfl (fun p e s m below meth c X hr => gX5_open_0 X hr T0 T1 h)
/-! X5_projectorNumbered -/
abbrev rmX5_projectorNumbered : Room := { frames := 0, cells := 0, slots := 0, locals := 0 }
theorem dyX5_projectorNumbered : yX5_projectorNumbered.cls = RX5 ∧ yX5_projectorNumbered.cls ≠ "java/lang/invoke/MethodHandle" ∧ yX5_projectorNumbered.cls ≠ "java/lang/invoke/VarHandle" ∧ (parseMethodDescriptor yX5_projectorNumbered.desc).map (fun d => d.parameters.length) = some 1 := ⟨rfl, by decide +kernel, by decide +kernel, by decide +kernel⟩
theorem qX5_projectorNumbered_2 : Cond.fieldLink RX5 25 "ReelChanger$Show" "second" "LReelChanger$Projector;" ∈ wsX5_projectorNumbered := List.mem_of_getElem? (i := 2) (by decide +kernel)
theorem nX5_projectorNumbered_X5 : ∀ w ∈ wsX50, w ∈ wsX5_projectorNumbered := fun w h => List.mem_cons_of_mem _ (List.mem_append_right _ (h))
theorem qX5_projectorNumbered_1 : Cond.fieldLink RX5 21 "ReelChanger$Show" "first" "LReelChanger$Projector;" ∈ wsX5_projectorNumbered := List.mem_of_getElem? (i := 1) (by decide +kernel)
def wX5_projectorNumbered (G : rc_G) (a0 : Nat) (a1 : Int) (I : rc_M) (post : Option Nat → rc_M → Prop) : Prop :=
  rc_R a1 ∧ ((¬ a1 = 0 → post (some (a0 + 5)) I) ∧ (a1 = 0 → post (some (a0 + 4)) I))
set_option maxRecDepth 100000 in
set_option maxHeartbeats 4000000 in
theorem gX5_projectorNumbered_0 {p : Program} {l : Launch} {e : Env} {s : State} {m : MethodId} {below : List Frame} {meth : Method} {c : Code} {G : rc_G} {a0 : Nat} {a1 : Int} {I : rc_M} {post : Option Nat → rc_M → Prop}  (X : rc_X p s m ([.ref a0, .int (rc_o a1)] : List Value).toArray meth c cX5_projectorNumbered 2 wsX5_projectorNumbered RX5 G (rc_A G)) (hr : meth.sig.returnType = some (.object "ReelChanger$Projector")) (T0 : kX5 G a0)  (h : wX5_projectorNumbered G a0 a1 I post) : rc_g p l e rmX5_projectorNumbered s m ([.ref a0, .int (rc_o a1)] : List Value).toArray below meth c 0 0 (MQ below (rc_QQ G post) ([.ref a0, .int (rc_o a1)] : List Value).toArray s 0 0 (rc_A G)) 2 G (rc_A G) 0 [(0, .ref a0), (1, .int (rc_o a1))] [] I := by
  unfold wX5_projectorNumbered at h
  refine rc_iload_n X dX5_projectorNumbered_0 rfl 1 rfl ?_
  obtain ⟨c1, h⟩ := h
  refine rc_if_ne X 11 dX5_projectorNumbered_1 (by decide) c1 (fun c2 => ?_) (fun c2 => ?_)
  · have h := h.1 c2
    refine rc_aload_n X dX5_projectorNumbered_11 rfl 0 rfl ?_
    refine gfX5_second X T0.1 nX5_projectorNumbered_X5 qX5_projectorNumbered_2 dX5_projectorNumbered_12 ?_
    exact rc_aret X hr (some (a0 + 5)) dX5_projectorNumbered_15 h
  · have h := h.2 c2
    refine rc_aload_n X dX5_projectorNumbered_4 rfl 0 rfl ?_
    refine gfX5_first X T0.1 nX5_projectorNumbered_X5 qX5_projectorNumbered_1 dX5_projectorNumbered_5 ?_
    refine rc_goto X 15 dX5_projectorNumbered_8 (by decide) ?_
    exact rc_aret X hr (some (a0 + 4)) dX5_projectorNumbered_15 h
theorem mX5_projectorNumbered {l : Launch} {G : rc_G} {a0 : Nat} {a1 : Int} {I : rc_M} {post : Option Nat → rc_M → Prop} (T0 : kX5 G a0) (h : wX5_projectorNumbered G a0 a1 I post) : rc_CQ l yX5_projectorNumbered wsX5_projectorNumbered rmX5_projectorNumbered G [.ref a0, .int (rc_o a1)] I post :=
  rc_body (by decide +kernel) rfl rfl (Nat.le_of_ble_eq_true rfl) rfl (fun p e s m below meth c X hr => gX5_projectorNumbered_0 X hr T0 h)
/-! X5_finishRepair -/
abbrev rmX5_finishRepair : Room := { frames := 2, cells := 0, slots := 0, locals := 44 }
theorem dyX5_finishRepair : yX5_finishRepair.cls = RX5 ∧ yX5_finishRepair.cls ≠ "java/lang/invoke/MethodHandle" ∧ yX5_finishRepair.cls ≠ "java/lang/invoke/VarHandle" ∧ (parseMethodDescriptor yX5_finishRepair.desc).map (fun d => d.parameters.length) = some 2 := ⟨rfl, by decide +kernel, by decide +kernel, by decide +kernel⟩
theorem qX5_finishRepair_1 : Cond.fieldLink RX5 97 "ReelChanger$Projector" "place" "I" ∈ wsX5_finishRepair := List.mem_of_getElem? (i := 1) (by decide +kernel)
theorem nX5_finishRepair_X2 : ∀ w ∈ wsX20, w ∈ wsX5_finishRepair := fun w h => List.mem_cons_of_mem _ (List.mem_append_left _ (List.mem_append_left _ (List.mem_append_right _ (h))))
theorem qX5_finishRepair_2 : Cond.fieldLink RX5 81 "ReelChanger$Projector" "frame" "I" ∈ wsX5_finishRepair := List.mem_of_getElem? (i := 2) (by decide +kernel)
theorem qX5_finishRepair_3 : Cond.fieldLink RX5 170 "ReelChanger$Reel" "length" "I" ∈ wsX5_finishRepair := List.mem_of_getElem? (i := 3) (by decide +kernel)
theorem nX5_finishRepair_X3 : ∀ w ∈ wsX30, w ∈ wsX5_finishRepair := fun w h => List.mem_cons_of_mem _ (List.mem_append_left _ (List.mem_append_right _ (h)))
theorem qX5_finishRepair_4 : Cond.methodLink RX5 173 Lib.Math.min.name ∈ wsX5_finishRepair := List.mem_of_getElem? (i := 4) (by decide +kernel)
theorem qX5_finishRepair_5 : Cond.static Lib.Math.min.name ∈ wsX5_finishRepair := List.mem_of_getElem? (i := 5) (by decide +kernel)
theorem qX5_finishRepair_6 : Cond.initialized "java/lang/Math" ∈ wsX5_finishRepair := List.mem_of_getElem? (i := 6) (by decide +kernel)
theorem qX5_finishRepair_7 : Cond.code Lib.Math.min.name Lib.Math.min.code 2 (some .int) ∈ wsX5_finishRepair := List.mem_of_getElem? (i := 7) (by decide +kernel)
theorem qX5_finishRepair_8 : Cond.fieldLink RX5 78 "ReelChanger$Projector" "state" "I" ∈ wsX5_finishRepair := List.mem_of_getElem? (i := 8) (by decide +kernel)
def wX5_finishRepair (G : rc_G) (a0 : Nat) (a1 : Nat) (a2 : Nat) (I : rc_M) (post : rc_M → Prop) : Prop :=
  wX6_reelAtPlace G a2 (I a1 1) I (fun r2 I1 => (r2 = none → post I1) ∧ (∀ q3, r2 = some q3 → kX3 G q3 ∧ (wX3_repairAt G q3 (I1 a1 2) I1 (fun I4 => wX6_settingNumbered G a2 7 I4 (fun r6 I5 => rc_R ((I4 a1 2) + r6) ∧ (rc_R (I5 q3 0) ∧ (∀ I9, I9 = rc_s I5 a1 2 (min ((I4 a1 2) + r6) (I5 q3 0)) → ∀ I10, I10 = rc_s I9 a1 0 3 → post I10)))))))
set_option maxRecDepth 100000 in
set_option maxHeartbeats 4000000 in
theorem gX5_finishRepair_0 {p : Program} {l : Launch} {e : Env} {s : State} {m : MethodId} {below : List Frame} {meth : Method} {c : Code} {G : rc_G} {a0 : Nat} {a1 : Nat} {a2 : Nat} {I : rc_M} {post : rc_M → Prop}  (X : rc_X p s m ([.ref a0, .ref a1, .ref a2] : List Value).toArray meth c cX5_finishRepair 5 wsX5_finishRepair RX5 G (rc_A G)) (hr : meth.sig.returnType = none) (T0 : kX5 G a0) (T1 : kX2 G a1) (T2 : kX6 G a2)  (h : wX5_finishRepair G a0 a1 a2 I post) : rc_g p l e rmX5_finishRepair s m ([.ref a0, .ref a1, .ref a2] : List Value).toArray below meth c 0 0 (MQ below (rc_QV G post) ([.ref a0, .ref a1, .ref a2] : List Value).toArray s 0 0 (rc_A G)) 5 G (rc_A G) 0 [(0, .ref a0), (1, .ref a1), (2, .ref a2)] [] I := by
  unfold wX5_finishRepair at h
  refine rc_aload_n X dX5_finishRepair_0 rfl 2 rfl ?_
  refine rc_aload_n X dX5_finishRepair_1 rfl 1 rfl ?_
  refine gfX2_place X T1.1 nX5_finishRepair_X2 qX5_finishRepair_1 dX5_finishRepair_2 ?_
  refine rc_cVQ (rest := []) X (mX6_reelAtPlace T2 h) gX5_finishRepair_X6_reelAtPlace rfl ⟨rfl, rfl⟩ dyX6_reelAtPlace ⟨Nat.le_of_ble_eq_true rfl, Nat.le_of_ble_eq_true rfl⟩ (rc_recv X T2.1 rfl) rfl rfl (Nat.le_of_ble_eq_true rfl) dX5_finishRepair_5 ⟨Nat.zero_le _, Nat.zero_le _⟩ (fun r2 I1 h => ?_)
  rcases r2 with _ | q3
  · have h := h.1 rfl
    refine rc_qn ?_
    refine rc_astore_nN X [(3, .null), (0, .ref a0), (1, .ref a1), (2, .ref a2)] dX5_finishRepair_8 rfl (by decide) rfl ?_
    refine rc_aload_nN X dX5_finishRepair_9 rfl 0 rfl ?_
    refine rc_nuN X 52 dX5_finishRepair_10 (by decide) ?_
    exact rc_vret X hr dX5_finishRepair_52 h
  · obtain ⟨Tq3, h⟩ := h.2 q3 rfl
    refine rc_qs ?_
    refine rc_astore_n X [(3, .ref q3), (0, .ref a0), (1, .ref a1), (2, .ref a2)] dX5_finishRepair_8 rfl (by decide) rfl ?_
    refine rc_aload_n X dX5_finishRepair_9 rfl 0 rfl ?_
    refine rc_nu X dX5_finishRepair_10 ?_
    refine rc_aload_n X dX5_finishRepair_13 rfl 0 rfl ?_
    refine rc_aload_n X dX5_finishRepair_14 rfl 2 rfl ?_
    refine gfX2_frame X T1.1 nX5_finishRepair_X2 qX5_finishRepair_2 dX5_finishRepair_15 ?_
    refine rc_cVV (rest := []) X (mX3_repairAt Tq3 h) gX5_finishRepair_X3_repairAt rfl ⟨rfl, rfl⟩ dyX3_repairAt ⟨Nat.le_of_ble_eq_true rfl, Nat.le_of_ble_eq_true rfl⟩ (rc_recv X Tq3.1 rfl) rfl rfl (Nat.le_of_ble_eq_true rfl) dX5_finishRepair_18 ⟨Nat.zero_le _, Nat.zero_le _⟩ (fun I4 h => ?_)
    refine rc_aload_n X dX5_finishRepair_21 rfl 2 rfl ?_
    refine gfX2_frame X T1.1 nX5_finishRepair_X2 qX5_finishRepair_2 dX5_finishRepair_22 ?_
    refine rc_aload_n X dX5_finishRepair_25 rfl 3 rfl ?_
    refine rc_bipush X dX5_finishRepair_26 (rc_b8 _ ⟨by decide, by decide⟩) ?_
    refine rc_cVI (rest := [.int (rc_o (I4 a1 2))]) X (mX6_settingNumbered T2 h) gX5_finishRepair_X6_settingNumbered rfl ⟨rfl, rfl⟩ dyX6_settingNumbered ⟨Nat.le_of_ble_eq_true rfl, Nat.le_of_ble_eq_true rfl⟩ (rc_recv X T2.1 rfl) rfl rfl (Nat.le_of_ble_eq_true rfl) dX5_finishRepair_28 ⟨Nat.zero_le _, Nat.zero_le _⟩ (fun r6 I5 h => ?_)
    refine rc_iadd X dX5_finishRepair_31 ?_
    refine rc_istore X [(4, .int (rc_o ((I4 a1 2) + r6))), (3, .ref q3), (0, .ref a0), (1, .ref a1), (2, .ref a2)] dX5_finishRepair_32 (by decide) rfl ?_
    refine rc_aload_n X dX5_finishRepair_34 rfl 3 rfl ?_
    refine rc_iload X dX5_finishRepair_35 0 rfl ?_
    refine rc_aload_n X dX5_finishRepair_37 rfl 1 rfl ?_
    refine gfX3_length X Tq3.1 nX5_finishRepair_X3 qX5_finishRepair_3 dX5_finishRepair_38 ?_
    obtain ⟨c7, h⟩ := h
    obtain ⟨c8, h⟩ := h
    refine rc_mmin X qX5_finishRepair_4 qX5_finishRepair_5 qX5_finishRepair_6 qX5_finishRepair_7 (Nat.le_of_ble_eq_true rfl) (Nat.le_of_ble_eq_true rfl) (Nat.zero_le _) (Nat.zero_le _) dX5_finishRepair_41 c7 c8 ?_
    refine pfX2_frame X T1.1 nX5_finishRepair_X2 qX5_finishRepair_2 dX5_finishRepair_44 (fun I9 e9 => ?_)
    have h := h I9 e9
    refine rc_aload_n X dX5_finishRepair_47 rfl 3 rfl ?_
    refine rc_iconst X dX5_finishRepair_48 ?_
    refine pfX2_state X T1.1 nX5_finishRepair_X2 qX5_finishRepair_8 dX5_finishRepair_49 (fun I10 e10 => ?_)
    have h := h I10 e10
    exact rc_vret X hr dX5_finishRepair_52 h
theorem mX5_finishRepair {l : Launch} {G : rc_G} {a0 : Nat} {a1 : Nat} {a2 : Nat} {I : rc_M} {post : rc_M → Prop} (T0 : kX5 G a0) (T1 : kX2 G a1) (T2 : kX6 G a2) (h : wX5_finishRepair G a0 a1 a2 I post) : rc_CV l yX5_finishRepair wsX5_finishRepair rmX5_finishRepair G [.ref a0, .ref a1, .ref a2] I post :=
  rc_body (by decide +kernel) rfl rfl (Nat.le_of_ble_eq_true rfl) rfl (fun p e s m below meth c X hr => gX5_finishRepair_0 X hr T0 T1 T2 h)
/-! X5_finishTask -/
abbrev rmX5_finishTask : Room := { frames := 3, cells := 0, slots := 0, locals := 68 }
theorem dyX5_finishTask : yX5_finishTask.cls = RX5 ∧ yX5_finishTask.cls ≠ "java/lang/invoke/MethodHandle" ∧ yX5_finishTask.cls ≠ "java/lang/invoke/VarHandle" ∧ (parseMethodDescriptor yX5_finishTask.desc).map (fun d => d.parameters.length) = some 1 := ⟨rfl, by decide +kernel, by decide +kernel, by decide +kernel⟩
theorem qX5_finishTask_1 : Cond.fieldLink RX5 12 "ReelChanger$Show" "operator" "LReelChanger$Operator;" ∈ wsX5_finishTask := List.mem_of_getElem? (i := 1) (by decide +kernel)
theorem nX5_finishTask_X5 : ∀ w ∈ wsX50, w ∈ wsX5_finishTask := fun w h => List.mem_cons_of_mem _ (List.mem_append_left _ (List.mem_append_left _ (List.mem_append_left _ (List.mem_append_left _ (List.mem_append_right _ (h))))))
theorem qX5_finishTask_2 : Cond.fieldLink RX5 155 "ReelChanger$Operator" "workProjector" "I" ∈ wsX5_finishTask := List.mem_of_getElem? (i := 2) (by decide +kernel)
theorem nX5_finishTask_X0 : ∀ w ∈ wsX00, w ∈ wsX5_finishTask := fun w h => List.mem_cons_of_mem _ (List.mem_append_left _ (List.mem_append_left _ (List.mem_append_left _ (List.mem_append_right _ (h)))))
theorem qX5_finishTask_3 : Cond.fieldLink RX5 158 "ReelChanger$Operator" "workKind" "I" ∈ wsX5_finishTask := List.mem_of_getElem? (i := 3) (by decide +kernel)
theorem qX5_finishTask_4 : Cond.fieldLink RX5 78 "ReelChanger$Projector" "state" "I" ∈ wsX5_finishTask := List.mem_of_getElem? (i := 4) (by decide +kernel)
theorem nX5_finishTask_X2 : ∀ w ∈ wsX20, w ∈ wsX5_finishTask := fun w h => List.mem_cons_of_mem _ (List.mem_append_left _ (List.mem_append_left _ (List.mem_append_right _ (h))))
theorem qX5_finishTask_5 : Cond.fieldLink RX5 55 "ReelChanger$Show" "threaded" "I" ∈ wsX5_finishTask := List.mem_of_getElem? (i := 5) (by decide +kernel)
def wX5_finishTask (G : rc_G) (a0 : Nat) (a1 : Nat) (I : rc_M) (post : rc_M → Prop) : Prop :=
  wX5_projectorNumbered G a0 (I (a0 + 1) 3) I (fun r2 I1 => ∃ q3, r2 = some q3 ∧ kX2 G q3 ∧ (rc_R (I1 (a0 + 1) 2) ∧ (((I1 (a0 + 1) 2) = 0 → ∀ I5, I5 = rc_s I1 q3 0 0 → post I5) ∧ ((I1 (a0 + 1) 2) = 1 → wX2_thread G q3 (I1 a0 8) I1 (fun I6 => ∀ I7, I7 = rc_s I6 a0 8 ((I6 a0 8) + 1) → post I7)) ∧ (¬ (I1 (a0 + 1) 2) = 0 → ¬ (I1 (a0 + 1) 2) = 1 → wX5_finishRepair G a0 q3 a1 I1 (fun I8 => post I8)))))
set_option maxRecDepth 100000 in
set_option maxHeartbeats 4000000 in
theorem gX5_finishTask_0 {p : Program} {l : Launch} {e : Env} {s : State} {m : MethodId} {below : List Frame} {meth : Method} {c : Code} {G : rc_G} {a0 : Nat} {a1 : Nat} {I : rc_M} {post : rc_M → Prop}  (X : rc_X p s m ([.ref a0, .ref a1] : List Value).toArray meth c cX5_finishTask 3 wsX5_finishTask RX5 G (rc_A G)) (hr : meth.sig.returnType = none) (T0 : kX5 G a0) (T1 : kX6 G a1)  (h : wX5_finishTask G a0 a1 I post) : rc_g p l e rmX5_finishTask s m ([.ref a0, .ref a1] : List Value).toArray below meth c 0 0 (MQ below (rc_QV G post) ([.ref a0, .ref a1] : List Value).toArray s 0 0 (rc_A G)) 3 G (rc_A G) 0 [(0, .ref a0), (1, .ref a1)] [] I := by
  unfold wX5_finishTask at h
  refine rc_aload_n X dX5_finishTask_0 rfl 0 rfl ?_
  refine rc_aload_n X dX5_finishTask_1 rfl 0 rfl ?_
  refine gfX5_operator X T0.1 nX5_finishTask_X5 qX5_finishTask_1 dX5_finishTask_2 ?_
  refine gfX0_workProjector X T0.2.1.1 nX5_finishTask_X0 qX5_finishTask_2 dX5_finishTask_5 ?_
  refine rc_cVQ (rest := []) X (mX5_projectorNumbered T0 h) gX5_finishTask_X5_projectorNumbered rfl ⟨rfl, rfl⟩ dyX5_projectorNumbered ⟨Nat.le_of_ble_eq_true rfl, Nat.le_of_ble_eq_true rfl⟩ (rc_recv X T0.1 rfl) rfl rfl (Nat.le_of_ble_eq_true rfl) dX5_finishTask_8 ⟨Nat.zero_le _, Nat.zero_le _⟩ (fun r2 I1 h => ?_)
  obtain ⟨q3, rfl, Tq3, h⟩ := h
  refine rc_qs ?_
  refine rc_astore_n X [(2, .ref q3), (0, .ref a0), (1, .ref a1)] dX5_finishTask_11 rfl (by decide) rfl ?_
  refine rc_aload_n X dX5_finishTask_12 rfl 1 rfl ?_
  refine gfX5_operator X T0.1 nX5_finishTask_X5 qX5_finishTask_1 dX5_finishTask_13 ?_
  refine gfX0_workKind X T0.2.1.1 nX5_finishTask_X0 qX5_finishTask_3 dX5_finishTask_16 ?_
  obtain ⟨c4, h⟩ := h
  by_cases c9 : (I1 (a0 + 1) 2) = 0
  · have h := h.1 c9
    refine rc_look X (off := 25) 44 dX5_finishTask_19 rfl c4 (by rw [c9]; rfl) (by decide) ?_
    refine rc_aload_n X dX5_finishTask_44 rfl 0 rfl ?_
    refine rc_iconst X dX5_finishTask_45 ?_
    refine pfX2_state X Tq3.1 nX5_finishTask_X2 qX5_finishTask_4 dX5_finishTask_46 (fun I5 e5 => ?_)
    have h := h I5 e5
    refine rc_goto X 79 dX5_finishTask_49 (by decide) ?_
    exact rc_vret X hr dX5_finishTask_79 h
  by_cases c10 : (I1 (a0 + 1) 2) = 1
  · have h := h.2.1 c10
    refine rc_look X (off := 33) 52 dX5_finishTask_19 rfl c4 (by rw [c10]; rfl) (by decide) ?_
    refine rc_aload_n X dX5_finishTask_52 rfl 0 rfl ?_
    refine rc_aload_n X dX5_finishTask_53 rfl 1 rfl ?_
    refine gfX5_threaded X T0.1 nX5_finishTask_X5 qX5_finishTask_5 dX5_finishTask_54 ?_
    refine rc_cVV (rest := []) X (mX2_thread Tq3 h) gX5_finishTask_X2_thread rfl ⟨rfl, rfl⟩ dyX2_thread ⟨Nat.le_of_ble_eq_true rfl, Nat.le_of_ble_eq_true rfl⟩ (rc_recv X Tq3.1 rfl) rfl rfl (Nat.le_of_ble_eq_true rfl) dX5_finishTask_57 ⟨Nat.zero_le _, Nat.zero_le _⟩ (fun I6 h => ?_)
    refine rc_aload_n X dX5_finishTask_60 rfl 1 rfl ?_
    refine rc_dup X dX5_finishTask_61 rfl ?_
    refine gfX5_threaded X T0.1 nX5_finishTask_X5 qX5_finishTask_5 dX5_finishTask_62 ?_
    refine rc_iconst X dX5_finishTask_65 ?_
    refine rc_iadd X dX5_finishTask_66 ?_
    refine pfX5_threaded X T0.1 nX5_finishTask_X5 qX5_finishTask_5 dX5_finishTask_67 (fun I7 e7 => ?_)
    have h := h I7 e7
    refine rc_goto X 79 dX5_finishTask_70 (by decide) ?_
    exact rc_vret X hr dX5_finishTask_79 h
  have h := h.2.2 c9 c10
  refine rc_look X (off := 54) 73 dX5_finishTask_19 rfl c4 (by simp only [Op.lookupswitch.offset_cons, Op.lookupswitch.offset]; (repeat' split) <;> omega) (by decide) ?_
  refine rc_aload_n X dX5_finishTask_73 rfl 1 rfl ?_
  refine rc_aload_n X dX5_finishTask_74 rfl 0 rfl ?_
  refine rc_aload_n X dX5_finishTask_75 rfl 2 rfl ?_
  refine rc_cVV (rest := []) X (mX5_finishRepair T0 Tq3 T1 h) gX5_finishTask_X5_finishRepair rfl ⟨rfl, rfl⟩ dyX5_finishRepair ⟨Nat.le_of_ble_eq_true rfl, Nat.le_of_ble_eq_true rfl⟩ (rc_recv X T0.1 rfl) rfl rfl (Nat.le_of_ble_eq_true rfl) dX5_finishTask_76 ⟨Nat.zero_le _, Nat.zero_le _⟩ (fun I8 h => ?_)
  exact rc_vret X hr dX5_finishTask_79 h
theorem mX5_finishTask {l : Launch} {G : rc_G} {a0 : Nat} {a1 : Nat} {I : rc_M} {post : rc_M → Prop} (T0 : kX5 G a0) (T1 : kX6 G a1) (h : wX5_finishTask G a0 a1 I post) : rc_CV l yX5_finishTask wsX5_finishTask rmX5_finishTask G [.ref a0, .ref a1] I post :=
  rc_body (by decide +kernel) rfl rfl (Nat.le_of_ble_eq_true rfl) rfl (fun p e s m below meth c X hr => gX5_finishTask_0 X hr T0 T1 h)
/-! X5_ticksOfFirstTask -/
abbrev rmX5_ticksOfFirstTask : Room := { frames := 3, cells := 0, slots := 0, locals := 65 }
theorem dyX5_ticksOfFirstTask : yX5_ticksOfFirstTask.cls = RX5 ∧ yX5_ticksOfFirstTask.cls ≠ "java/lang/invoke/MethodHandle" ∧ yX5_ticksOfFirstTask.cls ≠ "java/lang/invoke/VarHandle" ∧ (parseMethodDescriptor yX5_ticksOfFirstTask.desc).map (fun d => d.parameters.length) = some 1 := ⟨rfl, by decide +kernel, by decide +kernel, by decide +kernel⟩
theorem qX5_ticksOfFirstTask_1 : Cond.fieldLink RX5 12 "ReelChanger$Show" "operator" "LReelChanger$Operator;" ∈ wsX5_ticksOfFirstTask := List.mem_of_getElem? (i := 1) (by decide +kernel)
theorem nX5_ticksOfFirstTask_X5 : ∀ w ∈ wsX50, w ∈ wsX5_ticksOfFirstTask := fun w h => List.mem_cons_of_mem _ (List.mem_append_left _ (List.mem_append_left _ (List.mem_append_left _ (List.mem_append_left _ (List.mem_append_right _ (h))))))
theorem qX5_ticksOfFirstTask_2 : Cond.fieldLink RX5 97 "ReelChanger$Projector" "place" "I" ∈ wsX5_ticksOfFirstTask := List.mem_of_getElem? (i := 2) (by decide +kernel)
theorem nX5_ticksOfFirstTask_X2 : ∀ w ∈ wsX20, w ∈ wsX5_ticksOfFirstTask := fun w h => List.mem_cons_of_mem _ (List.mem_append_left _ (List.mem_append_left _ (List.mem_append_left _ (List.mem_append_right _ (h)))))
def wX5_ticksOfFirstTask (G : rc_G) (a0 : Nat) (a1 : Nat) (I : rc_M) (post : Int → rc_M → Prop) : Prop :=
  wX0_kindOf G (a0 + 1) 1 I (fun r2 I1 => rc_R r2 ∧ ((r2 = 0 → wX0_projectorOf G (a0 + 1) 1 I1 (fun r5 I4 => wX5_projectorNumbered G a0 r5 I4 (fun r7 I6 => ∃ q8, r7 = some q8 ∧ kX2 G q8 ∧ (wX6_clearingTime G a1 (I6 q8 1) I6 (fun r10 I9 => post r10 I9))))) ∧ (r2 = 1 → wX6_settingNumbered G a1 5 I1 (fun r12 I11 => post r12 I11)) ∧ (¬ r2 = 0 → ¬ r2 = 1 → wX6_settingNumbered G a1 6 I1 (fun r14 I13 => post r14 I13))))
set_option maxRecDepth 100000 in
set_option maxHeartbeats 4000000 in
theorem gX5_ticksOfFirstTask_0 {p : Program} {l : Launch} {e : Env} {s : State} {m : MethodId} {below : List Frame} {meth : Method} {c : Code} {G : rc_G} {a0 : Nat} {a1 : Nat} {I : rc_M} {post : Int → rc_M → Prop}  (X : rc_X p s m ([.ref a0, .ref a1] : List Value).toArray meth c cX5_ticksOfFirstTask 2 wsX5_ticksOfFirstTask RX5 G (rc_A G)) (hr : meth.sig.returnType = some .int) (T0 : kX5 G a0) (T1 : kX6 G a1)  (h : wX5_ticksOfFirstTask G a0 a1 I post) : rc_g p l e rmX5_ticksOfFirstTask s m ([.ref a0, .ref a1] : List Value).toArray below meth c 0 0 (MQ below (rc_QI G post) ([.ref a0, .ref a1] : List Value).toArray s 0 0 (rc_A G)) 2 G (rc_A G) 0 [(0, .ref a0), (1, .ref a1)] [] I := by
  unfold wX5_ticksOfFirstTask at h
  refine rc_aload_n X dX5_ticksOfFirstTask_0 rfl 0 rfl ?_
  refine gfX5_operator X T0.1 nX5_ticksOfFirstTask_X5 qX5_ticksOfFirstTask_1 dX5_ticksOfFirstTask_1 ?_
  refine rc_iconst X dX5_ticksOfFirstTask_4 ?_
  refine rc_cVI (rest := []) X (mX0_kindOf T0.2.1 h) gX5_ticksOfFirstTask_X0_kindOf rfl ⟨rfl, rfl⟩ dyX0_kindOf ⟨Nat.le_of_ble_eq_true rfl, Nat.le_of_ble_eq_true rfl⟩ (rc_recv X T0.2.1.1 rfl) rfl rfl (Nat.le_of_ble_eq_true rfl) dX5_ticksOfFirstTask_5 ⟨Nat.zero_le _, Nat.zero_le _⟩ (fun r2 I1 h => ?_)
  obtain ⟨c3, h⟩ := h
  by_cases c15 : r2 = 0
  · have h := h.1 c15
    refine rc_look X (off := 28) 36 dX5_ticksOfFirstTask_8 rfl c3 (by rw [c15]; rfl) (by decide) ?_
    refine rc_aload_n X dX5_ticksOfFirstTask_36 rfl 1 rfl ?_
    refine rc_aload_n X dX5_ticksOfFirstTask_37 rfl 0 rfl ?_
    refine rc_aload_n X dX5_ticksOfFirstTask_38 rfl 0 rfl ?_
    refine gfX5_operator X T0.1 nX5_ticksOfFirstTask_X5 qX5_ticksOfFirstTask_1 dX5_ticksOfFirstTask_39 ?_
    refine rc_iconst X dX5_ticksOfFirstTask_42 ?_
    refine rc_cVI (rest := [.ref a0, .ref a1]) X (mX0_projectorOf T0.2.1 h) gX5_ticksOfFirstTask_X0_projectorOf rfl ⟨rfl, rfl⟩ dyX0_projectorOf ⟨Nat.le_of_ble_eq_true rfl, Nat.le_of_ble_eq_true rfl⟩ (rc_recv X T0.2.1.1 rfl) rfl rfl (Nat.le_of_ble_eq_true rfl) dX5_ticksOfFirstTask_43 ⟨Nat.zero_le _, Nat.zero_le _⟩ (fun r5 I4 h => ?_)
    refine rc_cVQ (rest := [.ref a1]) X (mX5_projectorNumbered T0 h) gX5_ticksOfFirstTask_X5_projectorNumbered rfl ⟨rfl, rfl⟩ dyX5_projectorNumbered ⟨Nat.le_of_ble_eq_true rfl, Nat.le_of_ble_eq_true rfl⟩ (rc_recv X T0.1 rfl) rfl rfl (Nat.le_of_ble_eq_true rfl) dX5_ticksOfFirstTask_46 ⟨Nat.zero_le _, Nat.zero_le _⟩ (fun r7 I6 h => ?_)
    obtain ⟨q8, rfl, Tq8, h⟩ := h
    refine rc_qs ?_
    refine gfX2_place X Tq8.1 nX5_ticksOfFirstTask_X2 qX5_ticksOfFirstTask_2 dX5_ticksOfFirstTask_49 ?_
    refine rc_cVI (rest := []) X (mX6_clearingTime T1 h) gX5_ticksOfFirstTask_X6_clearingTime rfl ⟨rfl, rfl⟩ dyX6_clearingTime ⟨Nat.le_of_ble_eq_true rfl, Nat.le_of_ble_eq_true rfl⟩ (rc_recv X T1.1 rfl) rfl rfl (Nat.le_of_ble_eq_true rfl) dX5_ticksOfFirstTask_52 ⟨Nat.zero_le _, Nat.zero_le _⟩ (fun r10 I9 h => ?_)
    exact rc_iret X hr dX5_ticksOfFirstTask_55 h
  by_cases c16 : r2 = 1
  · have h := h.2.1 c16
    refine rc_look X (off := 48) 56 dX5_ticksOfFirstTask_8 rfl c3 (by rw [c16]; rfl) (by decide) ?_
    refine rc_aload_n X dX5_ticksOfFirstTask_56 rfl 1 rfl ?_
    refine rc_iconst X dX5_ticksOfFirstTask_57 ?_
    refine rc_cVI (rest := []) X (mX6_settingNumbered T1 h) gX5_ticksOfFirstTask_X6_settingNumbered rfl ⟨rfl, rfl⟩ dyX6_settingNumbered ⟨Nat.le_of_ble_eq_true rfl, Nat.le_of_ble_eq_true rfl⟩ (rc_recv X T1.1 rfl) rfl rfl (Nat.le_of_ble_eq_true rfl) dX5_ticksOfFirstTask_58 ⟨Nat.zero_le _, Nat.zero_le _⟩ (fun r12 I11 h => ?_)
    exact rc_iret X hr dX5_ticksOfFirstTask_61 h
  have h := h.2.2 c15 c16
  refine rc_look X (off := 54) 62 dX5_ticksOfFirstTask_8 rfl c3 (by simp only [Op.lookupswitch.offset_cons, Op.lookupswitch.offset]; (repeat' split) <;> omega) (by decide) ?_
  refine rc_aload_n X dX5_ticksOfFirstTask_62 rfl 1 rfl ?_
  refine rc_bipush X dX5_ticksOfFirstTask_63 (rc_b8 _ ⟨by decide, by decide⟩) ?_
  refine rc_cVI (rest := []) X (mX6_settingNumbered T1 h) gX5_ticksOfFirstTask_X6_settingNumbered rfl ⟨rfl, rfl⟩ dyX6_settingNumbered ⟨Nat.le_of_ble_eq_true rfl, Nat.le_of_ble_eq_true rfl⟩ (rc_recv X T1.1 rfl) rfl rfl (Nat.le_of_ble_eq_true rfl) dX5_ticksOfFirstTask_65 ⟨Nat.zero_le _, Nat.zero_le _⟩ (fun r14 I13 h => ?_)
  exact rc_iret X hr dX5_ticksOfFirstTask_68 h
theorem mX5_ticksOfFirstTask {l : Launch} {G : rc_G} {a0 : Nat} {a1 : Nat} {I : rc_M} {post : Int → rc_M → Prop} (T0 : kX5 G a0) (T1 : kX6 G a1) (h : wX5_ticksOfFirstTask G a0 a1 I post) : rc_CI l yX5_ticksOfFirstTask wsX5_ticksOfFirstTask rmX5_ticksOfFirstTask G [.ref a0, .ref a1] I post :=
  rc_body (by decide +kernel) rfl rfl (Nat.le_of_ble_eq_true rfl) rfl (fun p e s m below meth c X hr => gX5_ticksOfFirstTask_0 X hr T0 T1 h)
/-! X5_work -/
abbrev rmX5_work : Room := { frames := 4, cells := 0, slots := 0, locals := 90 }
theorem dyX5_work : yX5_work.cls = RX5 ∧ yX5_work.cls ≠ "java/lang/invoke/MethodHandle" ∧ yX5_work.cls ≠ "java/lang/invoke/VarHandle" ∧ (parseMethodDescriptor yX5_work.desc).map (fun d => d.parameters.length) = some 1 := ⟨rfl, by decide +kernel, by decide +kernel, by decide +kernel⟩
theorem qX5_work_1 : Cond.fieldLink RX5 12 "ReelChanger$Show" "operator" "LReelChanger$Operator;" ∈ wsX5_work := List.mem_of_getElem? (i := 1) (by decide +kernel)
theorem nX5_work_X5 : ∀ w ∈ wsX50, w ∈ wsX5_work := fun w h => List.mem_cons_of_mem _ (List.mem_append_left _ (List.mem_append_left _ (List.mem_append_left _ (List.mem_append_left _ (List.mem_append_right _ (h))))))
theorem qX5_work_3 : Cond.fieldLink RX5 64 "ReelChanger$Operator" "rowCount" "I" ∈ wsX5_work := List.mem_of_getElem? (i := 3) (by decide +kernel)
theorem nX5_work_X0 : ∀ w ∈ wsX00, w ∈ wsX5_work := fun w h => List.mem_cons_of_mem _ (List.mem_append_left _ (List.mem_append_left _ (List.mem_append_left _ (List.mem_append_right _ (h)))))
theorem qX5_work_2 : Cond.fieldLink RX5 67 "ReelChanger$Operator" "ticksLeft" "I" ∈ wsX5_work := List.mem_of_getElem? (i := 2) (by decide +kernel)
def wX5_work (G : rc_G) (a0 : Nat) (a1 : Nat) (I : rc_M) (post : rc_M → Prop) : Prop :=
  wX0_isWorking G (a0 + 1) I (fun r2 I1 => rc_R r2 ∧ ((r2 = 0 → rc_R (I1 (a0 + 1) 1) ∧ (((I1 (a0 + 1) 1) ≤ 0 → post I1) ∧ (¬ (I1 (a0 + 1) 1) ≤ 0 → wX5_ticksOfFirstTask G a0 a1 I1 (fun r8 I7 => wX0_takeUp G (a0 + 1) r8 I7 (fun I9 => post I9))))) ∧ (¬ r2 = 0 → ∀ I10, I10 = rc_s I1 (a0 + 1) 0 ((I1 (a0 + 1) 0) - 1) → wX0_isWorking G (a0 + 1) I10 (fun r12 I11 => rc_R r12 ∧ ((¬ r12 = 0 → post I11) ∧ (r12 = 0 → wX5_finishTask G a0 a1 I11 (fun I15 => post I15)))))))
set_option maxRecDepth 100000 in
set_option maxHeartbeats 4000000 in
theorem gX5_work_0 {p : Program} {l : Launch} {e : Env} {s : State} {m : MethodId} {below : List Frame} {meth : Method} {c : Code} {G : rc_G} {a0 : Nat} {a1 : Nat} {I : rc_M} {post : rc_M → Prop}  (X : rc_X p s m ([.ref a0, .ref a1] : List Value).toArray meth c cX5_work 2 wsX5_work RX5 G (rc_A G)) (hr : meth.sig.returnType = none) (T0 : kX5 G a0) (T1 : kX6 G a1)  (h : wX5_work G a0 a1 I post) : rc_g p l e rmX5_work s m ([.ref a0, .ref a1] : List Value).toArray below meth c 0 0 (MQ below (rc_QV G post) ([.ref a0, .ref a1] : List Value).toArray s 0 0 (rc_A G)) 2 G (rc_A G) 0 [(0, .ref a0), (1, .ref a1)] [] I := by
  unfold wX5_work at h
  refine rc_aload_n X dX5_work_0 rfl 0 rfl ?_
  refine gfX5_operator X T0.1 nX5_work_X5 qX5_work_1 dX5_work_1 ?_
  refine rc_cVI (rest := []) X (mX0_isWorking T0.2.1 h) gX5_work_X0_isWorking rfl ⟨rfl, rfl⟩ dyX0_isWorking ⟨Nat.le_of_ble_eq_true rfl, Nat.le_of_ble_eq_true rfl⟩ (rc_recv X T0.2.1.1 rfl) rfl rfl (Nat.le_of_ble_eq_true rfl) dX5_work_4 ⟨Nat.zero_le _, Nat.zero_le _⟩ (fun r2 I1 h => ?_)
  obtain ⟨c3, h⟩ := h
  refine rc_if_eq X 41 dX5_work_7 (by decide) c3 (fun c4 => ?_) (fun c4 => ?_)
  · have h := h.1 c4
    refine rc_aload_n X dX5_work_41 rfl 0 rfl ?_
    refine gfX5_operator X T0.1 nX5_work_X5 qX5_work_1 dX5_work_42 ?_
    refine gfX0_rowCount X T0.2.1.1 nX5_work_X0 qX5_work_3 dX5_work_45 ?_
    obtain ⟨c5, h⟩ := h
    refine rc_if_le X 63 dX5_work_48 (by decide) c5 (fun c6 => ?_) (fun c6 => ?_)
    · have h := h.1 c6
      exact rc_vret X hr dX5_work_63 h
    · have h := h.2 c6
      refine rc_aload_n X dX5_work_51 rfl 0 rfl ?_
      refine gfX5_operator X T0.1 nX5_work_X5 qX5_work_1 dX5_work_52 ?_
      refine rc_aload_n X dX5_work_55 rfl 0 rfl ?_
      refine rc_aload_n X dX5_work_56 rfl 1 rfl ?_
      refine rc_cVI (rest := [.ref (a0 + 1)]) X (mX5_ticksOfFirstTask T0 T1 h) gX5_work_X5_ticksOfFirstTask rfl ⟨rfl, rfl⟩ dyX5_ticksOfFirstTask ⟨Nat.le_of_ble_eq_true rfl, Nat.le_of_ble_eq_true rfl⟩ (rc_recv X T0.1 rfl) rfl rfl (Nat.le_of_ble_eq_true rfl) dX5_work_57 ⟨Nat.zero_le _, Nat.zero_le _⟩ (fun r8 I7 h => ?_)
      refine rc_cVV (rest := []) X (mX0_takeUp T0.2.1 h) gX5_work_X0_takeUp rfl ⟨rfl, rfl⟩ dyX0_takeUp ⟨Nat.le_of_ble_eq_true rfl, Nat.le_of_ble_eq_true rfl⟩ (rc_recv X T0.2.1.1 rfl) rfl rfl (Nat.le_of_ble_eq_true rfl) dX5_work_60 ⟨Nat.zero_le _, Nat.zero_le _⟩ (fun I9 h => ?_)
      exact rc_vret X hr dX5_work_63 h
  · have h := h.2 c4
    refine rc_aload_n X dX5_work_10 rfl 0 rfl ?_
    refine gfX5_operator X T0.1 nX5_work_X5 qX5_work_1 dX5_work_11 ?_
    refine rc_dup X dX5_work_14 rfl ?_
    refine gfX0_ticksLeft X T0.2.1.1 nX5_work_X0 qX5_work_2 dX5_work_15 ?_
    refine rc_iconst X dX5_work_18 ?_
    refine rc_isub X dX5_work_19 ?_
    refine pfX0_ticksLeft X T0.2.1.1 nX5_work_X0 qX5_work_2 dX5_work_20 (fun I10 e10 => ?_)
    have h := h I10 e10
    refine rc_aload_n X dX5_work_23 rfl 0 rfl ?_
    refine gfX5_operator X T0.1 nX5_work_X5 qX5_work_1 dX5_work_24 ?_
    refine rc_cVI (rest := []) X (mX0_isWorking T0.2.1 h) gX5_work_X0_isWorking rfl ⟨rfl, rfl⟩ dyX0_isWorking ⟨Nat.le_of_ble_eq_true rfl, Nat.le_of_ble_eq_true rfl⟩ (rc_recv X T0.2.1.1 rfl) rfl rfl (Nat.le_of_ble_eq_true rfl) dX5_work_27 ⟨Nat.zero_le _, Nat.zero_le _⟩ (fun r12 I11 h => ?_)
    obtain ⟨c13, h⟩ := h
    refine rc_if_ne X 63 dX5_work_30 (by decide) c13 (fun c14 => ?_) (fun c14 => ?_)
    · have h := h.1 c14
      exact rc_vret X hr dX5_work_63 h
    · have h := h.2 c14
      refine rc_aload_n X dX5_work_33 rfl 0 rfl ?_
      refine rc_aload_n X dX5_work_34 rfl 1 rfl ?_
      refine rc_cVV (rest := []) X (mX5_finishTask T0 T1 h) gX5_work_X5_finishTask rfl ⟨rfl, rfl⟩ dyX5_finishTask ⟨Nat.le_of_ble_eq_true rfl, Nat.le_of_ble_eq_true rfl⟩ (rc_recv X T0.1 rfl) rfl rfl (Nat.le_of_ble_eq_true rfl) dX5_work_35 ⟨Nat.zero_le _, Nat.zero_le _⟩ (fun I15 h => ?_)
      refine rc_goto X 63 dX5_work_38 (by decide) ?_
      exact rc_vret X hr dX5_work_63 h
theorem mX5_work {l : Launch} {G : rc_G} {a0 : Nat} {a1 : Nat} {I : rc_M} {post : rc_M → Prop} (T0 : kX5 G a0) (T1 : kX6 G a1) (h : wX5_work G a0 a1 I post) : rc_CV l yX5_work wsX5_work rmX5_work G [.ref a0, .ref a1] I post :=
  rc_body (by decide +kernel) rfl rfl (Nat.le_of_ble_eq_true rfl) rfl (fun p e s m below meth c X hr => gX5_work_0 X hr T0 T1 h)
/-! X5_frontProjector -/
abbrev rmX5_frontProjector : Room := { frames := 1, cells := 0, slots := 0, locals := 21 }
theorem dyX5_frontProjector : yX5_frontProjector.cls = RX5 ∧ yX5_frontProjector.cls ≠ "java/lang/invoke/MethodHandle" ∧ yX5_frontProjector.cls ≠ "java/lang/invoke/VarHandle" ∧ (parseMethodDescriptor yX5_frontProjector.desc).map (fun d => d.parameters.length) = some 0 := ⟨rfl, by decide +kernel, by decide +kernel, by decide +kernel⟩
theorem qX5_frontProjector_1 : Cond.fieldLink RX5 52 "ReelChanger$Show" "front" "I" ∈ wsX5_frontProjector := List.mem_of_getElem? (i := 1) (by decide +kernel)
theorem nX5_frontProjector_X5 : ∀ w ∈ wsX50, w ∈ wsX5_frontProjector := fun w h => List.mem_cons_of_mem _ (List.mem_append_right _ (h))
def wX5_frontProjector (G : rc_G) (a0 : Nat) (I : rc_M) (post : Option Nat → rc_M → Prop) : Prop :=
  wX5_projectorNumbered G a0 (I a0 7) I (fun r2 I1 => ∃ q3, r2 = some q3 ∧ kX2 G q3 ∧ (post (some q3) I1))
set_option maxRecDepth 100000 in
set_option maxHeartbeats 4000000 in
theorem gX5_frontProjector_0 {p : Program} {l : Launch} {e : Env} {s : State} {m : MethodId} {below : List Frame} {meth : Method} {c : Code} {G : rc_G} {a0 : Nat} {I : rc_M} {post : Option Nat → rc_M → Prop}  (X : rc_X p s m ([.ref a0] : List Value).toArray meth c cX5_frontProjector 1 wsX5_frontProjector RX5 G (rc_A G)) (hr : meth.sig.returnType = some (.object "ReelChanger$Projector")) (T0 : kX5 G a0)  (h : wX5_frontProjector G a0 I post) : rc_g p l e rmX5_frontProjector s m ([.ref a0] : List Value).toArray below meth c 0 0 (MQ below (rc_QQ G post) ([.ref a0] : List Value).toArray s 0 0 (rc_A G)) 1 G (rc_A G) 0 [(0, .ref a0)] [] I := by
  unfold wX5_frontProjector at h
  refine rc_aload_n X dX5_frontProjector_0 rfl 0 rfl ?_
  refine rc_aload_n X dX5_frontProjector_1 rfl 0 rfl ?_
  refine gfX5_front X T0.1 nX5_frontProjector_X5 qX5_frontProjector_1 dX5_frontProjector_2 ?_
  refine rc_cVQ (rest := []) X (mX5_projectorNumbered T0 h) gX5_frontProjector_X5_projectorNumbered rfl ⟨rfl, rfl⟩ dyX5_projectorNumbered ⟨Nat.le_of_ble_eq_true rfl, Nat.le_of_ble_eq_true rfl⟩ (rc_recv X T0.1 rfl) rfl rfl (Nat.le_of_ble_eq_true rfl) dX5_frontProjector_5 ⟨Nat.zero_le _, Nat.zero_le _⟩ (fun r2 I1 h => ?_)
  obtain ⟨q3, rfl, Tq3, h⟩ := h
  refine rc_qs ?_
  exact rc_aret X hr (some q3) dX5_frontProjector_8 h
theorem mX5_frontProjector {l : Launch} {G : rc_G} {a0 : Nat} {I : rc_M} {post : Option Nat → rc_M → Prop} (T0 : kX5 G a0) (h : wX5_frontProjector G a0 I post) : rc_CQ l yX5_frontProjector wsX5_frontProjector rmX5_frontProjector G [.ref a0] I post :=
  rc_body (by decide +kernel) rfl rfl (Nat.le_of_ble_eq_true rfl) rfl (fun p e s m below meth c X hr => gX5_frontProjector_0 X hr T0 h)
/-! X5_backProjector -/
abbrev rmX5_backProjector : Room := { frames := 1, cells := 0, slots := 0, locals := 21 }
theorem dyX5_backProjector : yX5_backProjector.cls = RX5 ∧ yX5_backProjector.cls ≠ "java/lang/invoke/MethodHandle" ∧ yX5_backProjector.cls ≠ "java/lang/invoke/VarHandle" ∧ (parseMethodDescriptor yX5_backProjector.desc).map (fun d => d.parameters.length) = some 0 := ⟨rfl, by decide +kernel, by decide +kernel, by decide +kernel⟩
theorem qX5_backProjector_1 : Cond.fieldLink RX5 52 "ReelChanger$Show" "front" "I" ∈ wsX5_backProjector := List.mem_of_getElem? (i := 1) (by decide +kernel)
theorem nX5_backProjector_X5 : ∀ w ∈ wsX50, w ∈ wsX5_backProjector := fun w h => List.mem_cons_of_mem _ (List.mem_append_right _ (h))
def wX5_backProjector (G : rc_G) (a0 : Nat) (I : rc_M) (post : Option Nat → rc_M → Prop) : Prop :=
  wX5_projectorNumbered G a0 (1 - (I a0 7)) I (fun r2 I1 => ∃ q3, r2 = some q3 ∧ kX2 G q3 ∧ (post (some q3) I1))
set_option maxRecDepth 100000 in
set_option maxHeartbeats 4000000 in
theorem gX5_backProjector_0 {p : Program} {l : Launch} {e : Env} {s : State} {m : MethodId} {below : List Frame} {meth : Method} {c : Code} {G : rc_G} {a0 : Nat} {I : rc_M} {post : Option Nat → rc_M → Prop}  (X : rc_X p s m ([.ref a0] : List Value).toArray meth c cX5_backProjector 1 wsX5_backProjector RX5 G (rc_A G)) (hr : meth.sig.returnType = some (.object "ReelChanger$Projector")) (T0 : kX5 G a0)  (h : wX5_backProjector G a0 I post) : rc_g p l e rmX5_backProjector s m ([.ref a0] : List Value).toArray below meth c 0 0 (MQ below (rc_QQ G post) ([.ref a0] : List Value).toArray s 0 0 (rc_A G)) 1 G (rc_A G) 0 [(0, .ref a0)] [] I := by
  unfold wX5_backProjector at h
  refine rc_aload_n X dX5_backProjector_0 rfl 0 rfl ?_
  refine rc_iconst X dX5_backProjector_1 ?_
  refine rc_aload_n X dX5_backProjector_2 rfl 0 rfl ?_
  refine gfX5_front X T0.1 nX5_backProjector_X5 qX5_backProjector_1 dX5_backProjector_3 ?_
  refine rc_isub X dX5_backProjector_6 ?_
  refine rc_cVQ (rest := []) X (mX5_projectorNumbered T0 h) gX5_backProjector_X5_projectorNumbered rfl ⟨rfl, rfl⟩ dyX5_projectorNumbered ⟨Nat.le_of_ble_eq_true rfl, Nat.le_of_ble_eq_true rfl⟩ (rc_recv X T0.1 rfl) rfl rfl (Nat.le_of_ble_eq_true rfl) dX5_backProjector_7 ⟨Nat.zero_le _, Nat.zero_le _⟩ (fun r2 I1 h => ?_)
  obtain ⟨q3, rfl, Tq3, h⟩ := h
  refine rc_qs ?_
  exact rc_aret X hr (some q3) dX5_backProjector_10 h
theorem mX5_backProjector {l : Launch} {G : rc_G} {a0 : Nat} {I : rc_M} {post : Option Nat → rc_M → Prop} (T0 : kX5 G a0) (h : wX5_backProjector G a0 I post) : rc_CQ l yX5_backProjector wsX5_backProjector rmX5_backProjector G [.ref a0] I post :=
  rc_body (by decide +kernel) rfl rfl (Nat.le_of_ble_eq_true rfl) rfl (fun p e s m below meth c X hr => gX5_backProjector_0 X hr T0 h)
/-! X5_framesBehindMark -/
abbrev rmX5_framesBehindMark : Room := { frames := 2, cells := 0, slots := 0, locals := 41 }
theorem dyX5_framesBehindMark : yX5_framesBehindMark.cls = RX5 ∧ yX5_framesBehindMark.cls ≠ "java/lang/invoke/MethodHandle" ∧ yX5_framesBehindMark.cls ≠ "java/lang/invoke/VarHandle" ∧ (parseMethodDescriptor yX5_framesBehindMark.desc).map (fun d => d.parameters.length) = some 2 := ⟨rfl, by decide +kernel, by decide +kernel, by decide +kernel⟩
theorem qX5_framesBehindMark_1 : Cond.fieldLink RX5 58 "ReelChanger$Show" "ranOut" "Z" ∈ wsX5_framesBehindMark := List.mem_of_getElem? (i := 1) (by decide +kernel)
theorem nX5_framesBehindMark_X5 : ∀ w ∈ wsX50, w ∈ wsX5_framesBehindMark := fun w h => List.mem_cons_of_mem _ (List.mem_append_left _ (List.mem_append_left _ (List.mem_append_left _ (List.mem_append_right _ (h)))))
theorem qX5_framesBehindMark_2 : Cond.fieldLink RX5 78 "ReelChanger$Projector" "state" "I" ∈ wsX5_framesBehindMark := List.mem_of_getElem? (i := 2) (by decide +kernel)
theorem nX5_framesBehindMark_X2 : ∀ w ∈ wsX20, w ∈ wsX5_framesBehindMark := fun w h => List.mem_cons_of_mem _ (List.mem_append_left _ (List.mem_append_left _ (List.mem_append_right _ (h))))
theorem qX5_framesBehindMark_3 : Cond.fieldLink RX5 81 "ReelChanger$Projector" "frame" "I" ∈ wsX5_framesBehindMark := List.mem_of_getElem? (i := 3) (by decide +kernel)
theorem qX5_framesBehindMark_4 : Cond.fieldLink RX5 170 "ReelChanger$Reel" "length" "I" ∈ wsX5_framesBehindMark := List.mem_of_getElem? (i := 4) (by decide +kernel)
theorem nX5_framesBehindMark_X3 : ∀ w ∈ wsX30, w ∈ wsX5_framesBehindMark := fun w h => List.mem_cons_of_mem _ (List.mem_append_left _ (List.mem_append_right _ (h)))
def wX5_framesBehindMark (G : rc_G) (a0 : Nat) (a1 : Nat) (a2 : Nat) (I : rc_M) (post : Int → rc_M → Prop) : Prop :=
  rc_R (I a0 9) ∧ (((I a0 9) = 0 → wX5_frontProjector G a0 I (fun r4 I3 => ∃ q5, r4 = some q5 ∧ kX2 G q5 ∧ (rc_R (I3 q5 0) ∧ (((I3 q5 0) = 3 → wX5_frontProjector G a0 I3 (fun r9 I8 => ∃ q10, r9 = some q10 ∧ kX2 G q10 ∧ (wX6_settingNumbered G a1 1 I8 (fun r12 I11 => post ((I8 q10 2) - ((I8 a2 0) - r12)) I11)))) ∧ (¬ (I3 q5 0) = 3 → post (-1) I3))))) ∧ (¬ (I a0 9) = 0 → post 1 I))
set_option maxRecDepth 100000 in
set_option maxHeartbeats 4000000 in
theorem gX5_framesBehindMark_0 {p : Program} {l : Launch} {e : Env} {s : State} {m : MethodId} {below : List Frame} {meth : Method} {c : Code} {G : rc_G} {a0 : Nat} {a1 : Nat} {a2 : Nat} {I : rc_M} {post : Int → rc_M → Prop}  (X : rc_X p s m ([.ref a0, .ref a1, .ref a2] : List Value).toArray meth c cX5_framesBehindMark 3 wsX5_framesBehindMark RX5 G (rc_A G)) (hr : meth.sig.returnType = some .int) (T0 : kX5 G a0) (T1 : kX6 G a1) (T2 : kX3 G a2)  (h : wX5_framesBehindMark G a0 a1 a2 I post) : rc_g p l e rmX5_framesBehindMark s m ([.ref a0, .ref a1, .ref a2] : List Value).toArray below meth c 0 0 (MQ below (rc_QI G post) ([.ref a0, .ref a1, .ref a2] : List Value).toArray s 0 0 (rc_A G)) 3 G (rc_A G) 0 [(0, .ref a0), (1, .ref a1), (2, .ref a2)] [] I := by
  unfold wX5_framesBehindMark at h
  refine rc_aload_n X dX5_framesBehindMark_0 rfl 0 rfl ?_
  refine gfX5_ranOut X T0.1 nX5_framesBehindMark_X5 qX5_framesBehindMark_1 dX5_framesBehindMark_1 ?_
  obtain ⟨c1, h⟩ := h
  refine rc_if_eq X 9 dX5_framesBehindMark_4 (by decide) c1 (fun c2 => ?_) (fun c2 => ?_)
  · have h := h.1 c2
    refine rc_aload_n X dX5_framesBehindMark_9 rfl 0 rfl ?_
    refine rc_cVQ (rest := []) X (mX5_frontProjector T0 h) gX5_framesBehindMark_X5_frontProjector rfl ⟨rfl, rfl⟩ dyX5_frontProjector ⟨Nat.le_of_ble_eq_true rfl, Nat.le_of_ble_eq_true rfl⟩ (rc_recv X T0.1 rfl) rfl rfl (Nat.le_of_ble_eq_true rfl) dX5_framesBehindMark_10 ⟨Nat.zero_le _, Nat.zero_le _⟩ (fun r4 I3 h => ?_)
    obtain ⟨q5, rfl, Tq5, h⟩ := h
    refine rc_qs ?_
    refine gfX2_state X Tq5.1 nX5_framesBehindMark_X2 qX5_framesBehindMark_2 dX5_framesBehindMark_13 ?_
    refine rc_iconst X dX5_framesBehindMark_16 ?_
    obtain ⟨c6, h⟩ := h
    refine rc_ic_eq X 22 dX5_framesBehindMark_17 (by decide) c6 ⟨by decide, by decide⟩ (fun c7 => ?_) (fun c7 => ?_)
    · have h := h.1 c7
      refine rc_aload_n X dX5_framesBehindMark_22 rfl 0 rfl ?_
      refine rc_cVQ (rest := []) X (mX5_frontProjector T0 h) gX5_framesBehindMark_X5_frontProjector rfl ⟨rfl, rfl⟩ dyX5_frontProjector ⟨Nat.le_of_ble_eq_true rfl, Nat.le_of_ble_eq_true rfl⟩ (rc_recv X T0.1 rfl) rfl rfl (Nat.le_of_ble_eq_true rfl) dX5_framesBehindMark_23 ⟨Nat.zero_le _, Nat.zero_le _⟩ (fun r9 I8 h => ?_)
      obtain ⟨q10, rfl, Tq10, h⟩ := h
      refine rc_qs ?_
      refine gfX2_frame X Tq10.1 nX5_framesBehindMark_X2 qX5_framesBehindMark_3 dX5_framesBehindMark_26 ?_
      refine rc_aload_n X dX5_framesBehindMark_29 rfl 2 rfl ?_
      refine gfX3_length X T2.1 nX5_framesBehindMark_X3 qX5_framesBehindMark_4 dX5_framesBehindMark_30 ?_
      refine rc_aload_n X dX5_framesBehindMark_33 rfl 1 rfl ?_
      refine rc_iconst X dX5_framesBehindMark_34 ?_
      refine rc_cVI (rest := [.int (rc_o (I8 a2 0)), .int (rc_o (I8 q10 2))]) X (mX6_settingNumbered T1 h) gX5_framesBehindMark_X6_settingNumbered rfl ⟨rfl, rfl⟩ dyX6_settingNumbered ⟨Nat.le_of_ble_eq_true rfl, Nat.le_of_ble_eq_true rfl⟩ (rc_recv X T1.1 rfl) rfl rfl (Nat.le_of_ble_eq_true rfl) dX5_framesBehindMark_35 ⟨Nat.zero_le _, Nat.zero_le _⟩ (fun r12 I11 h => ?_)
      refine rc_isub X dX5_framesBehindMark_38 ?_
      refine rc_isub X dX5_framesBehindMark_39 ?_
      exact rc_iret X hr dX5_framesBehindMark_40 h
    · have h := h.2 c7
      refine rc_iconst X dX5_framesBehindMark_20 ?_
      exact rc_iret X hr dX5_framesBehindMark_21 h
  · have h := h.2 c2
    refine rc_iconst X dX5_framesBehindMark_7 ?_
    exact rc_iret X hr dX5_framesBehindMark_8 h
theorem mX5_framesBehindMark {l : Launch} {G : rc_G} {a0 : Nat} {a1 : Nat} {a2 : Nat} {I : rc_M} {post : Int → rc_M → Prop} (T0 : kX5 G a0) (T1 : kX6 G a1) (T2 : kX3 G a2) (h : wX5_framesBehindMark G a0 a1 a2 I post) : rc_CI l yX5_framesBehindMark wsX5_framesBehindMark rmX5_framesBehindMark G [.ref a0, .ref a1, .ref a2] I post :=
  rc_body (by decide +kernel) rfl rfl (Nat.le_of_ble_eq_true rfl) rfl (fun p e s m below meth c X hr => gX5_framesBehindMark_0 X hr T0 T1 T2 h)
/-! X5_startBack -/
abbrev rmX5_startBack : Room := { frames := 3, cells := 0, slots := 0, locals := 63 }
theorem dyX5_startBack : yX5_startBack.cls = RX5 ∧ yX5_startBack.cls ≠ "java/lang/invoke/MethodHandle" ∧ yX5_startBack.cls ≠ "java/lang/invoke/VarHandle" ∧ (parseMethodDescriptor yX5_startBack.desc).map (fun d => d.parameters.length) = some 2 := ⟨rfl, by decide +kernel, by decide +kernel, by decide +kernel⟩
theorem qX5_startBack_1 : Cond.fieldLink RX5 78 "ReelChanger$Projector" "state" "I" ∈ wsX5_startBack := List.mem_of_getElem? (i := 1) (by decide +kernel)
theorem nX5_startBack_X2 : ∀ w ∈ wsX20, w ∈ wsX5_startBack := fun w h => List.mem_cons_of_mem _ (List.mem_append_left _ (List.mem_append_left _ (List.mem_append_left _ (List.mem_append_right _ (h)))))
theorem qX5_startBack_2 : Cond.fieldLink RX5 42 "ReelChanger$Show" "late" "I" ∈ wsX5_startBack := List.mem_of_getElem? (i := 2) (by decide +kernel)
theorem nX5_startBack_X5 : ∀ w ∈ wsX50, w ∈ wsX5_startBack := fun w h => List.mem_cons_of_mem _ (List.mem_append_left _ (List.mem_append_left _ (List.mem_append_right _ (h))))
def wX5_startBack (G : rc_G) (a0 : Nat) (a1 : Nat) (a2 : Nat) (I : rc_M) (post : rc_M → Prop) : Prop :=
  wX5_backProjector G a0 I (fun r2 I1 => ∃ q3, r2 = some q3 ∧ kX2 G q3 ∧ (rc_R (I1 q3 0) ∧ (((I1 q3 0) = 1 → wX5_framesBehindMark G a0 a1 a2 I1 (fun r7 I6 => rc_R r7 ∧ ((r7 < 0 → post I6) ∧ (¬ r7 < 0 → wX6_settingNumbered G a1 0 I6 (fun r11 I10 => wX2_start G q3 (-r11) I10 (fun I12 => rc_R r7 ∧ ((r7 ≤ 0 → post I12) ∧ (¬ r7 ≤ 0 → ∀ I15, I15 = rc_s I12 a0 4 ((I12 a0 4) + 1) → post I15)))))))) ∧ (¬ (I1 q3 0) = 1 → post I1))))
set_option maxRecDepth 100000 in
set_option maxHeartbeats 4000000 in
theorem gX5_startBack_0 {p : Program} {l : Launch} {e : Env} {s : State} {m : MethodId} {below : List Frame} {meth : Method} {c : Code} {G : rc_G} {a0 : Nat} {a1 : Nat} {a2 : Nat} {I : rc_M} {post : rc_M → Prop}  (X : rc_X p s m ([.ref a0, .ref a1, .ref a2] : List Value).toArray meth c cX5_startBack 5 wsX5_startBack RX5 G (rc_A G)) (hr : meth.sig.returnType = none) (T0 : kX5 G a0) (T1 : kX6 G a1) (T2 : kX3 G a2)  (h : wX5_startBack G a0 a1 a2 I post) : rc_g p l e rmX5_startBack s m ([.ref a0, .ref a1, .ref a2] : List Value).toArray below meth c 0 0 (MQ below (rc_QV G post) ([.ref a0, .ref a1, .ref a2] : List Value).toArray s 0 0 (rc_A G)) 5 G (rc_A G) 0 [(0, .ref a0), (1, .ref a1), (2, .ref a2)] [] I := by
  unfold wX5_startBack at h
  refine rc_aload_n X dX5_startBack_0 rfl 0 rfl ?_
  refine rc_cVQ (rest := []) X (mX5_backProjector T0 h) gX5_startBack_X5_backProjector rfl ⟨rfl, rfl⟩ dyX5_backProjector ⟨Nat.le_of_ble_eq_true rfl, Nat.le_of_ble_eq_true rfl⟩ (rc_recv X T0.1 rfl) rfl rfl (Nat.le_of_ble_eq_true rfl) dX5_startBack_1 ⟨Nat.zero_le _, Nat.zero_le _⟩ (fun r2 I1 h => ?_)
  obtain ⟨q3, rfl, Tq3, h⟩ := h
  refine rc_qs ?_
  refine rc_astore_n X [(3, .ref q3), (0, .ref a0), (1, .ref a1), (2, .ref a2)] dX5_startBack_4 rfl (by decide) rfl ?_
  refine rc_aload_n X dX5_startBack_5 rfl 0 rfl ?_
  refine gfX2_state X Tq3.1 nX5_startBack_X2 qX5_startBack_1 dX5_startBack_6 ?_
  refine rc_iconst X dX5_startBack_9 ?_
  obtain ⟨c4, h⟩ := h
  refine rc_ic_eq X 14 dX5_startBack_10 (by decide) c4 ⟨by decide, by decide⟩ (fun c5 => ?_) (fun c5 => ?_)
  · have h := h.1 c5
    refine rc_aload_n X dX5_startBack_14 rfl 1 rfl ?_
    refine rc_aload_n X dX5_startBack_15 rfl 2 rfl ?_
    refine rc_aload_n X dX5_startBack_16 rfl 3 rfl ?_
    refine rc_cVI (rest := []) X (mX5_framesBehindMark T0 T1 T2 h) gX5_startBack_X5_framesBehindMark rfl ⟨rfl, rfl⟩ dyX5_framesBehindMark ⟨Nat.le_of_ble_eq_true rfl, Nat.le_of_ble_eq_true rfl⟩ (rc_recv X T0.1 rfl) rfl rfl (Nat.le_of_ble_eq_true rfl) dX5_startBack_17 ⟨Nat.zero_le _, Nat.zero_le _⟩ (fun r7 I6 h => ?_)
    refine rc_istore X [(4, .int (rc_o r7)), (3, .ref q3), (0, .ref a0), (1, .ref a1), (2, .ref a2)] dX5_startBack_20 (by decide) rfl ?_
    refine rc_iload X dX5_startBack_22 0 rfl ?_
    obtain ⟨c8, h⟩ := h
    refine rc_if_lt X 52 dX5_startBack_24 (by decide) c8 (fun c9 => ?_) (fun c9 => ?_)
    · have h := h.1 c9
      exact rc_vret X hr dX5_startBack_52 h
    · have h := h.2 c9
      refine rc_aload_n X dX5_startBack_27 rfl 1 rfl ?_
      refine rc_aload_n X dX5_startBack_28 rfl 3 rfl ?_
      refine rc_iconst X dX5_startBack_29 ?_
      refine rc_cVI (rest := [.ref q3]) X (mX6_settingNumbered T1 h) gX5_startBack_X6_settingNumbered rfl ⟨rfl, rfl⟩ dyX6_settingNumbered ⟨Nat.le_of_ble_eq_true rfl, Nat.le_of_ble_eq_true rfl⟩ (rc_recv X T1.1 rfl) rfl rfl (Nat.le_of_ble_eq_true rfl) dX5_startBack_30 ⟨Nat.zero_le _, Nat.zero_le _⟩ (fun r11 I10 h => ?_)
      refine rc_ineg X dX5_startBack_33 ?_
      refine rc_cVV (rest := []) X (mX2_start Tq3 h) gX5_startBack_X2_start rfl ⟨rfl, rfl⟩ dyX2_start ⟨Nat.le_of_ble_eq_true rfl, Nat.le_of_ble_eq_true rfl⟩ (rc_recv X Tq3.1 rfl) rfl rfl (Nat.le_of_ble_eq_true rfl) dX5_startBack_34 ⟨Nat.zero_le _, Nat.zero_le _⟩ (fun I12 h => ?_)
      refine rc_iload X dX5_startBack_37 0 rfl ?_
      obtain ⟨c13, h⟩ := h
      refine rc_if_le X 52 dX5_startBack_39 (by decide) c13 (fun c14 => ?_) (fun c14 => ?_)
      · have h := h.1 c14
        exact rc_vret X hr dX5_startBack_52 h
      · have h := h.2 c14
        refine rc_aload_n X dX5_startBack_42 rfl 2 rfl ?_
        refine rc_dup X dX5_startBack_43 rfl ?_
        refine gfX5_late X T0.1 nX5_startBack_X5 qX5_startBack_2 dX5_startBack_44 ?_
        refine rc_iconst X dX5_startBack_47 ?_
        refine rc_iadd X dX5_startBack_48 ?_
        refine pfX5_late X T0.1 nX5_startBack_X5 qX5_startBack_2 dX5_startBack_49 (fun I15 e15 => ?_)
        have h := h I15 e15
        exact rc_vret X hr dX5_startBack_52 h
  · have h := h.2 c5
    exact rc_vret X hr dX5_startBack_13 h
theorem mX5_startBack {l : Launch} {G : rc_G} {a0 : Nat} {a1 : Nat} {a2 : Nat} {I : rc_M} {post : rc_M → Prop} (T0 : kX5 G a0) (T1 : kX6 G a1) (T2 : kX3 G a2) (h : wX5_startBack G a0 a1 a2 I post) : rc_CV l yX5_startBack wsX5_startBack rmX5_startBack G [.ref a0, .ref a1, .ref a2] I post :=
  rc_body (by decide +kernel) rfl rfl (Nat.le_of_ble_eq_true rfl) rfl (fun p e s m below meth c X hr => gX5_startBack_0 X hr T0 T1 T2 h)
/-! X5_goOn -/
abbrev rmX5_goOn : Room := { frames := 1, cells := 0, slots := 0, locals := 20 }
theorem dyX5_goOn : yX5_goOn.cls = RX5 ∧ yX5_goOn.cls ≠ "java/lang/invoke/MethodHandle" ∧ yX5_goOn.cls ≠ "java/lang/invoke/VarHandle" ∧ (parseMethodDescriptor yX5_goOn.desc).map (fun d => d.parameters.length) = some 1 := ⟨rfl, by decide +kernel, by decide +kernel, by decide +kernel⟩
theorem qX5_goOn_1 : Cond.fieldLink RX5 81 "ReelChanger$Projector" "frame" "I" ∈ wsX5_goOn := List.mem_of_getElem? (i := 1) (by decide +kernel)
theorem nX5_goOn_X2 : ∀ w ∈ wsX20, w ∈ wsX5_goOn := fun w h => List.mem_cons_of_mem _ (List.mem_append_right _ (h))
def wX5_goOn (G : rc_G) (a0 : Nat) (I : rc_M) (post : rc_M → Prop) : Prop :=
  wX2_isMoving G a0 I (fun r2 I1 => rc_R r2 ∧ ((r2 = 0 → post I1) ∧ (¬ r2 = 0 → ∀ I5, I5 = rc_s I1 a0 2 ((I1 a0 2) + 1) → post I5)))
set_option maxRecDepth 100000 in
set_option maxHeartbeats 4000000 in
theorem gX5_goOn_0 {p : Program} {l : Launch} {e : Env} {s : State} {m : MethodId} {below : List Frame} {meth : Method} {c : Code} {G : rc_G} {a0 : Nat} {I : rc_M} {post : rc_M → Prop}  (X : rc_X p s m ([.ref a0] : List Value).toArray meth c cX5_goOn 1 wsX5_goOn RX5 G (rc_A G)) (hr : meth.sig.returnType = none) (T0 : kX2 G a0)  (h : wX5_goOn G a0 I post) : rc_g p l e rmX5_goOn s m ([.ref a0] : List Value).toArray below meth c 0 0 (MQ below (rc_QV G post) ([.ref a0] : List Value).toArray s 0 0 (rc_A G)) 1 G (rc_A G) 0 [(0, .ref a0)] [] I := by
  unfold wX5_goOn at h
  refine rc_aload_n X dX5_goOn_0 rfl 0 rfl ?_
  refine rc_cVI (rest := []) X (mX2_isMoving T0 h) gX5_goOn_X2_isMoving rfl ⟨rfl, rfl⟩ dyX2_isMoving ⟨Nat.le_of_ble_eq_true rfl, Nat.le_of_ble_eq_true rfl⟩ (rc_recv X T0.1 rfl) rfl rfl (Nat.le_of_ble_eq_true rfl) dX5_goOn_1 ⟨Nat.zero_le _, Nat.zero_le _⟩ (fun r2 I1 h => ?_)
  obtain ⟨c3, h⟩ := h
  refine rc_if_eq X 17 dX5_goOn_4 (by decide) c3 (fun c4 => ?_) (fun c4 => ?_)
  · have h := h.1 c4
    exact rc_vret X hr dX5_goOn_17 h
  · have h := h.2 c4
    refine rc_aload_n X dX5_goOn_7 rfl 0 rfl ?_
    refine rc_dup X dX5_goOn_8 rfl ?_
    refine gfX2_frame X T0.1 nX5_goOn_X2 qX5_goOn_1 dX5_goOn_9 ?_
    refine rc_iconst X dX5_goOn_12 ?_
    refine rc_iadd X dX5_goOn_13 ?_
    refine pfX2_frame X T0.1 nX5_goOn_X2 qX5_goOn_1 dX5_goOn_14 (fun I5 e5 => ?_)
    have h := h I5 e5
    exact rc_vret X hr dX5_goOn_17 h
theorem mX5_goOn {l : Launch} {G : rc_G} {a0 : Nat} {I : rc_M} {post : rc_M → Prop} (T0 : kX2 G a0) (h : wX5_goOn G a0 I post) : rc_CV l yX5_goOn wsX5_goOn rmX5_goOn G [.ref a0] I post :=
  rc_body (by decide +kernel) rfl rfl (Nat.le_of_ble_eq_true rfl) rfl (fun p e s m below meth c X hr => gX5_goOn_0 X hr T0 h)
/-! X5_wearSplice -/
abbrev rmX5_wearSplice : Room := { frames := 2, cells := 0, slots := 0, locals := 82 }
theorem dyX5_wearSplice : yX5_wearSplice.cls = RX5 ∧ yX5_wearSplice.cls ≠ "java/lang/invoke/MethodHandle" ∧ yX5_wearSplice.cls ≠ "java/lang/invoke/VarHandle" ∧ (parseMethodDescriptor yX5_wearSplice.desc).map (fun d => d.parameters.length) = some 1 := ⟨rfl, by decide +kernel, by decide +kernel, by decide +kernel⟩
theorem qX5_wearSplice_1 : Cond.fieldLink RX5 78 "ReelChanger$Projector" "state" "I" ∈ wsX5_wearSplice := List.mem_of_getElem? (i := 1) (by decide +kernel)
theorem nX5_wearSplice_X2 : ∀ w ∈ wsX20, w ∈ wsX5_wearSplice := fun w h => List.mem_cons_of_mem _ (List.mem_append_left _ (List.mem_append_left _ (List.mem_append_left _ (List.mem_append_right _ (h)))))
theorem qX5_wearSplice_2 : Cond.fieldLink RX5 81 "ReelChanger$Projector" "frame" "I" ∈ wsX5_wearSplice := List.mem_of_getElem? (i := 2) (by decide +kernel)
theorem qX5_wearSplice_3 : Cond.fieldLink RX5 45 "ReelChanger$Show" "breaks" "I" ∈ wsX5_wearSplice := List.mem_of_getElem? (i := 3) (by decide +kernel)
theorem nX5_wearSplice_X5 : ∀ w ∈ wsX50, w ∈ wsX5_wearSplice := fun w h => List.mem_cons_of_mem _ (List.mem_append_left _ (List.mem_append_left _ (List.mem_append_right _ (h))))
theorem qX5_wearSplice_4 : Cond.fieldLink RX5 12 "ReelChanger$Show" "operator" "LReelChanger$Operator;" ∈ wsX5_wearSplice := List.mem_of_getElem? (i := 4) (by decide +kernel)
theorem qX5_wearSplice_5 : Cond.fieldLink RX5 52 "ReelChanger$Show" "front" "I" ∈ wsX5_wearSplice := List.mem_of_getElem? (i := 5) (by decide +kernel)
def wX5_wearSplice (G : rc_G) (a0 : Nat) (a1 : Nat) (I : rc_M) (post : rc_M → Prop) : Prop :=
  wX5_frontProjector G a0 I (fun r2 I1 => ∃ q3, r2 = some q3 ∧ kX2 G q3 ∧ (rc_R (I1 q3 0) ∧ ((¬ (I1 q3 0) = 3 → post I1) ∧ ((I1 q3 0) = 3 → wX3_breaksAt G a1 (I1 q3 2) I1 (fun r7 I6 => rc_R r7 ∧ ((¬ r7 = 0 → ∀ I10, I10 = rc_s I6 q3 0 5 → ∀ I11, I11 = rc_s I10 a0 5 ((I10 a0 5) + 1) → wX0_addFirst G (a0 + 1) 2 (I11 a0 7) I11 (fun I12 => wX5_backProjector G a0 I12 (fun r14 I13 => ∃ q15, r14 = some q15 ∧ kX2 G q15 ∧ (rc_R (I13 q15 0) ∧ ((¬ (I13 q15 0) = 2 → post I13) ∧ ((I13 q15 0) = 2 → wX5_backProjector G a0 I13 (fun r19 I18 => ∃ q20, r19 = some q20 ∧ kX2 G q20 ∧ (∀ I21, I21 = rc_s I18 q20 0 1 → post I21)))))))) ∧ (r7 = 0 → post I6)))))))
set_option maxRecDepth 100000 in
set_option maxHeartbeats 4000000 in
theorem gX5_wearSplice_0 {p : Program} {l : Launch} {e : Env} {s : State} {m : MethodId} {below : List Frame} {meth : Method} {c : Code} {G : rc_G} {a0 : Nat} {a1 : Nat} {I : rc_M} {post : rc_M → Prop}  (X : rc_X p s m ([.ref a0, .ref a1] : List Value).toArray meth c cX5_wearSplice 3 wsX5_wearSplice RX5 G (rc_A G)) (hr : meth.sig.returnType = none) (T0 : kX5 G a0) (T1 : kX3 G a1)  (h : wX5_wearSplice G a0 a1 I post) : rc_g p l e rmX5_wearSplice s m ([.ref a0, .ref a1] : List Value).toArray below meth c 0 0 (MQ below (rc_QV G post) ([.ref a0, .ref a1] : List Value).toArray s 0 0 (rc_A G)) 3 G (rc_A G) 0 [(0, .ref a0), (1, .ref a1)] [] I := by
  unfold wX5_wearSplice at h
  refine rc_aload_n X dX5_wearSplice_0 rfl 0 rfl ?_
  refine rc_cVQ (rest := []) X (mX5_frontProjector T0 h) gX5_wearSplice_X5_frontProjector rfl ⟨rfl, rfl⟩ dyX5_frontProjector ⟨Nat.le_of_ble_eq_true rfl, Nat.le_of_ble_eq_true rfl⟩ (rc_recv X T0.1 rfl) rfl rfl (Nat.le_of_ble_eq_true rfl) dX5_wearSplice_1 ⟨Nat.zero_le _, Nat.zero_le _⟩ (fun r2 I1 h => ?_)
  obtain ⟨q3, rfl, Tq3, h⟩ := h
  refine rc_qs ?_
  refine rc_astore_n X [(2, .ref q3), (0, .ref a0), (1, .ref a1)] dX5_wearSplice_4 rfl (by decide) rfl ?_
  refine rc_aload_n X dX5_wearSplice_5 rfl 0 rfl ?_
  refine gfX2_state X Tq3.1 nX5_wearSplice_X2 qX5_wearSplice_1 dX5_wearSplice_6 ?_
  refine rc_iconst X dX5_wearSplice_9 ?_
  obtain ⟨c4, h⟩ := h
  refine rc_ic_ne X 24 dX5_wearSplice_10 (by decide) c4 ⟨by decide, by decide⟩ (fun c5 => ?_) (fun c5 => ?_)
  · have h := h.1 c5
    exact rc_vret X hr dX5_wearSplice_24 h
  · have h := h.2 c5
    refine rc_aload_n X dX5_wearSplice_13 rfl 2 rfl ?_
    refine rc_aload_n X dX5_wearSplice_14 rfl 0 rfl ?_
    refine gfX2_frame X Tq3.1 nX5_wearSplice_X2 qX5_wearSplice_2 dX5_wearSplice_15 ?_
    refine rc_cVI (rest := []) X (mX3_breaksAt T1 h) gX5_wearSplice_X3_breaksAt rfl ⟨rfl, rfl⟩ dyX3_breaksAt ⟨Nat.le_of_ble_eq_true rfl, Nat.le_of_ble_eq_true rfl⟩ (rc_recv X T1.1 rfl) rfl rfl (Nat.le_of_ble_eq_true rfl) dX5_wearSplice_18 ⟨Nat.zero_le _, Nat.zero_le _⟩ (fun r7 I6 h => ?_)
    obtain ⟨c8, h⟩ := h
    refine rc_if_ne X 25 dX5_wearSplice_21 (by decide) c8 (fun c9 => ?_) (fun c9 => ?_)
    · have h := h.1 c9
      refine rc_aload_n X dX5_wearSplice_25 rfl 0 rfl ?_
      refine rc_iconst X dX5_wearSplice_26 ?_
      refine pfX2_state X Tq3.1 nX5_wearSplice_X2 qX5_wearSplice_1 dX5_wearSplice_27 (fun I10 e10 => ?_)
      have h := h I10 e10
      refine rc_aload_n X dX5_wearSplice_30 rfl 1 rfl ?_
      refine rc_dup X dX5_wearSplice_31 rfl ?_
      refine gfX5_breaks X T0.1 nX5_wearSplice_X5 qX5_wearSplice_3 dX5_wearSplice_32 ?_
      refine rc_iconst X dX5_wearSplice_35 ?_
      refine rc_iadd X dX5_wearSplice_36 ?_
      refine pfX5_breaks X T0.1 nX5_wearSplice_X5 qX5_wearSplice_3 dX5_wearSplice_37 (fun I11 e11 => ?_)
      have h := h I11 e11
      refine rc_aload_n X dX5_wearSplice_40 rfl 1 rfl ?_
      refine gfX5_operator X T0.1 nX5_wearSplice_X5 qX5_wearSplice_4 dX5_wearSplice_41 ?_
      refine rc_iconst X dX5_wearSplice_44 ?_
      refine rc_aload_n X dX5_wearSplice_45 rfl 1 rfl ?_
      refine gfX5_front X T0.1 nX5_wearSplice_X5 qX5_wearSplice_5 dX5_wearSplice_46 ?_
      refine rc_cVV (rest := []) X (mX0_addFirst T0.2.1 h) gX5_wearSplice_X0_addFirst rfl ⟨rfl, rfl⟩ dyX0_addFirst ⟨Nat.le_of_ble_eq_true rfl, Nat.le_of_ble_eq_true rfl⟩ (rc_recv X T0.2.1.1 rfl) rfl rfl (Nat.le_of_ble_eq_true rfl) dX5_wearSplice_49 ⟨Nat.zero_le _, Nat.zero_le _⟩ (fun I12 h => ?_)
      refine rc_aload_n X dX5_wearSplice_52 rfl 1 rfl ?_
      refine rc_cVQ (rest := []) X (mX5_backProjector T0 h) gX5_wearSplice_X5_backProjector rfl ⟨rfl, rfl⟩ dyX5_backProjector ⟨Nat.le_of_ble_eq_true rfl, Nat.le_of_ble_eq_true rfl⟩ (rc_recv X T0.1 rfl) rfl rfl (Nat.le_of_ble_eq_true rfl) dX5_wearSplice_53 ⟨Nat.zero_le _, Nat.zero_le _⟩ (fun r14 I13 h => ?_)
      obtain ⟨q15, rfl, Tq15, h⟩ := h
      refine rc_qs ?_
      refine gfX2_state X Tq15.1 nX5_wearSplice_X2 qX5_wearSplice_1 dX5_wearSplice_56 ?_
      refine rc_iconst X dX5_wearSplice_59 ?_
      obtain ⟨c16, h⟩ := h
      refine rc_ic_ne X 71 dX5_wearSplice_60 (by decide) c16 ⟨by decide, by decide⟩ (fun c17 => ?_) (fun c17 => ?_)
      · have h := h.1 c17
        exact rc_vret X hr dX5_wearSplice_71 h
      · have h := h.2 c17
        refine rc_aload_n X dX5_wearSplice_63 rfl 1 rfl ?_
        refine rc_cVQ (rest := []) X (mX5_backProjector T0 h) gX5_wearSplice_X5_backProjector rfl ⟨rfl, rfl⟩ dyX5_backProjector ⟨Nat.le_of_ble_eq_true rfl, Nat.le_of_ble_eq_true rfl⟩ (rc_recv X T0.1 rfl) rfl rfl (Nat.le_of_ble_eq_true rfl) dX5_wearSplice_64 ⟨Nat.zero_le _, Nat.zero_le _⟩ (fun r19 I18 h => ?_)
        obtain ⟨q20, rfl, Tq20, h⟩ := h
        refine rc_qs ?_
        refine rc_iconst X dX5_wearSplice_67 ?_
        refine pfX2_state X Tq20.1 nX5_wearSplice_X2 qX5_wearSplice_1 dX5_wearSplice_68 (fun I21 e21 => ?_)
        have h := h I21 e21
        exact rc_vret X hr dX5_wearSplice_71 h
    · have h := h.2 c9
      exact rc_vret X hr dX5_wearSplice_24 h
theorem mX5_wearSplice {l : Launch} {G : rc_G} {a0 : Nat} {a1 : Nat} {I : rc_M} {post : rc_M → Prop} (T0 : kX5 G a0) (T1 : kX3 G a1) (h : wX5_wearSplice G a0 a1 I post) : rc_CV l yX5_wearSplice wsX5_wearSplice rmX5_wearSplice G [.ref a0, .ref a1] I post :=
  rc_body (by decide +kernel) rfl rfl (Nat.le_of_ble_eq_true rfl) rfl (fun p e s m below meth c X hr => gX5_wearSplice_0 X hr T0 T1 h)
/-! X5_orderNextReel -/
abbrev rmX5_orderNextReel : Room := { frames := 3, cells := 0, slots := 0, locals := 64 }
theorem dyX5_orderNextReel : yX5_orderNextReel.cls = RX5 ∧ yX5_orderNextReel.cls ≠ "java/lang/invoke/MethodHandle" ∧ yX5_orderNextReel.cls ≠ "java/lang/invoke/VarHandle" ∧ (parseMethodDescriptor yX5_orderNextReel.desc).map (fun d => d.parameters.length) = some 1 := ⟨rfl, by decide +kernel, by decide +kernel, by decide +kernel⟩
theorem qX5_orderNextReel_1 : Cond.fieldLink RX5 12 "ReelChanger$Show" "operator" "LReelChanger$Operator;" ∈ wsX5_orderNextReel := List.mem_of_getElem? (i := 1) (by decide +kernel)
theorem nX5_orderNextReel_X5 : ∀ w ∈ wsX50, w ∈ wsX5_orderNextReel := fun w h => List.mem_cons_of_mem _ (List.mem_append_left _ (List.mem_append_left _ (List.mem_append_right _ (h))))
theorem qX5_orderNextReel_2 : Cond.fieldLink RX5 52 "ReelChanger$Show" "front" "I" ∈ wsX5_orderNextReel := List.mem_of_getElem? (i := 2) (by decide +kernel)
theorem qX5_orderNextReel_3 : Cond.fieldLink RX5 84 "ReelChanger$Stock" "placeCount" "I" ∈ wsX5_orderNextReel := List.mem_of_getElem? (i := 3) (by decide +kernel)
theorem nX5_orderNextReel_X6 : ∀ w ∈ wsX60, w ∈ wsX5_orderNextReel := fun w h => List.mem_cons_of_mem _ (List.mem_append_left _ (List.mem_append_right _ (h)))
theorem qX5_orderNextReel_4 : Cond.fieldLink RX5 55 "ReelChanger$Show" "threaded" "I" ∈ wsX5_orderNextReel := List.mem_of_getElem? (i := 4) (by decide +kernel)
def wX5_orderNextReel (G : rc_G) (a0 : Nat) (a1 : Nat) (I : rc_M) (post : rc_M → Prop) : Prop :=
  wX0_addLast G (a0 + 1) 0 (I a0 7) I (fun I1 => wX0_threadTasks G (a0 + 1) I1 (fun r3 I2 => rc_R ((I1 a1 1) - (I1 a0 8)) ∧ (rc_R r3 ∧ ((((I1 a1 1) - (I1 a0 8)) ≤ r3 → post I2) ∧ (¬ ((I1 a1 1) - (I1 a0 8)) ≤ r3 → wX0_addLast G (a0 + 1) 1 (I2 a0 7) I2 (fun I7 => post I7))))))
set_option maxRecDepth 100000 in
set_option maxHeartbeats 4000000 in
theorem gX5_orderNextReel_0 {p : Program} {l : Launch} {e : Env} {s : State} {m : MethodId} {below : List Frame} {meth : Method} {c : Code} {G : rc_G} {a0 : Nat} {a1 : Nat} {I : rc_M} {post : rc_M → Prop}  (X : rc_X p s m ([.ref a0, .ref a1] : List Value).toArray meth c cX5_orderNextReel 2 wsX5_orderNextReel RX5 G (rc_A G)) (hr : meth.sig.returnType = none) (T0 : kX5 G a0) (T1 : kX6 G a1)  (h : wX5_orderNextReel G a0 a1 I post) : rc_g p l e rmX5_orderNextReel s m ([.ref a0, .ref a1] : List Value).toArray below meth c 0 0 (MQ below (rc_QV G post) ([.ref a0, .ref a1] : List Value).toArray s 0 0 (rc_A G)) 2 G (rc_A G) 0 [(0, .ref a0), (1, .ref a1)] [] I := by
  unfold wX5_orderNextReel at h
  refine rc_aload_n X dX5_orderNextReel_0 rfl 0 rfl ?_
  refine gfX5_operator X T0.1 nX5_orderNextReel_X5 qX5_orderNextReel_1 dX5_orderNextReel_1 ?_
  refine rc_iconst X dX5_orderNextReel_4 ?_
  refine rc_aload_n X dX5_orderNextReel_5 rfl 0 rfl ?_
  refine gfX5_front X T0.1 nX5_orderNextReel_X5 qX5_orderNextReel_2 dX5_orderNextReel_6 ?_
  refine rc_cVV (rest := []) X (mX0_addLast T0.2.1 h) gX5_orderNextReel_X0_addLast rfl ⟨rfl, rfl⟩ dyX0_addLast ⟨Nat.le_of_ble_eq_true rfl, Nat.le_of_ble_eq_true rfl⟩ (rc_recv X T0.2.1.1 rfl) rfl rfl (Nat.le_of_ble_eq_true rfl) dX5_orderNextReel_9 ⟨Nat.zero_le _, Nat.zero_le _⟩ (fun I1 h => ?_)
  refine rc_aload_n X dX5_orderNextReel_12 rfl 1 rfl ?_
  refine gfX6_placeCount X T1.1 nX5_orderNextReel_X6 qX5_orderNextReel_3 dX5_orderNextReel_13 ?_
  refine rc_aload_n X dX5_orderNextReel_16 rfl 0 rfl ?_
  refine gfX5_threaded X T0.1 nX5_orderNextReel_X5 qX5_orderNextReel_4 dX5_orderNextReel_17 ?_
  refine rc_isub X dX5_orderNextReel_20 ?_
  refine rc_aload_n X dX5_orderNextReel_21 rfl 0 rfl ?_
  refine gfX5_operator X T0.1 nX5_orderNextReel_X5 qX5_orderNextReel_1 dX5_orderNextReel_22 ?_
  refine rc_cVI (rest := [.int (rc_o ((I1 a1 1) - (I1 a0 8)))]) X (mX0_threadTasks T0.2.1 h) gX5_orderNextReel_X0_threadTasks rfl ⟨rfl, rfl⟩ dyX0_threadTasks ⟨Nat.le_of_ble_eq_true rfl, Nat.le_of_ble_eq_true rfl⟩ (rc_recv X T0.2.1.1 rfl) rfl rfl (Nat.le_of_ble_eq_true rfl) dX5_orderNextReel_25 ⟨Nat.zero_le _, Nat.zero_le _⟩ (fun r3 I2 h => ?_)
  obtain ⟨c4, h⟩ := h
  obtain ⟨c5, h⟩ := h
  refine rc_ic_le X 43 dX5_orderNextReel_28 (by decide) c4 c5 (fun c6 => ?_) (fun c6 => ?_)
  · have h := h.1 c6
    exact rc_vret X hr dX5_orderNextReel_43 h
  · have h := h.2 c6
    refine rc_aload_n X dX5_orderNextReel_31 rfl 0 rfl ?_
    refine gfX5_operator X T0.1 nX5_orderNextReel_X5 qX5_orderNextReel_1 dX5_orderNextReel_32 ?_
    refine rc_iconst X dX5_orderNextReel_35 ?_
    refine rc_aload_n X dX5_orderNextReel_36 rfl 0 rfl ?_
    refine gfX5_front X T0.1 nX5_orderNextReel_X5 qX5_orderNextReel_2 dX5_orderNextReel_37 ?_
    refine rc_cVV (rest := []) X (mX0_addLast T0.2.1 h) gX5_orderNextReel_X0_addLast rfl ⟨rfl, rfl⟩ dyX0_addLast ⟨Nat.le_of_ble_eq_true rfl, Nat.le_of_ble_eq_true rfl⟩ (rc_recv X T0.2.1.1 rfl) rfl rfl (Nat.le_of_ble_eq_true rfl) dX5_orderNextReel_40 ⟨Nat.zero_le _, Nat.zero_le _⟩ (fun I7 h => ?_)
    exact rc_vret X hr dX5_orderNextReel_43 h
theorem mX5_orderNextReel {l : Launch} {G : rc_G} {a0 : Nat} {a1 : Nat} {I : rc_M} {post : rc_M → Prop} (T0 : kX5 G a0) (T1 : kX6 G a1) (h : wX5_orderNextReel G a0 a1 I post) : rc_CV l yX5_orderNextReel wsX5_orderNextReel rmX5_orderNextReel G [.ref a0, .ref a1] I post :=
  rc_body (by decide +kernel) rfl rfl (Nat.le_of_ble_eq_true rfl) rfl (fun p e s m below meth c X hr => gX5_orderNextReel_0 X hr T0 T1 h)
/-! X5_runOut -/
abbrev rmX5_runOut : Room := { frames := 4, cells := 0, slots := 0, locals := 85 }
theorem dyX5_runOut : yX5_runOut.cls = RX5 ∧ yX5_runOut.cls ≠ "java/lang/invoke/MethodHandle" ∧ yX5_runOut.cls ≠ "java/lang/invoke/VarHandle" ∧ (parseMethodDescriptor yX5_runOut.desc).map (fun d => d.parameters.length) = some 2 := ⟨rfl, by decide +kernel, by decide +kernel, by decide +kernel⟩
theorem qX5_runOut_1 : Cond.fieldLink RX5 97 "ReelChanger$Projector" "place" "I" ∈ wsX5_runOut := List.mem_of_getElem? (i := 1) (by decide +kernel)
theorem nX5_runOut_X2 : ∀ w ∈ wsX20, w ∈ wsX5_runOut := fun w h => List.mem_cons_of_mem _ (List.mem_append_left _ (List.mem_append_left _ (List.mem_append_left _ (List.mem_append_left _ (List.mem_append_right _ (h))))))
theorem qX5_runOut_2 : Cond.fieldLink RX5 84 "ReelChanger$Stock" "placeCount" "I" ∈ wsX5_runOut := List.mem_of_getElem? (i := 2) (by decide +kernel)
theorem nX5_runOut_X6 : ∀ w ∈ wsX60, w ∈ wsX5_runOut := fun w h => List.mem_cons_of_mem _ (List.mem_append_left _ (List.mem_append_left _ (List.mem_append_left _ (List.mem_append_right _ (h)))))
theorem qX5_runOut_3 : Cond.fieldLink RX5 78 "ReelChanger$Projector" "state" "I" ∈ wsX5_runOut := List.mem_of_getElem? (i := 3) (by decide +kernel)
theorem qX5_runOut_4 : Cond.fieldLink RX5 81 "ReelChanger$Projector" "frame" "I" ∈ wsX5_runOut := List.mem_of_getElem? (i := 4) (by decide +kernel)
theorem qX5_runOut_5 : Cond.fieldLink RX5 170 "ReelChanger$Reel" "length" "I" ∈ wsX5_runOut := List.mem_of_getElem? (i := 5) (by decide +kernel)
theorem nX5_runOut_X3 : ∀ w ∈ wsX30, w ∈ wsX5_runOut := fun w h => List.mem_cons_of_mem _ (List.mem_append_left _ (List.mem_append_left _ (List.mem_append_right _ (h))))
theorem qX5_runOut_6 : Cond.fieldLink RX5 58 "ReelChanger$Show" "ranOut" "Z" ∈ wsX5_runOut := List.mem_of_getElem? (i := 6) (by decide +kernel)
theorem nX5_runOut_X5 : ∀ w ∈ wsX50, w ∈ wsX5_runOut := fun w h => List.mem_cons_of_mem _ (List.mem_append_left _ (List.mem_append_right _ (h)))
theorem qX5_runOut_7 : Cond.fieldLink RX5 28 "ReelChanger$Show" "running" "Z" ∈ wsX5_runOut := List.mem_of_getElem? (i := 7) (by decide +kernel)
def wX5_runOut_39 (G : rc_G) (post : rc_M → Prop) (a0 : Nat) (a1 : Nat) (a2 : Nat)  (x3 : Nat) (x4 : Int) (y0 : Int) (I : rc_M) : Prop :=
  rc_R (I x3 0) ∧ ((¬ (I x3 0) = 3 → post I) ∧ ((I x3 0) = 3 → rc_R (I x3 2) ∧ (rc_R ((I a2 0) - y0) ∧ ((((I a2 0) - y0) ≤ (I x3 2) → ∀ I16, I16 = rc_s I x3 0 4 → ∀ I17, I17 = rc_s I16 a0 9 1 → rc_R x4 ∧ ((x4 = 0 → wX5_orderNextReel G a0 a1 I17 (fun I20 => post I20)) ∧ (¬ x4 = 0 → ∀ I21, I21 = rc_s I17 a0 0 0 → post I21))) ∧ (¬ ((I a2 0) - y0) ≤ (I x3 2) → post I)))))
set_option maxRecDepth 100000 in
set_option maxHeartbeats 4000000 in
theorem gX5_runOut_39 {p : Program} {l : Launch} {e : Env} {s : State} {m : MethodId} {below : List Frame} {meth : Method} {c : Code} {G : rc_G} {a0 : Nat} {a1 : Nat} {a2 : Nat} {I : rc_M} {post : rc_M → Prop}  {x3 : Nat} {x4 : Int} {y0 : Int} (X : rc_X p s m ([.ref a0, .ref a1, .ref a2] : List Value).toArray meth c cX5_runOut 6 wsX5_runOut RX5 G (rc_A G)) (hr : meth.sig.returnType = none) (T0 : kX5 G a0) (T1 : kX6 G a1) (T2 : kX3 G a2)  (Tx3 : kX2 G x3) (h : wX5_runOut_39 G post a0 a1 a2  x3 x4 y0 I) : rc_g p l e rmX5_runOut s m ([.ref a0, .ref a1, .ref a2] : List Value).toArray below meth c 0 0 (MQ below (rc_QV G post) ([.ref a0, .ref a1, .ref a2] : List Value).toArray s 0 0 (rc_A G)) 6 G (rc_A G) 39 [(0, .ref a0), (1, .ref a1), (2, .ref a2), (3, .ref x3), (4, .int (rc_o x4))] [.int (rc_o y0)] I := by
  unfold wX5_runOut_39 at h
  refine rc_istore X [(5, .int (rc_o y0)), (0, .ref a0), (1, .ref a1), (2, .ref a2), (3, .ref x3), (4, .int (rc_o x4))] dX5_runOut_39 (by decide) rfl ?_
  refine rc_aload_n X dX5_runOut_41 rfl 4 rfl ?_
  refine gfX2_state X Tx3.1 nX5_runOut_X2 qX5_runOut_3 dX5_runOut_42 ?_
  refine rc_iconst X dX5_runOut_45 ?_
  obtain ⟨c11, h⟩ := h
  refine rc_ic_ne X 63 dX5_runOut_46 (by decide) c11 ⟨by decide, by decide⟩ (fun c12 => ?_) (fun c12 => ?_)
  · have h := h.1 c12
    exact rc_vret X hr dX5_runOut_63 h
  · have h := h.2 c12
    refine rc_aload_n X dX5_runOut_49 rfl 4 rfl ?_
    refine gfX2_frame X Tx3.1 nX5_runOut_X2 qX5_runOut_4 dX5_runOut_50 ?_
    refine rc_aload_n X dX5_runOut_53 rfl 3 rfl ?_
    refine gfX3_length X T2.1 nX5_runOut_X3 qX5_runOut_5 dX5_runOut_54 ?_
    refine rc_iload X dX5_runOut_57 0 rfl ?_
    refine rc_isub X dX5_runOut_59 ?_
    obtain ⟨c13, h⟩ := h
    obtain ⟨c14, h⟩ := h
    refine rc_ic_ge X 64 dX5_runOut_60 (by decide) c13 c14 (fun c15 => ?_) (fun c15 => ?_)
    · have h := h.1 c15
      refine rc_aload_n X dX5_runOut_64 rfl 4 rfl ?_
      refine rc_iconst X dX5_runOut_65 ?_
      refine pfX2_state X Tx3.1 nX5_runOut_X2 qX5_runOut_3 dX5_runOut_66 (fun I16 e16 => ?_)
      have h := h I16 e16
      refine rc_aload_n X dX5_runOut_69 rfl 1 rfl ?_
      refine rc_iconst X dX5_runOut_70 ?_
      refine pfX5_ranOut X T0.1 nX5_runOut_X5 qX5_runOut_6 dX5_runOut_71 (Or.inr rfl) (fun I17 e17 => ?_)
      have h := h I17 e17
      refine rc_iload X dX5_runOut_74 5 rfl ?_
      obtain ⟨c18, h⟩ := h
      refine rc_if_eq X 87 dX5_runOut_76 (by decide) c18 (fun c19 => ?_) (fun c19 => ?_)
      · have h := h.1 c19
        refine rc_aload_n X dX5_runOut_87 rfl 1 rfl ?_
        refine rc_aload_n X dX5_runOut_88 rfl 2 rfl ?_
        refine rc_cVV (rest := []) X (mX5_orderNextReel T0 T1 h) gX5_runOut_X5_orderNextReel rfl ⟨rfl, rfl⟩ dyX5_orderNextReel ⟨Nat.le_of_ble_eq_true rfl, Nat.le_of_ble_eq_true rfl⟩ (rc_recv X T0.1 rfl) rfl rfl (Nat.le_of_ble_eq_true rfl) dX5_runOut_89 ⟨Nat.zero_le _, Nat.zero_le _⟩ (fun I20 h => ?_)
        exact rc_vret X hr dX5_runOut_92 h
      · have h := h.2 c19
        refine rc_aload_n X dX5_runOut_79 rfl 1 rfl ?_
        refine rc_iconst X dX5_runOut_80 ?_
        refine pfX5_running X T0.1 nX5_runOut_X5 qX5_runOut_7 dX5_runOut_81 (Or.inl rfl) (fun I21 e21 => ?_)
        have h := h I21 e21
        refine rc_goto X 92 dX5_runOut_84 (by decide) ?_
        exact rc_vret X hr dX5_runOut_92 h
    · have h := h.2 c15
      exact rc_vret X hr dX5_runOut_63 h
def wX5_runOut_23 (G : rc_G) (post : rc_M → Prop) (a0 : Nat) (a1 : Nat) (a2 : Nat)  (x3 : Nat) (y0 : Int) (I : rc_M) : Prop :=
  rc_R y0 ∧ ((y0 = 0 → wX6_settingNumbered G a1 2 I (fun r10 I9 => wX5_runOut_39 G post a0 a1 a2  x3 y0 r10 I9)) ∧ (¬ y0 = 0 → wX5_runOut_39 G post a0 a1 a2  x3 y0 0 I))
set_option maxRecDepth 100000 in
set_option maxHeartbeats 4000000 in
theorem gX5_runOut_23 {p : Program} {l : Launch} {e : Env} {s : State} {m : MethodId} {below : List Frame} {meth : Method} {c : Code} {G : rc_G} {a0 : Nat} {a1 : Nat} {a2 : Nat} {I : rc_M} {post : rc_M → Prop}  {x3 : Nat} {y0 : Int} (X : rc_X p s m ([.ref a0, .ref a1, .ref a2] : List Value).toArray meth c cX5_runOut 6 wsX5_runOut RX5 G (rc_A G)) (hr : meth.sig.returnType = none) (T0 : kX5 G a0) (T1 : kX6 G a1) (T2 : kX3 G a2)  (Tx3 : kX2 G x3) (h : wX5_runOut_23 G post a0 a1 a2  x3 y0 I) : rc_g p l e rmX5_runOut s m ([.ref a0, .ref a1, .ref a2] : List Value).toArray below meth c 0 0 (MQ below (rc_QV G post) ([.ref a0, .ref a1, .ref a2] : List Value).toArray s 0 0 (rc_A G)) 6 G (rc_A G) 23 [(0, .ref a0), (1, .ref a1), (2, .ref a2), (3, .ref x3)] [.int (rc_o y0)] I := by
  unfold wX5_runOut_23 at h
  refine rc_istore X [(4, .int (rc_o y0)), (0, .ref a0), (1, .ref a1), (2, .ref a2), (3, .ref x3)] dX5_runOut_23 (by decide) rfl ?_
  refine rc_iload X dX5_runOut_25 0 rfl ?_
  obtain ⟨c7, h⟩ := h
  refine rc_if_eq X 34 dX5_runOut_27 (by decide) c7 (fun c8 => ?_) (fun c8 => ?_)
  · have h := h.1 c8
    refine rc_aload_n X dX5_runOut_34 rfl 2 rfl ?_
    refine rc_iconst X dX5_runOut_35 ?_
    refine rc_cVI (rest := []) X (mX6_settingNumbered T1 h) gX5_runOut_X6_settingNumbered rfl ⟨rfl, rfl⟩ dyX6_settingNumbered ⟨Nat.le_of_ble_eq_true rfl, Nat.le_of_ble_eq_true rfl⟩ (rc_recv X T1.1 rfl) rfl rfl (Nat.le_of_ble_eq_true rfl) dX5_runOut_36 ⟨Nat.zero_le _, Nat.zero_le _⟩ (fun r10 I9 h => ?_)
    refine rc_subl [(0, .ref a0), (1, .ref a1), (2, .ref a2), (3, .ref x3), (4, .int (rc_o y0))] [1, 2, 3, 4, 0] rfl ?_
    exact gX5_runOut_39 X hr T0 T1 T2  Tx3 h
  · have h := h.2 c8
    refine rc_iconst X dX5_runOut_30 ?_
    refine rc_goto X 39 dX5_runOut_31 (by decide) ?_
    refine rc_subl [(0, .ref a0), (1, .ref a1), (2, .ref a2), (3, .ref x3), (4, .int (rc_o y0))] [1, 2, 3, 4, 0] rfl ?_
    exact gX5_runOut_39 X hr T0 T1 T2  Tx3 h
def wX5_runOut (G : rc_G) (a0 : Nat) (a1 : Nat) (a2 : Nat) (I : rc_M) (post : rc_M → Prop) : Prop :=
  wX5_frontProjector G a0 I (fun r2 I1 => ∃ q3, r2 = some q3 ∧ kX2 G q3 ∧ (rc_R (I1 q3 1) ∧ (rc_R ((I1 a1 1) - 1) ∧ ((¬ (I1 q3 1) = ((I1 a1 1) - 1) → wX5_runOut_23 G post a0 a1 a2  q3 0 I1) ∧ ((I1 q3 1) = ((I1 a1 1) - 1) → wX5_runOut_23 G post a0 a1 a2  q3 1 I1)))))
set_option maxRecDepth 100000 in
set_option maxHeartbeats 4000000 in
theorem gX5_runOut_0 {p : Program} {l : Launch} {e : Env} {s : State} {m : MethodId} {below : List Frame} {meth : Method} {c : Code} {G : rc_G} {a0 : Nat} {a1 : Nat} {a2 : Nat} {I : rc_M} {post : rc_M → Prop}  (X : rc_X p s m ([.ref a0, .ref a1, .ref a2] : List Value).toArray meth c cX5_runOut 6 wsX5_runOut RX5 G (rc_A G)) (hr : meth.sig.returnType = none) (T0 : kX5 G a0) (T1 : kX6 G a1) (T2 : kX3 G a2)  (h : wX5_runOut G a0 a1 a2 I post) : rc_g p l e rmX5_runOut s m ([.ref a0, .ref a1, .ref a2] : List Value).toArray below meth c 0 0 (MQ below (rc_QV G post) ([.ref a0, .ref a1, .ref a2] : List Value).toArray s 0 0 (rc_A G)) 6 G (rc_A G) 0 [(0, .ref a0), (1, .ref a1), (2, .ref a2)] [] I := by
  unfold wX5_runOut at h
  refine rc_aload_n X dX5_runOut_0 rfl 0 rfl ?_
  refine rc_cVQ (rest := []) X (mX5_frontProjector T0 h) gX5_runOut_X5_frontProjector rfl ⟨rfl, rfl⟩ dyX5_frontProjector ⟨Nat.le_of_ble_eq_true rfl, Nat.le_of_ble_eq_true rfl⟩ (rc_recv X T0.1 rfl) rfl rfl (Nat.le_of_ble_eq_true rfl) dX5_runOut_1 ⟨Nat.zero_le _, Nat.zero_le _⟩ (fun r2 I1 h => ?_)
  obtain ⟨q3, rfl, Tq3, h⟩ := h
  refine rc_qs ?_
  refine rc_astore_n X [(3, .ref q3), (0, .ref a0), (1, .ref a1), (2, .ref a2)] dX5_runOut_4 rfl (by decide) rfl ?_
  refine rc_aload_n X dX5_runOut_5 rfl 0 rfl ?_
  refine gfX2_place X Tq3.1 nX5_runOut_X2 qX5_runOut_1 dX5_runOut_6 ?_
  refine rc_aload_n X dX5_runOut_9 rfl 2 rfl ?_
  refine gfX6_placeCount X T1.1 nX5_runOut_X6 qX5_runOut_2 dX5_runOut_10 ?_
  refine rc_iconst X dX5_runOut_13 ?_
  refine rc_isub X dX5_runOut_14 ?_
  obtain ⟨c4, h⟩ := h
  obtain ⟨c5, h⟩ := h
  refine rc_ic_ne X 22 dX5_runOut_15 (by decide) c4 c5 (fun c6 => ?_) (fun c6 => ?_)
  · have h := h.1 c6
    refine rc_iconst X dX5_runOut_22 ?_
    refine rc_subl [(0, .ref a0), (1, .ref a1), (2, .ref a2), (3, .ref q3)] [1, 2, 3, 0] rfl ?_
    exact gX5_runOut_23 X hr T0 T1 T2  Tq3 h
  · have h := h.2 c6
    refine rc_iconst X dX5_runOut_18 ?_
    refine rc_goto X 23 dX5_runOut_19 (by decide) ?_
    refine rc_subl [(0, .ref a0), (1, .ref a1), (2, .ref a2), (3, .ref q3)] [1, 2, 3, 0] rfl ?_
    exact gX5_runOut_23 X hr T0 T1 T2  Tq3 h
theorem mX5_runOut {l : Launch} {G : rc_G} {a0 : Nat} {a1 : Nat} {a2 : Nat} {I : rc_M} {post : rc_M → Prop} (T0 : kX5 G a0) (T1 : kX6 G a1) (T2 : kX3 G a2) (h : wX5_runOut G a0 a1 a2 I post) : rc_CV l yX5_runOut wsX5_runOut rmX5_runOut G [.ref a0, .ref a1, .ref a2] I post :=
  rc_body (by decide +kernel) rfl rfl (Nat.le_of_ble_eq_true rfl) rfl (fun p e s m below meth c X hr => gX5_runOut_0 X hr T0 T1 T2 h)
/-! X5_changeOver -/
abbrev rmX5_changeOver : Room := { frames := 2, cells := 0, slots := 0, locals := 41 }
theorem dyX5_changeOver : yX5_changeOver.cls = RX5 ∧ yX5_changeOver.cls ≠ "java/lang/invoke/MethodHandle" ∧ yX5_changeOver.cls ≠ "java/lang/invoke/VarHandle" ∧ (parseMethodDescriptor yX5_changeOver.desc).map (fun d => d.parameters.length) = some 0 := ⟨rfl, by decide +kernel, by decide +kernel, by decide +kernel⟩
theorem qX5_changeOver_1 : Cond.fieldLink RX5 58 "ReelChanger$Show" "ranOut" "Z" ∈ wsX5_changeOver := List.mem_of_getElem? (i := 1) (by decide +kernel)
theorem nX5_changeOver_X5 : ∀ w ∈ wsX50, w ∈ wsX5_changeOver := fun w h => List.mem_cons_of_mem _ (List.mem_append_left _ (List.mem_append_right _ (h)))
theorem qX5_changeOver_2 : Cond.fieldLink RX5 28 "ReelChanger$Show" "running" "Z" ∈ wsX5_changeOver := List.mem_of_getElem? (i := 2) (by decide +kernel)
theorem qX5_changeOver_3 : Cond.fieldLink RX5 78 "ReelChanger$Projector" "state" "I" ∈ wsX5_changeOver := List.mem_of_getElem? (i := 3) (by decide +kernel)
theorem nX5_changeOver_X2 : ∀ w ∈ wsX20, w ∈ wsX5_changeOver := fun w h => List.mem_cons_of_mem _ (List.mem_append_right _ (h))
theorem qX5_changeOver_4 : Cond.fieldLink RX5 81 "ReelChanger$Projector" "frame" "I" ∈ wsX5_changeOver := List.mem_of_getElem? (i := 4) (by decide +kernel)
theorem qX5_changeOver_5 : Cond.fieldLink RX5 39 "ReelChanger$Show" "missed" "I" ∈ wsX5_changeOver := List.mem_of_getElem? (i := 5) (by decide +kernel)
theorem qX5_changeOver_6 : Cond.fieldLink RX5 52 "ReelChanger$Show" "front" "I" ∈ wsX5_changeOver := List.mem_of_getElem? (i := 6) (by decide +kernel)
def wX5_changeOver (G : rc_G) (a0 : Nat) (I : rc_M) (post : rc_M → Prop) : Prop :=
  wX5_backProjector G a0 I (fun r2 I1 => ∃ q3, r2 = some q3 ∧ kX2 G q3 ∧ (rc_R (I1 a0 9) ∧ (((I1 a0 9) = 0 → post I1) ∧ (¬ (I1 a0 9) = 0 → rc_R (I1 a0 0) ∧ (((I1 a0 0) = 0 → post I1) ∧ (¬ (I1 a0 0) = 0 → rc_R (I1 q3 0) ∧ ((¬ (I1 q3 0) = 2 → post I1) ∧ ((I1 q3 0) = 2 → rc_R (I1 q3 2) ∧ (((I1 q3 2) < 0 → post I1) ∧ (¬ (I1 q3 2) < 0 → ∀ I12, I12 = rc_s I1 q3 0 3 → ∀ I13, I13 = rc_s I12 a0 3 ((I12 a0 3) + (I12 q3 2)) → ∀ I14, I14 = rc_s I13 a0 7 (1 - (I13 a0 7)) → ∀ I15, I15 = rc_s I14 a0 9 0 → post I15))))))))))
set_option maxRecDepth 100000 in
set_option maxHeartbeats 4000000 in
theorem gX5_changeOver_0 {p : Program} {l : Launch} {e : Env} {s : State} {m : MethodId} {below : List Frame} {meth : Method} {c : Code} {G : rc_G} {a0 : Nat} {I : rc_M} {post : rc_M → Prop}  (X : rc_X p s m ([.ref a0] : List Value).toArray meth c cX5_changeOver 2 wsX5_changeOver RX5 G (rc_A G)) (hr : meth.sig.returnType = none) (T0 : kX5 G a0)  (h : wX5_changeOver G a0 I post) : rc_g p l e rmX5_changeOver s m ([.ref a0] : List Value).toArray below meth c 0 0 (MQ below (rc_QV G post) ([.ref a0] : List Value).toArray s 0 0 (rc_A G)) 2 G (rc_A G) 0 [(0, .ref a0)] [] I := by
  unfold wX5_changeOver at h
  refine rc_aload_n X dX5_changeOver_0 rfl 0 rfl ?_
  refine rc_cVQ (rest := []) X (mX5_backProjector T0 h) gX5_changeOver_X5_backProjector rfl ⟨rfl, rfl⟩ dyX5_backProjector ⟨Nat.le_of_ble_eq_true rfl, Nat.le_of_ble_eq_true rfl⟩ (rc_recv X T0.1 rfl) rfl rfl (Nat.le_of_ble_eq_true rfl) dX5_changeOver_1 ⟨Nat.zero_le _, Nat.zero_le _⟩ (fun r2 I1 h => ?_)
  obtain ⟨q3, rfl, Tq3, h⟩ := h
  refine rc_qs ?_
  refine rc_astore_n X [(1, .ref q3), (0, .ref a0)] dX5_changeOver_4 rfl (by decide) rfl ?_
  refine rc_aload_n X dX5_changeOver_5 rfl 1 rfl ?_
  refine gfX5_ranOut X T0.1 nX5_changeOver_X5 qX5_changeOver_1 dX5_changeOver_6 ?_
  obtain ⟨c4, h⟩ := h
  refine rc_if_eq X 67 dX5_changeOver_9 (by decide) c4 (fun c5 => ?_) (fun c5 => ?_)
  · have h := h.1 c5
    exact rc_vret X hr dX5_changeOver_67 h
  · have h := h.2 c5
    refine rc_aload_n X dX5_changeOver_12 rfl 1 rfl ?_
    refine gfX5_running X T0.1 nX5_changeOver_X5 qX5_changeOver_2 dX5_changeOver_13 ?_
    obtain ⟨c6, h⟩ := h
    refine rc_if_eq X 67 dX5_changeOver_16 (by decide) c6 (fun c7 => ?_) (fun c7 => ?_)
    · have h := h.1 c7
      exact rc_vret X hr dX5_changeOver_67 h
    · have h := h.2 c7
      refine rc_aload_n X dX5_changeOver_19 rfl 0 rfl ?_
      refine gfX2_state X Tq3.1 nX5_changeOver_X2 qX5_changeOver_3 dX5_changeOver_20 ?_
      refine rc_iconst X dX5_changeOver_23 ?_
      obtain ⟨c8, h⟩ := h
      refine rc_ic_ne X 67 dX5_changeOver_24 (by decide) c8 ⟨by decide, by decide⟩ (fun c9 => ?_) (fun c9 => ?_)
      · have h := h.1 c9
        exact rc_vret X hr dX5_changeOver_67 h
      · have h := h.2 c9
        refine rc_aload_n X dX5_changeOver_27 rfl 0 rfl ?_
        refine gfX2_frame X Tq3.1 nX5_changeOver_X2 qX5_changeOver_4 dX5_changeOver_28 ?_
        obtain ⟨c10, h⟩ := h
        refine rc_if_lt X 67 dX5_changeOver_31 (by decide) c10 (fun c11 => ?_) (fun c11 => ?_)
        · have h := h.1 c11
          exact rc_vret X hr dX5_changeOver_67 h
        · have h := h.2 c11
          refine rc_aload_n X dX5_changeOver_34 rfl 0 rfl ?_
          refine rc_iconst X dX5_changeOver_35 ?_
          refine pfX2_state X Tq3.1 nX5_changeOver_X2 qX5_changeOver_3 dX5_changeOver_36 (fun I12 e12 => ?_)
          have h := h I12 e12
          refine rc_aload_n X dX5_changeOver_39 rfl 1 rfl ?_
          refine rc_dup X dX5_changeOver_40 rfl ?_
          refine gfX5_missed X T0.1 nX5_changeOver_X5 qX5_changeOver_5 dX5_changeOver_41 ?_
          refine rc_aload_n X dX5_changeOver_44 rfl 0 rfl ?_
          refine gfX2_frame X Tq3.1 nX5_changeOver_X2 qX5_changeOver_4 dX5_changeOver_45 ?_
          refine rc_iadd X dX5_changeOver_48 ?_
          refine pfX5_missed X T0.1 nX5_changeOver_X5 qX5_changeOver_5 dX5_changeOver_49 (fun I13 e13 => ?_)
          have h := h I13 e13
          refine rc_aload_n X dX5_changeOver_52 rfl 1 rfl ?_
          refine rc_iconst X dX5_changeOver_53 ?_
          refine rc_aload_n X dX5_changeOver_54 rfl 1 rfl ?_
          refine gfX5_front X T0.1 nX5_changeOver_X5 qX5_changeOver_6 dX5_changeOver_55 ?_
          refine rc_isub X dX5_changeOver_58 ?_
          refine pfX5_front X T0.1 nX5_changeOver_X5 qX5_changeOver_6 dX5_changeOver_59 (fun I14 e14 => ?_)
          have h := h I14 e14
          refine rc_aload_n X dX5_changeOver_62 rfl 1 rfl ?_
          refine rc_iconst X dX5_changeOver_63 ?_
          refine pfX5_ranOut X T0.1 nX5_changeOver_X5 qX5_changeOver_1 dX5_changeOver_64 (Or.inl rfl) (fun I15 e15 => ?_)
          have h := h I15 e15
          exact rc_vret X hr dX5_changeOver_67 h
theorem mX5_changeOver {l : Launch} {G : rc_G} {a0 : Nat} {I : rc_M} {post : rc_M → Prop} (T0 : kX5 G a0) (h : wX5_changeOver G a0 I post) : rc_CV l yX5_changeOver wsX5_changeOver rmX5_changeOver G [.ref a0] I post :=
  rc_body (by decide +kernel) rfl rfl (Nat.le_of_ble_eq_true rfl) rfl (fun p e s m below meth c X hr => gX5_changeOver_0 X hr T0 h)
/-! X5_countTick -/
abbrev rmX5_countTick : Room := { frames := 2, cells := 0, slots := 0, locals := 41 }
theorem dyX5_countTick : yX5_countTick.cls = RX5 ∧ yX5_countTick.cls ≠ "java/lang/invoke/MethodHandle" ∧ yX5_countTick.cls ≠ "java/lang/invoke/VarHandle" ∧ (parseMethodDescriptor yX5_countTick.desc).map (fun d => d.parameters.length) = some 0 := ⟨rfl, by decide +kernel, by decide +kernel, by decide +kernel⟩
theorem qX5_countTick_1 : Cond.fieldLink RX5 32 "ReelChanger$Show" "time" "I" ∈ wsX5_countTick := List.mem_of_getElem? (i := 1) (by decide +kernel)
theorem nX5_countTick_X5 : ∀ w ∈ wsX50, w ∈ wsX5_countTick := fun w h => List.mem_cons_of_mem _ (List.mem_append_left _ (List.mem_append_right _ (h)))
theorem qX5_countTick_2 : Cond.fieldLink RX5 28 "ReelChanger$Show" "running" "Z" ∈ wsX5_countTick := List.mem_of_getElem? (i := 2) (by decide +kernel)
theorem qX5_countTick_3 : Cond.fieldLink RX5 78 "ReelChanger$Projector" "state" "I" ∈ wsX5_countTick := List.mem_of_getElem? (i := 3) (by decide +kernel)
theorem nX5_countTick_X2 : ∀ w ∈ wsX20, w ∈ wsX5_countTick := fun w h => List.mem_cons_of_mem _ (List.mem_append_right _ (h))
theorem qX5_countTick_4 : Cond.fieldLink RX5 36 "ReelChanger$Show" "dark" "I" ∈ wsX5_countTick := List.mem_of_getElem? (i := 4) (by decide +kernel)
def wX5_countTick (G : rc_G) (a0 : Nat) (I : rc_M) (post : rc_M → Prop) : Prop :=
  ∀ I1, I1 = rc_s I a0 1 ((I a0 1) + 1) → rc_R (I1 a0 0) ∧ (((I1 a0 0) = 0 → post I1) ∧ (¬ (I1 a0 0) = 0 → wX5_frontProjector G a0 I1 (fun r5 I4 => ∃ q6, r5 = some q6 ∧ kX2 G q6 ∧ (rc_R (I4 q6 0) ∧ (((I4 q6 0) = 3 → post I4) ∧ (¬ (I4 q6 0) = 3 → ∀ I9, I9 = rc_s I4 a0 2 ((I4 a0 2) + 1) → post I9))))))
set_option maxRecDepth 100000 in
set_option maxHeartbeats 4000000 in
theorem gX5_countTick_0 {p : Program} {l : Launch} {e : Env} {s : State} {m : MethodId} {below : List Frame} {meth : Method} {c : Code} {G : rc_G} {a0 : Nat} {I : rc_M} {post : rc_M → Prop}  (X : rc_X p s m ([.ref a0] : List Value).toArray meth c cX5_countTick 1 wsX5_countTick RX5 G (rc_A G)) (hr : meth.sig.returnType = none) (T0 : kX5 G a0)  (h : wX5_countTick G a0 I post) : rc_g p l e rmX5_countTick s m ([.ref a0] : List Value).toArray below meth c 0 0 (MQ below (rc_QV G post) ([.ref a0] : List Value).toArray s 0 0 (rc_A G)) 1 G (rc_A G) 0 [(0, .ref a0)] [] I := by
  unfold wX5_countTick at h
  refine rc_aload_n X dX5_countTick_0 rfl 0 rfl ?_
  refine rc_dup X dX5_countTick_1 rfl ?_
  refine gfX5_time X T0.1 nX5_countTick_X5 qX5_countTick_1 dX5_countTick_2 ?_
  refine rc_iconst X dX5_countTick_5 ?_
  refine rc_iadd X dX5_countTick_6 ?_
  refine pfX5_time X T0.1 nX5_countTick_X5 qX5_countTick_1 dX5_countTick_7 (fun I1 e1 => ?_)
  have h := h I1 e1
  refine rc_aload_n X dX5_countTick_10 rfl 0 rfl ?_
  refine gfX5_running X T0.1 nX5_countTick_X5 qX5_countTick_2 dX5_countTick_11 ?_
  obtain ⟨c2, h⟩ := h
  refine rc_if_eq X 38 dX5_countTick_14 (by decide) c2 (fun c3 => ?_) (fun c3 => ?_)
  · have h := h.1 c3
    exact rc_vret X hr dX5_countTick_38 h
  · have h := h.2 c3
    refine rc_aload_n X dX5_countTick_17 rfl 0 rfl ?_
    refine rc_cVQ (rest := []) X (mX5_frontProjector T0 h) gX5_countTick_X5_frontProjector rfl ⟨rfl, rfl⟩ dyX5_frontProjector ⟨Nat.le_of_ble_eq_true rfl, Nat.le_of_ble_eq_true rfl⟩ (rc_recv X T0.1 rfl) rfl rfl (Nat.le_of_ble_eq_true rfl) dX5_countTick_18 ⟨Nat.zero_le _, Nat.zero_le _⟩ (fun r5 I4 h => ?_)
    obtain ⟨q6, rfl, Tq6, h⟩ := h
    refine rc_qs ?_
    refine gfX2_state X Tq6.1 nX5_countTick_X2 qX5_countTick_3 dX5_countTick_21 ?_
    refine rc_iconst X dX5_countTick_24 ?_
    obtain ⟨c7, h⟩ := h
    refine rc_ic_eq X 38 dX5_countTick_25 (by decide) c7 ⟨by decide, by decide⟩ (fun c8 => ?_) (fun c8 => ?_)
    · have h := h.1 c8
      exact rc_vret X hr dX5_countTick_38 h
    · have h := h.2 c8
      refine rc_aload_n X dX5_countTick_28 rfl 0 rfl ?_
      refine rc_dup X dX5_countTick_29 rfl ?_
      refine gfX5_dark X T0.1 nX5_countTick_X5 qX5_countTick_4 dX5_countTick_30 ?_
      refine rc_iconst X dX5_countTick_33 ?_
      refine rc_iadd X dX5_countTick_34 ?_
      refine pfX5_dark X T0.1 nX5_countTick_X5 qX5_countTick_4 dX5_countTick_35 (fun I9 e9 => ?_)
      have h := h I9 e9
      exact rc_vret X hr dX5_countTick_38 h
theorem mX5_countTick {l : Launch} {G : rc_G} {a0 : Nat} {I : rc_M} {post : rc_M → Prop} (T0 : kX5 G a0) (h : wX5_countTick G a0 I post) : rc_CV l yX5_countTick wsX5_countTick rmX5_countTick G [.ref a0] I post :=
  rc_body (by decide +kernel) rfl rfl (Nat.le_of_ble_eq_true rfl) rfl (fun p e s m below meth c X hr => gX5_countTick_0 X hr T0 h)
/-! X5_run -/
abbrev rmX5_run : Room := { frames := 5, cells := 0, slots := 0, locals := 111 }
theorem dyX5_run : yX5_run.cls = RX5 ∧ yX5_run.cls ≠ "java/lang/invoke/MethodHandle" ∧ yX5_run.cls ≠ "java/lang/invoke/VarHandle" ∧ (parseMethodDescriptor yX5_run.desc).map (fun d => d.parameters.length) = some 2 := ⟨rfl, by decide +kernel, by decide +kernel, by decide +kernel⟩
theorem qX5_run_1 : Cond.fieldLink RX5 28 "ReelChanger$Show" "running" "Z" ∈ wsX5_run := List.mem_of_getElem? (i := 1) (by decide +kernel)
theorem nX5_run_X5 : ∀ w ∈ wsX50, w ∈ wsX5_run := fun w h => List.mem_cons_of_mem _ (List.mem_append_left _ (List.mem_append_left _ (List.mem_append_left _ (List.mem_append_left _ (List.mem_append_right _ (h))))))
theorem qX5_run_2 : Cond.fieldLink RX5 97 "ReelChanger$Projector" "place" "I" ∈ wsX5_run := List.mem_of_getElem? (i := 2) (by decide +kernel)
theorem nX5_run_X2 : ∀ w ∈ wsX20, w ∈ wsX5_run := fun w h => List.mem_cons_of_mem _ (List.mem_append_left _ (List.mem_append_left _ (List.mem_append_left _ (List.mem_append_right _ (h)))))
theorem qX5_run_3 : Cond.fieldLink RX5 21 "ReelChanger$Show" "first" "LReelChanger$Projector;" ∈ wsX5_run := List.mem_of_getElem? (i := 3) (by decide +kernel)
theorem qX5_run_4 : Cond.fieldLink RX5 25 "ReelChanger$Show" "second" "LReelChanger$Projector;" ∈ wsX5_run := List.mem_of_getElem? (i := 4) (by decide +kernel)
def wX5_run_71 (G : rc_G) (post : Int → rc_M → Prop) (a0 : Nat) (a1 : Nat) (a2 : Int) (k2 : Int → rc_M → Prop) (x3 : Int) (I : rc_M) : Prop :=
  wX5_changeOver G a0 I (fun I13 => wX5_countTick G a0 I13 (fun I14 => k2 (x3 + 1) I14))
set_option maxRecDepth 100000 in
set_option maxHeartbeats 4000000 in
theorem gX5_run_71 {p : Program} {l : Launch} {e : Env} {s : State} {m : MethodId} {below : List Frame} {meth : Method} {c : Code} {G : rc_G} {a0 : Nat} {a1 : Nat} {a2 : Int} {I : rc_M} {post : Int → rc_M → Prop} {k2 : Int → rc_M → Prop} {x3 : Int} (X : rc_X p s m ([.ref a0, .ref a1, .int (rc_o a2)] : List Value).toArray meth c cX5_run 5 wsX5_run RX5 G (rc_A G)) (hr : meth.sig.returnType = some .int) (T0 : kX5 G a0) (T1 : kX6 G a1) (hk2 : ∀ (x3 : Int) (J : rc_M), k2 x3 J → rc_g p l e rmX5_run s m ([.ref a0, .ref a1, .int (rc_o a2)] : List Value).toArray below meth c 0 0 (MQ below (rc_QI G post) ([.ref a0, .ref a1, .int (rc_o a2)] : List Value).toArray s 0 0 (rc_A G)) 5 G (rc_A G) 2 [(0, .ref a0), (1, .ref a1), (2, .int (rc_o a2)), (3, .int (rc_o x3))] [] J)  (h : wX5_run_71 G post a0 a1 a2 k2 x3 I) : rc_g p l e rmX5_run s m ([.ref a0, .ref a1, .int (rc_o a2)] : List Value).toArray below meth c 0 0 (MQ below (rc_QI G post) ([.ref a0, .ref a1, .int (rc_o a2)] : List Value).toArray s 0 0 (rc_A G)) 5 G (rc_A G) 71 [(0, .ref a0), (1, .ref a1), (2, .int (rc_o a2)), (3, .int (rc_o x3))] [] I := by
  unfold wX5_run_71 at h
  refine rc_aload_n X dX5_run_71 rfl 0 rfl ?_
  refine rc_cVV (rest := []) X (mX5_changeOver T0 h) gX5_run_X5_changeOver rfl ⟨rfl, rfl⟩ dyX5_changeOver ⟨Nat.le_of_ble_eq_true rfl, Nat.le_of_ble_eq_true rfl⟩ (rc_recv X T0.1 rfl) rfl rfl (Nat.le_of_ble_eq_true rfl) dX5_run_72 ⟨Nat.zero_le _, Nat.zero_le _⟩ (fun I13 h => ?_)
  refine rc_aload_n X dX5_run_75 rfl 0 rfl ?_
  refine rc_cVV (rest := []) X (mX5_countTick T0 h) gX5_run_X5_countTick rfl ⟨rfl, rfl⟩ dyX5_countTick ⟨Nat.le_of_ble_eq_true rfl, Nat.le_of_ble_eq_true rfl⟩ (rc_recv X T0.1 rfl) rfl rfl (Nat.le_of_ble_eq_true rfl) dX5_run_76 ⟨Nat.zero_le _, Nat.zero_le _⟩ (fun I14 h => ?_)
  refine rc_iinc X [(3, .int (rc_o (x3 + 1))), (0, .ref a0), (1, .ref a1), (2, .int (rc_o a2))] dX5_run_79 3 rfl (by decide) rfl ?_
  refine rc_goto X 2 dX5_run_82 (by decide) ?_
  refine rc_subl [(0, .ref a0), (1, .ref a1), (2, .int (rc_o a2)), (3, .int (rc_o (x3 + 1)))] [1, 2, 3, 0] rfl ?_
  exact hk2 _ _ h
def wX5_run_2 (G : rc_G) (post : Int → rc_M → Prop) (a0 : Nat) (a1 : Nat) (a2 : Int) (k2 : Int → rc_M → Prop) (x3 : Int) (I : rc_M) : Prop :=
  rc_R x3 ∧ (rc_R a2 ∧ ((a2 ≤ x3 → post x3 I) ∧ (¬ a2 ≤ x3 → rc_R (I a0 0) ∧ (((I a0 0) = 0 → post x3 I) ∧ (¬ (I a0 0) = 0 → wX5_work G a0 a1 I (fun I6 => wX5_frontProjector G a0 I6 (fun r8 I7 => ∃ q9, r8 = some q9 ∧ kX2 G q9 ∧ (wX6_reelAtPlace G a1 (I7 q9 1) I7 (fun r11 I10 => (r11 = none → wX5_run_71 G post a0 a1 a2 k2 x3 I10) ∧ (∀ q12, r11 = some q12 → kX3 G q12 ∧ (wX5_startBack G a0 a1 q12 I10 (fun I15 => wX5_goOn G (a0 + 4) I15 (fun I16 => wX5_goOn G (a0 + 5) I16 (fun I17 => wX5_wearSplice G a0 q12 I17 (fun I18 => wX5_runOut G a0 a1 q12 I18 (fun I19 => wX5_run_71 G post a0 a1 a2 k2 x3 I19))))))))))))))))
set_option maxRecDepth 100000 in
set_option maxHeartbeats 4000000 in
theorem gX5_run_2 {p : Program} {l : Launch} {e : Env} {s : State} {m : MethodId} {below : List Frame} {meth : Method} {c : Code} {G : rc_G} {a0 : Nat} {a1 : Nat} {a2 : Int} {I : rc_M} {post : Int → rc_M → Prop} {k2 : Int → rc_M → Prop} {x3 : Int} (X : rc_X p s m ([.ref a0, .ref a1, .int (rc_o a2)] : List Value).toArray meth c cX5_run 5 wsX5_run RX5 G (rc_A G)) (hr : meth.sig.returnType = some .int) (T0 : kX5 G a0) (T1 : kX6 G a1) (hk2 : ∀ (x3 : Int) (J : rc_M), k2 x3 J → rc_g p l e rmX5_run s m ([.ref a0, .ref a1, .int (rc_o a2)] : List Value).toArray below meth c 0 0 (MQ below (rc_QI G post) ([.ref a0, .ref a1, .int (rc_o a2)] : List Value).toArray s 0 0 (rc_A G)) 5 G (rc_A G) 2 [(0, .ref a0), (1, .ref a1), (2, .int (rc_o a2)), (3, .int (rc_o x3))] [] J)  (h : wX5_run_2 G post a0 a1 a2 k2 x3 I) : rc_g p l e rmX5_run s m ([.ref a0, .ref a1, .int (rc_o a2)] : List Value).toArray below meth c 0 0 (MQ below (rc_QI G post) ([.ref a0, .ref a1, .int (rc_o a2)] : List Value).toArray s 0 0 (rc_A G)) 5 G (rc_A G) 2 [(0, .ref a0), (1, .ref a1), (2, .int (rc_o a2)), (3, .int (rc_o x3))] [] I := by
  unfold wX5_run_2 at h
  refine rc_iload_n X dX5_run_2 rfl 3 rfl ?_
  refine rc_iload_n X dX5_run_3 rfl 2 rfl ?_
  obtain ⟨c1, h⟩ := h
  obtain ⟨c2, h⟩ := h
  refine rc_ic_ge X 85 dX5_run_4 (by decide) c1 c2 (fun c3 => ?_) (fun c3 => ?_)
  · have h := h.1 c3
    refine rc_iload_n X dX5_run_85 rfl 3 rfl ?_
    exact rc_iret X hr dX5_run_86 h
  · have h := h.2 c3
    refine rc_aload_n X dX5_run_7 rfl 0 rfl ?_
    refine gfX5_running X T0.1 nX5_run_X5 qX5_run_1 dX5_run_8 ?_
    obtain ⟨c4, h⟩ := h
    refine rc_if_eq X 85 dX5_run_11 (by decide) c4 (fun c5 => ?_) (fun c5 => ?_)
    · have h := h.1 c5
      refine rc_iload_n X dX5_run_85 rfl 3 rfl ?_
      exact rc_iret X hr dX5_run_86 h
    · have h := h.2 c5
      refine rc_aload_n X dX5_run_14 rfl 0 rfl ?_
      refine rc_aload_n X dX5_run_15 rfl 1 rfl ?_
      refine rc_cVV (rest := []) X (mX5_work T0 T1 h) gX5_run_X5_work rfl ⟨rfl, rfl⟩ dyX5_work ⟨Nat.le_of_ble_eq_true rfl, Nat.le_of_ble_eq_true rfl⟩ (rc_recv X T0.1 rfl) rfl rfl (Nat.le_of_ble_eq_true rfl) dX5_run_16 ⟨Nat.zero_le _, Nat.zero_le _⟩ (fun I6 h => ?_)
      refine rc_aload_n X dX5_run_19 rfl 1 rfl ?_
      refine rc_aload_n X dX5_run_20 rfl 0 rfl ?_
      refine rc_cVQ (rest := [.ref a1]) X (mX5_frontProjector T0 h) gX5_run_X5_frontProjector rfl ⟨rfl, rfl⟩ dyX5_frontProjector ⟨Nat.le_of_ble_eq_true rfl, Nat.le_of_ble_eq_true rfl⟩ (rc_recv X T0.1 rfl) rfl rfl (Nat.le_of_ble_eq_true rfl) dX5_run_21 ⟨Nat.zero_le _, Nat.zero_le _⟩ (fun r8 I7 h => ?_)
      obtain ⟨q9, rfl, Tq9, h⟩ := h
      refine rc_qs ?_
      refine gfX2_place X Tq9.1 nX5_run_X2 qX5_run_2 dX5_run_24 ?_
      refine rc_cVQ (rest := []) X (mX6_reelAtPlace T1 h) gX5_run_X6_reelAtPlace rfl ⟨rfl, rfl⟩ dyX6_reelAtPlace ⟨Nat.le_of_ble_eq_true rfl, Nat.le_of_ble_eq_true rfl⟩ (rc_recv X T1.1 rfl) rfl rfl (Nat.le_of_ble_eq_true rfl) dX5_run_27 ⟨Nat.zero_le _, Nat.zero_le _⟩ (fun r11 I10 h => ?_)
      rcases r11 with _ | q12
      · have h := h.1 rfl
        refine rc_qn ?_
        refine rc_astoreN X [(4, .null), (0, .ref a0), (1, .ref a1), (2, .int (rc_o a2)), (3, .int (rc_o x3))] dX5_run_30 (by decide) rfl ?_
        refine rc_aloadN X dX5_run_32 0 rfl ?_
        refine rc_nuN X 71 dX5_run_34 (by decide) ?_
        refine rc_subl [(0, .ref a0), (1, .ref a1), (2, .int (rc_o a2)), (3, .int (rc_o x3))] [1, 2, 3, 4] rfl ?_
        exact gX5_run_71 X hr T0 T1 hk2  h
      · obtain ⟨Tq12, h⟩ := h.2 q12 rfl
        refine rc_qs ?_
        refine rc_astore X [(4, .ref q12), (0, .ref a0), (1, .ref a1), (2, .int (rc_o a2)), (3, .int (rc_o x3))] dX5_run_30 (by decide) rfl ?_
        refine rc_aload X dX5_run_32 0 rfl ?_
        refine rc_nu X dX5_run_34 ?_
        refine rc_aload_n X dX5_run_37 rfl 1 rfl ?_
        refine rc_aload_n X dX5_run_38 rfl 2 rfl ?_
        refine rc_aload X dX5_run_39 0 rfl ?_
        refine rc_cVV (rest := []) X (mX5_startBack T0 T1 Tq12 h) gX5_run_X5_startBack rfl ⟨rfl, rfl⟩ dyX5_startBack ⟨Nat.le_of_ble_eq_true rfl, Nat.le_of_ble_eq_true rfl⟩ (rc_recv X T0.1 rfl) rfl rfl (Nat.le_of_ble_eq_true rfl) dX5_run_41 ⟨Nat.zero_le _, Nat.zero_le _⟩ (fun I15 h => ?_)
        refine rc_aload_n X dX5_run_44 rfl 1 rfl ?_
        refine gfX5_first X T0.1 nX5_run_X5 qX5_run_3 dX5_run_45 ?_
        refine rc_cSV (rest := []) X (mX5_goOn T0.2.2.1 h) gX5_run_X5_goOn rfl ⟨rfl, rfl⟩ dyX5_goOn ⟨Nat.le_of_ble_eq_true rfl, Nat.le_of_ble_eq_true rfl⟩ rfl rfl (Nat.le_of_ble_eq_true rfl) dX5_run_48 ⟨Nat.zero_le _, Nat.zero_le _⟩ (fun I16 h => ?_)
        refine rc_aload_n X dX5_run_51 rfl 1 rfl ?_
        refine gfX5_second X T0.1 nX5_run_X5 qX5_run_4 dX5_run_52 ?_
        refine rc_cSV (rest := []) X (mX5_goOn T0.2.2.2 h) gX5_run_X5_goOn rfl ⟨rfl, rfl⟩ dyX5_goOn ⟨Nat.le_of_ble_eq_true rfl, Nat.le_of_ble_eq_true rfl⟩ rfl rfl (Nat.le_of_ble_eq_true rfl) dX5_run_55 ⟨Nat.zero_le _, Nat.zero_le _⟩ (fun I17 h => ?_)
        refine rc_aload_n X dX5_run_58 rfl 1 rfl ?_
        refine rc_aload X dX5_run_59 0 rfl ?_
        refine rc_cVV (rest := []) X (mX5_wearSplice T0 Tq12 h) gX5_run_X5_wearSplice rfl ⟨rfl, rfl⟩ dyX5_wearSplice ⟨Nat.le_of_ble_eq_true rfl, Nat.le_of_ble_eq_true rfl⟩ (rc_recv X T0.1 rfl) rfl rfl (Nat.le_of_ble_eq_true rfl) dX5_run_61 ⟨Nat.zero_le _, Nat.zero_le _⟩ (fun I18 h => ?_)
        refine rc_aload_n X dX5_run_64 rfl 1 rfl ?_
        refine rc_aload_n X dX5_run_65 rfl 2 rfl ?_
        refine rc_aload X dX5_run_66 0 rfl ?_
        refine rc_cVV (rest := []) X (mX5_runOut T0 T1 Tq12 h) gX5_run_X5_runOut rfl ⟨rfl, rfl⟩ dyX5_runOut ⟨Nat.le_of_ble_eq_true rfl, Nat.le_of_ble_eq_true rfl⟩ (rc_recv X T0.1 rfl) rfl rfl (Nat.le_of_ble_eq_true rfl) dX5_run_68 ⟨Nat.zero_le _, Nat.zero_le _⟩ (fun I19 h => ?_)
        refine rc_subl [(0, .ref a0), (1, .ref a1), (2, .int (rc_o a2)), (3, .int (rc_o x3))] [1, 2, 3, 4] rfl ?_
        exact gX5_run_71 X hr T0 T1 hk2  h
noncomputable def rX5_run_2 (G : rc_G) (post : Int → rc_M → Prop) (a0 : Nat) (a1 : Nat) (a2 : Int)  (n : Nat) : Int → rc_M → Prop :=
  Nat.rec (motive := fun _ => Int → rc_M → Prop) (fun _ _ => False) (fun _ ih => wX5_run_2 G post a0 a1 a2  ih) n
set_option maxRecDepth 100000 in
set_option maxHeartbeats 4000000 in
theorem sX5_run_2 {p : Program} {l : Launch} {e : Env} {s : State} {m : MethodId} {below : List Frame} {meth : Method} {c : Code} {G : rc_G} {a0 : Nat} {a1 : Nat} {a2 : Int} {I : rc_M} {post : Int → rc_M → Prop}  {n : Nat} {x3 : Int} (X : rc_X p s m ([.ref a0, .ref a1, .int (rc_o a2)] : List Value).toArray meth c cX5_run 5 wsX5_run RX5 G (rc_A G)) (hr : meth.sig.returnType = some .int) (T0 : kX5 G a0) (T1 : kX6 G a1)  (h : rX5_run_2 G post a0 a1 a2  n x3 I) : rc_g p l e rmX5_run s m ([.ref a0, .ref a1, .int (rc_o a2)] : List Value).toArray below meth c 0 0 (MQ below (rc_QI G post) ([.ref a0, .ref a1, .int (rc_o a2)] : List Value).toArray s 0 0 (rc_A G)) 5 G (rc_A G) 2 [(0, .ref a0), (1, .ref a1), (2, .int (rc_o a2)), (3, .int (rc_o x3))] [] I := by
  induction n generalizing x3 I with
  | zero => exact h.elim
  | succ n ih => exact gX5_run_2 (k2 := rX5_run_2 G post a0 a1 a2  n) X hr T0 T1  (fun x3 J h2 => ih h2) h
def wX5_run (G : rc_G) (a0 : Nat) (a1 : Nat) (a2 : Int) (I : rc_M) (post : Int → rc_M → Prop) : Prop :=
  ∃ n, rX5_run_2 G post a0 a1 a2  n 0 I
set_option maxRecDepth 100000 in
set_option maxHeartbeats 4000000 in
theorem gX5_run_0 {p : Program} {l : Launch} {e : Env} {s : State} {m : MethodId} {below : List Frame} {meth : Method} {c : Code} {G : rc_G} {a0 : Nat} {a1 : Nat} {a2 : Int} {I : rc_M} {post : Int → rc_M → Prop}  (X : rc_X p s m ([.ref a0, .ref a1, .int (rc_o a2)] : List Value).toArray meth c cX5_run 5 wsX5_run RX5 G (rc_A G)) (hr : meth.sig.returnType = some .int) (T0 : kX5 G a0) (T1 : kX6 G a1)  (h : wX5_run G a0 a1 a2 I post) : rc_g p l e rmX5_run s m ([.ref a0, .ref a1, .int (rc_o a2)] : List Value).toArray below meth c 0 0 (MQ below (rc_QI G post) ([.ref a0, .ref a1, .int (rc_o a2)] : List Value).toArray s 0 0 (rc_A G)) 5 G (rc_A G) 0 [(0, .ref a0), (1, .ref a1), (2, .int (rc_o a2))] [] I := by
  unfold wX5_run at h
  refine rc_iconst X dX5_run_0 ?_
  refine rc_istore_n X [(3, .int (rc_o 0)), (0, .ref a0), (1, .ref a1), (2, .int (rc_o a2))] dX5_run_1 rfl (by decide) rfl ?_
  refine rc_subl [(0, .ref a0), (1, .ref a1), (2, .int (rc_o a2)), (3, .int (rc_o 0))] [1, 2, 3, 0] rfl ?_
  obtain ⟨n, h⟩ := h
  exact sX5_run_2 X hr T0 T1  h
theorem mX5_run {l : Launch} {G : rc_G} {a0 : Nat} {a1 : Nat} {a2 : Int} {I : rc_M} {post : Int → rc_M → Prop} (T0 : kX5 G a0) (T1 : kX6 G a1) (h : wX5_run G a0 a1 a2 I post) : rc_CI l yX5_run wsX5_run rmX5_run G [.ref a0, .ref a1, .int (rc_o a2)] I post :=
  rc_body (by decide +kernel) rfl rfl (Nat.le_of_ble_eq_true rfl) rfl (fun p e s m below meth c X hr => gX5_run_0 X hr T0 T1 h)
/-! X5_count -/
abbrev rmX5_count : Room := { frames := 0, cells := 0, slots := 0, locals := 0 }
theorem dyX5_count : yX5_count.cls = RX5 ∧ yX5_count.cls ≠ "java/lang/invoke/MethodHandle" ∧ yX5_count.cls ≠ "java/lang/invoke/VarHandle" ∧ (parseMethodDescriptor yX5_count.desc).map (fun d => d.parameters.length) = some 1 := ⟨rfl, by decide +kernel, by decide +kernel, by decide +kernel⟩
theorem qX5_count_1 : Cond.fieldLink RX5 28 "ReelChanger$Show" "running" "Z" ∈ wsX5_count := List.mem_of_getElem? (i := 1) (by decide +kernel)
theorem nX5_count_X5 : ∀ w ∈ wsX50, w ∈ wsX5_count := fun w h => List.mem_cons_of_mem _ (List.mem_append_left _ (List.mem_append_right _ (h)))
theorem qX5_count_2 : Cond.fieldLink RX5 32 "ReelChanger$Show" "time" "I" ∈ wsX5_count := List.mem_of_getElem? (i := 2) (by decide +kernel)
theorem qX5_count_3 : Cond.fieldLink RX5 52 "ReelChanger$Show" "front" "I" ∈ wsX5_count := List.mem_of_getElem? (i := 3) (by decide +kernel)
theorem qX5_count_4 : Cond.fieldLink RX5 36 "ReelChanger$Show" "dark" "I" ∈ wsX5_count := List.mem_of_getElem? (i := 4) (by decide +kernel)
theorem qX5_count_5 : Cond.fieldLink RX5 39 "ReelChanger$Show" "missed" "I" ∈ wsX5_count := List.mem_of_getElem? (i := 5) (by decide +kernel)
theorem qX5_count_6 : Cond.fieldLink RX5 42 "ReelChanger$Show" "late" "I" ∈ wsX5_count := List.mem_of_getElem? (i := 6) (by decide +kernel)
theorem qX5_count_7 : Cond.fieldLink RX5 45 "ReelChanger$Show" "breaks" "I" ∈ wsX5_count := List.mem_of_getElem? (i := 7) (by decide +kernel)
theorem qX5_count_8 : Cond.fieldLink RX5 55 "ReelChanger$Show" "threaded" "I" ∈ wsX5_count := List.mem_of_getElem? (i := 8) (by decide +kernel)
theorem qX5_count_9 : Cond.fieldLink RX5 12 "ReelChanger$Show" "operator" "LReelChanger$Operator;" ∈ wsX5_count := List.mem_of_getElem? (i := 9) (by decide +kernel)
theorem qX5_count_10 : Cond.fieldLink RX5 64 "ReelChanger$Operator" "rowCount" "I" ∈ wsX5_count := List.mem_of_getElem? (i := 10) (by decide +kernel)
theorem nX5_count_X0 : ∀ w ∈ wsX00, w ∈ wsX5_count := fun w h => List.mem_cons_of_mem _ (List.mem_append_right _ (h))
theorem qX5_count_11 : Cond.fieldLink RX5 67 "ReelChanger$Operator" "ticksLeft" "I" ∈ wsX5_count := List.mem_of_getElem? (i := 11) (by decide +kernel)
theorem qX5_count_12 : Cond.constant RX5 70 (-100001) ∈ wsX5_count := List.mem_of_getElem? (i := 12) (by decide +kernel)
def wX5_count (G : rc_G) (a0 : Nat) (a1 : Int) (I : rc_M) (post : Int → rc_M → Prop) : Prop :=
  rc_R a1 ∧ ((a1 = 0 → rc_R (I a0 0) ∧ (((I a0 0) = 0 → post 0 I) ∧ (¬ (I a0 0) = 0 → post 1 I))) ∧ (a1 = 1 → post (I a0 1) I) ∧ (a1 = 2 → post (I a0 7) I) ∧ (a1 = 3 → post (I a0 2) I) ∧ (a1 = 4 → post (I a0 3) I) ∧ (a1 = 5 → post (I a0 4) I) ∧ (a1 = 6 → post (I a0 5) I) ∧ (a1 = 7 → post (I a0 8) I) ∧ (a1 = 8 → post (I (a0 + 1) 1) I) ∧ (a1 = 9 → post (I (a0 + 1) 0) I) ∧ ((a1 < 0 ∨ 9 < a1) → post (-100001) I))
set_option maxRecDepth 100000 in
set_option maxHeartbeats 4000000 in
theorem gX5_count_0 {p : Program} {l : Launch} {e : Env} {s : State} {m : MethodId} {below : List Frame} {meth : Method} {c : Code} {G : rc_G} {a0 : Nat} {a1 : Int} {I : rc_M} {post : Int → rc_M → Prop}  (X : rc_X p s m ([.ref a0, .int (rc_o a1)] : List Value).toArray meth c cX5_count 2 wsX5_count RX5 G (rc_A G)) (hr : meth.sig.returnType = some .int) (T0 : kX5 G a0)  (h : wX5_count G a0 a1 I post) : rc_g p l e rmX5_count s m ([.ref a0, .int (rc_o a1)] : List Value).toArray below meth c 0 0 (MQ below (rc_QI G post) ([.ref a0, .int (rc_o a1)] : List Value).toArray s 0 0 (rc_A G)) 2 G (rc_A G) 0 [(0, .ref a0), (1, .int (rc_o a1))] [] I := by
  unfold wX5_count at h
  refine rc_iload_n X dX5_count_0 rfl 1 rfl ?_
  obtain ⟨c1, h⟩ := h
  by_cases c4 : a1 = 0
  · have h := h.1 c4
    refine rc_tsAt X 56 0 dX5_count_1 c1 c4 (by decide) (by decide) rfl (by decide) ?_
    refine rc_aload_n X dX5_count_56 rfl 0 rfl ?_
    refine gfX5_running X T0.1 nX5_count_X5 qX5_count_1 dX5_count_57 ?_
    obtain ⟨c2, h⟩ := h
    refine rc_if_eq X 67 dX5_count_60 (by decide) c2 (fun c3 => ?_) (fun c3 => ?_)
    · have h := h.1 c3
      refine rc_iconst X dX5_count_67 ?_
      exact rc_iret X hr dX5_count_68 h
    · have h := h.2 c3
      refine rc_iconst X dX5_count_63 ?_
      refine rc_goto X 68 dX5_count_64 (by decide) ?_
      exact rc_iret X hr dX5_count_68 h
  by_cases c5 : a1 = 1
  · have h := h.2.1 c5
    refine rc_tsAt X 69 1 dX5_count_1 c1 c5 (by decide) (by decide) rfl (by decide) ?_
    refine rc_aload_n X dX5_count_69 rfl 0 rfl ?_
    refine gfX5_time X T0.1 nX5_count_X5 qX5_count_2 dX5_count_70 ?_
    exact rc_iret X hr dX5_count_73 h
  by_cases c6 : a1 = 2
  · have h := h.2.2.1 c6
    refine rc_tsAt X 74 2 dX5_count_1 c1 c6 (by decide) (by decide) rfl (by decide) ?_
    refine rc_aload_n X dX5_count_74 rfl 0 rfl ?_
    refine gfX5_front X T0.1 nX5_count_X5 qX5_count_3 dX5_count_75 ?_
    exact rc_iret X hr dX5_count_78 h
  by_cases c7 : a1 = 3
  · have h := h.2.2.2.1 c7
    refine rc_tsAt X 79 3 dX5_count_1 c1 c7 (by decide) (by decide) rfl (by decide) ?_
    refine rc_aload_n X dX5_count_79 rfl 0 rfl ?_
    refine gfX5_dark X T0.1 nX5_count_X5 qX5_count_4 dX5_count_80 ?_
    exact rc_iret X hr dX5_count_83 h
  by_cases c8 : a1 = 4
  · have h := h.2.2.2.2.1 c8
    refine rc_tsAt X 84 4 dX5_count_1 c1 c8 (by decide) (by decide) rfl (by decide) ?_
    refine rc_aload_n X dX5_count_84 rfl 0 rfl ?_
    refine gfX5_missed X T0.1 nX5_count_X5 qX5_count_5 dX5_count_85 ?_
    exact rc_iret X hr dX5_count_88 h
  by_cases c9 : a1 = 5
  · have h := h.2.2.2.2.2.1 c9
    refine rc_tsAt X 89 5 dX5_count_1 c1 c9 (by decide) (by decide) rfl (by decide) ?_
    refine rc_aload_n X dX5_count_89 rfl 0 rfl ?_
    refine gfX5_late X T0.1 nX5_count_X5 qX5_count_6 dX5_count_90 ?_
    exact rc_iret X hr dX5_count_93 h
  by_cases c10 : a1 = 6
  · have h := h.2.2.2.2.2.2.1 c10
    refine rc_tsAt X 94 6 dX5_count_1 c1 c10 (by decide) (by decide) rfl (by decide) ?_
    refine rc_aload_n X dX5_count_94 rfl 0 rfl ?_
    refine gfX5_breaks X T0.1 nX5_count_X5 qX5_count_7 dX5_count_95 ?_
    exact rc_iret X hr dX5_count_98 h
  by_cases c11 : a1 = 7
  · have h := h.2.2.2.2.2.2.2.1 c11
    refine rc_tsAt X 99 7 dX5_count_1 c1 c11 (by decide) (by decide) rfl (by decide) ?_
    refine rc_aload_n X dX5_count_99 rfl 0 rfl ?_
    refine gfX5_threaded X T0.1 nX5_count_X5 qX5_count_8 dX5_count_100 ?_
    exact rc_iret X hr dX5_count_103 h
  by_cases c12 : a1 = 8
  · have h := h.2.2.2.2.2.2.2.2.1 c12
    refine rc_tsAt X 104 8 dX5_count_1 c1 c12 (by decide) (by decide) rfl (by decide) ?_
    refine rc_aload_n X dX5_count_104 rfl 0 rfl ?_
    refine gfX5_operator X T0.1 nX5_count_X5 qX5_count_9 dX5_count_105 ?_
    refine gfX0_rowCount X T0.2.1.1 nX5_count_X0 qX5_count_10 dX5_count_108 ?_
    exact rc_iret X hr dX5_count_111 h
  by_cases c13 : a1 = 9
  · have h := h.2.2.2.2.2.2.2.2.2.1 c13
    refine rc_tsAt X 112 9 dX5_count_1 c1 c13 (by decide) (by decide) rfl (by decide) ?_
    refine rc_aload_n X dX5_count_112 rfl 0 rfl ?_
    refine gfX5_operator X T0.1 nX5_count_X5 qX5_count_9 dX5_count_113 ?_
    refine gfX0_ticksLeft X T0.2.1.1 nX5_count_X0 qX5_count_11 dX5_count_116 ?_
    exact rc_iret X hr dX5_count_119 h
  have h := h.2.2.2.2.2.2.2.2.2.2 (by omega)
  refine rc_tsOut X 120 dX5_count_1 c1 (by omega) (by decide) ?_
  refine rc_ldc (n := (-100001)) X qX5_count_12 (by decide +kernel) dX5_count_120 ?_
  exact rc_iret X hr dX5_count_122 h
theorem mX5_count {l : Launch} {G : rc_G} {a0 : Nat} {a1 : Int} {I : rc_M} {post : Int → rc_M → Prop} (T0 : kX5 G a0) (h : wX5_count G a0 a1 I post) : rc_CI l yX5_count wsX5_count rmX5_count G [.ref a0, .int (rc_o a1)] I post :=
  rc_body (by decide +kernel) rfl rfl (Nat.le_of_ble_eq_true rfl) rfl (fun p e s m below meth c X hr => gX5_count_0 X hr T0 h)
/-! X5_copyFrom -/
abbrev rmX5_copyFrom : Room := { frames := 2, cells := 0, slots := 0, locals := 81 }
theorem dyX5_copyFrom : yX5_copyFrom.cls = RX5 ∧ yX5_copyFrom.cls ≠ "java/lang/invoke/MethodHandle" ∧ yX5_copyFrom.cls ≠ "java/lang/invoke/VarHandle" ∧ (parseMethodDescriptor yX5_copyFrom.desc).map (fun d => d.parameters.length) = some 1 := ⟨rfl, by decide +kernel, by decide +kernel, by decide +kernel⟩
theorem qX5_copyFrom_1 : Cond.fieldLink RX5 28 "ReelChanger$Show" "running" "Z" ∈ wsX5_copyFrom := List.mem_of_getElem? (i := 1) (by decide +kernel)
theorem nX5_copyFrom_X5 : ∀ w ∈ wsX50, w ∈ wsX5_copyFrom := fun w h => List.mem_cons_of_mem _ (List.mem_append_left _ (List.mem_append_left _ (List.mem_append_right _ (h))))
theorem qX5_copyFrom_2 : Cond.fieldLink RX5 32 "ReelChanger$Show" "time" "I" ∈ wsX5_copyFrom := List.mem_of_getElem? (i := 2) (by decide +kernel)
theorem qX5_copyFrom_3 : Cond.fieldLink RX5 36 "ReelChanger$Show" "dark" "I" ∈ wsX5_copyFrom := List.mem_of_getElem? (i := 3) (by decide +kernel)
theorem qX5_copyFrom_4 : Cond.fieldLink RX5 39 "ReelChanger$Show" "missed" "I" ∈ wsX5_copyFrom := List.mem_of_getElem? (i := 4) (by decide +kernel)
theorem qX5_copyFrom_5 : Cond.fieldLink RX5 42 "ReelChanger$Show" "late" "I" ∈ wsX5_copyFrom := List.mem_of_getElem? (i := 5) (by decide +kernel)
theorem qX5_copyFrom_6 : Cond.fieldLink RX5 45 "ReelChanger$Show" "breaks" "I" ∈ wsX5_copyFrom := List.mem_of_getElem? (i := 6) (by decide +kernel)
theorem qX5_copyFrom_7 : Cond.fieldLink RX5 12 "ReelChanger$Show" "operator" "LReelChanger$Operator;" ∈ wsX5_copyFrom := List.mem_of_getElem? (i := 7) (by decide +kernel)
theorem qX5_copyFrom_8 : Cond.fieldLink RX5 52 "ReelChanger$Show" "front" "I" ∈ wsX5_copyFrom := List.mem_of_getElem? (i := 8) (by decide +kernel)
theorem qX5_copyFrom_9 : Cond.fieldLink RX5 55 "ReelChanger$Show" "threaded" "I" ∈ wsX5_copyFrom := List.mem_of_getElem? (i := 9) (by decide +kernel)
theorem qX5_copyFrom_10 : Cond.fieldLink RX5 58 "ReelChanger$Show" "ranOut" "Z" ∈ wsX5_copyFrom := List.mem_of_getElem? (i := 10) (by decide +kernel)
theorem qX5_copyFrom_11 : Cond.fieldLink RX5 21 "ReelChanger$Show" "first" "LReelChanger$Projector;" ∈ wsX5_copyFrom := List.mem_of_getElem? (i := 11) (by decide +kernel)
theorem qX5_copyFrom_12 : Cond.fieldLink RX5 25 "ReelChanger$Show" "second" "LReelChanger$Projector;" ∈ wsX5_copyFrom := List.mem_of_getElem? (i := 12) (by decide +kernel)
def wX5_copyFrom (G : rc_G) (a0 : Nat) (a1 : Nat) (I : rc_M) (post : rc_M → Prop) : Prop :=
  (I a1 0 = 0 ∨ I a1 0 = 1) ∧ (∀ I2, I2 = rc_s I a0 0 (I a1 0) → ∀ I3, I3 = rc_s I2 a0 1 (I2 a1 1) → ∀ I4, I4 = rc_s I3 a0 2 (I3 a1 2) → ∀ I5, I5 = rc_s I4 a0 3 (I4 a1 3) → ∀ I6, I6 = rc_s I5 a0 4 (I5 a1 4) → ∀ I7, I7 = rc_s I6 a0 5 (I6 a1 5) → wX0_copyFrom G (a0 + 1) (a1 + 1) I7 (fun I8 => ∀ I9, I9 = rc_s I8 a0 7 (I8 a1 7) → ∀ I10, I10 = rc_s I9 a0 8 (I9 a1 8) → (I10 a1 9 = 0 ∨ I10 a1 9 = 1) ∧ (∀ I12, I12 = rc_s I10 a0 9 (I10 a1 9) → wX2_copyFrom G (a0 + 4) (a1 + 4) I12 (fun I13 => wX2_copyFrom G (a0 + 5) (a1 + 5) I13 (fun I14 => post I14)))))
set_option maxRecDepth 100000 in
set_option maxHeartbeats 4000000 in
theorem gX5_copyFrom_0 {p : Program} {l : Launch} {e : Env} {s : State} {m : MethodId} {below : List Frame} {meth : Method} {c : Code} {G : rc_G} {a0 : Nat} {a1 : Nat} {I : rc_M} {post : rc_M → Prop}  (X : rc_X p s m ([.ref a0, .ref a1] : List Value).toArray meth c cX5_copyFrom 2 wsX5_copyFrom RX5 G (rc_A G)) (hr : meth.sig.returnType = none) (T0 : kX5 G a0) (T1 : kX5 G a1)  (h : wX5_copyFrom G a0 a1 I post) : rc_g p l e rmX5_copyFrom s m ([.ref a0, .ref a1] : List Value).toArray below meth c 0 0 (MQ below (rc_QV G post) ([.ref a0, .ref a1] : List Value).toArray s 0 0 (rc_A G)) 2 G (rc_A G) 0 [(0, .ref a0), (1, .ref a1)] [] I := by
  unfold wX5_copyFrom at h
  refine rc_aload_n X dX5_copyFrom_0 rfl 0 rfl ?_
  refine rc_aload_n X dX5_copyFrom_1 rfl 1 rfl ?_
  refine gfX5_running X T1.1 nX5_copyFrom_X5 qX5_copyFrom_1 dX5_copyFrom_2 ?_
  obtain ⟨c1, h⟩ := h
  refine pfX5_running X T0.1 nX5_copyFrom_X5 qX5_copyFrom_1 dX5_copyFrom_5 c1 (fun I2 e2 => ?_)
  have h := h I2 e2
  refine rc_aload_n X dX5_copyFrom_8 rfl 0 rfl ?_
  refine rc_aload_n X dX5_copyFrom_9 rfl 1 rfl ?_
  refine gfX5_time X T1.1 nX5_copyFrom_X5 qX5_copyFrom_2 dX5_copyFrom_10 ?_
  refine pfX5_time X T0.1 nX5_copyFrom_X5 qX5_copyFrom_2 dX5_copyFrom_13 (fun I3 e3 => ?_)
  have h := h I3 e3
  refine rc_aload_n X dX5_copyFrom_16 rfl 0 rfl ?_
  refine rc_aload_n X dX5_copyFrom_17 rfl 1 rfl ?_
  refine gfX5_dark X T1.1 nX5_copyFrom_X5 qX5_copyFrom_3 dX5_copyFrom_18 ?_
  refine pfX5_dark X T0.1 nX5_copyFrom_X5 qX5_copyFrom_3 dX5_copyFrom_21 (fun I4 e4 => ?_)
  have h := h I4 e4
  refine rc_aload_n X dX5_copyFrom_24 rfl 0 rfl ?_
  refine rc_aload_n X dX5_copyFrom_25 rfl 1 rfl ?_
  refine gfX5_missed X T1.1 nX5_copyFrom_X5 qX5_copyFrom_4 dX5_copyFrom_26 ?_
  refine pfX5_missed X T0.1 nX5_copyFrom_X5 qX5_copyFrom_4 dX5_copyFrom_29 (fun I5 e5 => ?_)
  have h := h I5 e5
  refine rc_aload_n X dX5_copyFrom_32 rfl 0 rfl ?_
  refine rc_aload_n X dX5_copyFrom_33 rfl 1 rfl ?_
  refine gfX5_late X T1.1 nX5_copyFrom_X5 qX5_copyFrom_5 dX5_copyFrom_34 ?_
  refine pfX5_late X T0.1 nX5_copyFrom_X5 qX5_copyFrom_5 dX5_copyFrom_37 (fun I6 e6 => ?_)
  have h := h I6 e6
  refine rc_aload_n X dX5_copyFrom_40 rfl 0 rfl ?_
  refine rc_aload_n X dX5_copyFrom_41 rfl 1 rfl ?_
  refine gfX5_breaks X T1.1 nX5_copyFrom_X5 qX5_copyFrom_6 dX5_copyFrom_42 ?_
  refine pfX5_breaks X T0.1 nX5_copyFrom_X5 qX5_copyFrom_6 dX5_copyFrom_45 (fun I7 e7 => ?_)
  have h := h I7 e7
  refine rc_aload_n X dX5_copyFrom_48 rfl 0 rfl ?_
  refine gfX5_operator X T0.1 nX5_copyFrom_X5 qX5_copyFrom_7 dX5_copyFrom_49 ?_
  refine rc_aload_n X dX5_copyFrom_52 rfl 1 rfl ?_
  refine gfX5_operator X T1.1 nX5_copyFrom_X5 qX5_copyFrom_7 dX5_copyFrom_53 ?_
  refine rc_cVV (rest := []) X (mX0_copyFrom T0.2.1 T1.2.1 h) gX5_copyFrom_X0_copyFrom rfl ⟨rfl, rfl⟩ dyX0_copyFrom ⟨Nat.le_of_ble_eq_true rfl, Nat.le_of_ble_eq_true rfl⟩ (rc_recv X T0.2.1.1 rfl) rfl rfl (Nat.le_of_ble_eq_true rfl) dX5_copyFrom_56 ⟨Nat.zero_le _, Nat.zero_le _⟩ (fun I8 h => ?_)
  refine rc_aload_n X dX5_copyFrom_59 rfl 0 rfl ?_
  refine rc_aload_n X dX5_copyFrom_60 rfl 1 rfl ?_
  refine gfX5_front X T1.1 nX5_copyFrom_X5 qX5_copyFrom_8 dX5_copyFrom_61 ?_
  refine pfX5_front X T0.1 nX5_copyFrom_X5 qX5_copyFrom_8 dX5_copyFrom_64 (fun I9 e9 => ?_)
  have h := h I9 e9
  refine rc_aload_n X dX5_copyFrom_67 rfl 0 rfl ?_
  refine rc_aload_n X dX5_copyFrom_68 rfl 1 rfl ?_
  refine gfX5_threaded X T1.1 nX5_copyFrom_X5 qX5_copyFrom_9 dX5_copyFrom_69 ?_
  refine pfX5_threaded X T0.1 nX5_copyFrom_X5 qX5_copyFrom_9 dX5_copyFrom_72 (fun I10 e10 => ?_)
  have h := h I10 e10
  refine rc_aload_n X dX5_copyFrom_75 rfl 0 rfl ?_
  refine rc_aload_n X dX5_copyFrom_76 rfl 1 rfl ?_
  refine gfX5_ranOut X T1.1 nX5_copyFrom_X5 qX5_copyFrom_10 dX5_copyFrom_77 ?_
  obtain ⟨c11, h⟩ := h
  refine pfX5_ranOut X T0.1 nX5_copyFrom_X5 qX5_copyFrom_10 dX5_copyFrom_80 c11 (fun I12 e12 => ?_)
  have h := h I12 e12
  refine rc_aload_n X dX5_copyFrom_83 rfl 0 rfl ?_
  refine gfX5_first X T0.1 nX5_copyFrom_X5 qX5_copyFrom_11 dX5_copyFrom_84 ?_
  refine rc_aload_n X dX5_copyFrom_87 rfl 1 rfl ?_
  refine gfX5_first X T1.1 nX5_copyFrom_X5 qX5_copyFrom_11 dX5_copyFrom_88 ?_
  refine rc_cVV (rest := []) X (mX2_copyFrom T0.2.2.1 T1.2.2.1 h) gX5_copyFrom_X2_copyFrom rfl ⟨rfl, rfl⟩ dyX2_copyFrom ⟨Nat.le_of_ble_eq_true rfl, Nat.le_of_ble_eq_true rfl⟩ (rc_recv X T0.2.2.1.1 rfl) rfl rfl (Nat.le_of_ble_eq_true rfl) dX5_copyFrom_91 ⟨Nat.zero_le _, Nat.zero_le _⟩ (fun I13 h => ?_)
  refine rc_aload_n X dX5_copyFrom_94 rfl 0 rfl ?_
  refine gfX5_second X T0.1 nX5_copyFrom_X5 qX5_copyFrom_12 dX5_copyFrom_95 ?_
  refine rc_aload_n X dX5_copyFrom_98 rfl 1 rfl ?_
  refine gfX5_second X T1.1 nX5_copyFrom_X5 qX5_copyFrom_12 dX5_copyFrom_99 ?_
  refine rc_cVV (rest := []) X (mX2_copyFrom T0.2.2.2 T1.2.2.2 h) gX5_copyFrom_X2_copyFrom rfl ⟨rfl, rfl⟩ dyX2_copyFrom ⟨Nat.le_of_ble_eq_true rfl, Nat.le_of_ble_eq_true rfl⟩ (rc_recv X T0.2.2.2.1 rfl) rfl rfl (Nat.le_of_ble_eq_true rfl) dX5_copyFrom_102 ⟨Nat.zero_le _, Nat.zero_le _⟩ (fun I14 h => ?_)
  exact rc_vret X hr dX5_copyFrom_105 h
theorem mX5_copyFrom {l : Launch} {G : rc_G} {a0 : Nat} {a1 : Nat} {I : rc_M} {post : rc_M → Prop} (T0 : kX5 G a0) (T1 : kX5 G a1) (h : wX5_copyFrom G a0 a1 I post) : rc_CV l yX5_copyFrom wsX5_copyFrom rmX5_copyFrom G [.ref a0, .ref a1] I post :=
  rc_body (by decide +kernel) rfl rfl (Nat.le_of_ble_eq_true rfl) rfl (fun p e s m below meth c X hr => gX5_copyFrom_0 X hr T0 T1 h)
