/-! X0_dropAll -/
abbrev rmX0_dropAll : Room := { frames := 0, cells := 0, slots := 0, locals := 0 }
theorem dyX0_dropAll : yX0_dropAll.cls = RX0 ∧ yX0_dropAll.cls ≠ "java/lang/invoke/MethodHandle" ∧ yX0_dropAll.cls ≠ "java/lang/invoke/VarHandle" ∧ (parseMethodDescriptor yX0_dropAll.desc).map (fun d => d.parameters.length) = some 0 := ⟨rfl, by decide +kernel, by decide +kernel, by decide +kernel⟩
theorem qX0_dropAll_1 : Cond.fieldLink RX0 18 "ReelChanger$Operator" "ticksLeft" "I" ∈ wsX0_dropAll := List.mem_of_getElem? (i := 1) (by decide +kernel)
theorem nX0_dropAll_X0 : ∀ w ∈ wsX00, w ∈ wsX0_dropAll := fun w h => List.mem_cons_of_mem _ (List.mem_append_right _ (h))
theorem qX0_dropAll_2 : Cond.fieldLink RX0 22 "ReelChanger$Operator" "rowCount" "I" ∈ wsX0_dropAll := List.mem_of_getElem? (i := 2) (by decide +kernel)
def wX0_dropAll (G : rc_G) (a0 : Nat) (I : rc_M) (post : rc_M → Prop) : Prop :=
  ∀ I1, I1 = rc_s I a0 0 0 → ∀ I2, I2 = rc_s I1 a0 1 0 → post I2
set_option maxRecDepth 100000 in
set_option maxHeartbeats 4000000 in
theorem gX0_dropAll_0 {p : Program} {l : Launch} {e : Env} {s : State} {m : MethodId} {below : List Frame} {meth : Method} {c : Code} {G : rc_G} {a0 : Nat} {I : rc_M} {post : rc_M → Prop}  (X : rc_X p s m ([.ref a0] : List Value).toArray meth c cX0_dropAll 1 wsX0_dropAll RX0 G (rc_A G)) (hr : meth.sig.returnType = none) (T0 : kX0 G a0)  (h : wX0_dropAll G a0 I post) : rc_g p l e rmX0_dropAll s m ([.ref a0] : List Value).toArray below meth c 0 0 (MQ below (rc_QV G post) ([.ref a0] : List Value).toArray s 0 0 (rc_A G)) 1 G (rc_A G) 0 [(0, .ref a0)] [] I := by
  unfold wX0_dropAll at h
  refine rc_aload_n X dX0_dropAll_0 rfl 0 rfl ?_
  refine rc_iconst X dX0_dropAll_1 ?_
  refine pfX0_ticksLeft X T0.1 nX0_dropAll_X0 qX0_dropAll_1 dX0_dropAll_2 (fun I1 e1 => ?_)
  have h := h I1 e1
  refine rc_aload_n X dX0_dropAll_5 rfl 0 rfl ?_
  refine rc_iconst X dX0_dropAll_6 ?_
  refine pfX0_rowCount X T0.1 nX0_dropAll_X0 qX0_dropAll_2 dX0_dropAll_7 (fun I2 e2 => ?_)
  have h := h I2 e2
  exact rc_vret X hr dX0_dropAll_10 h
theorem mX0_dropAll {l : Launch} {G : rc_G} {a0 : Nat} {I : rc_M} {post : rc_M → Prop} (T0 : kX0 G a0) (h : wX0_dropAll G a0 I post) : rc_CV l yX0_dropAll wsX0_dropAll rmX0_dropAll G [.ref a0] I post :=
  rc_body (by decide +kernel) rfl rfl (Nat.le_of_ble_eq_true rfl) rfl (fun p e s m below meth c X hr => gX0_dropAll_0 X hr T0 h)
/-! X0_isWorking -/
abbrev rmX0_isWorking : Room := { frames := 0, cells := 0, slots := 0, locals := 0 }
theorem dyX0_isWorking : yX0_isWorking.cls = RX0 ∧ yX0_isWorking.cls ≠ "java/lang/invoke/MethodHandle" ∧ yX0_isWorking.cls ≠ "java/lang/invoke/VarHandle" ∧ (parseMethodDescriptor yX0_isWorking.desc).map (fun d => d.parameters.length) = some 0 := ⟨rfl, by decide +kernel, by decide +kernel, by decide +kernel⟩
theorem qX0_isWorking_1 : Cond.fieldLink RX0 18 "ReelChanger$Operator" "ticksLeft" "I" ∈ wsX0_isWorking := List.mem_of_getElem? (i := 1) (by decide +kernel)
theorem nX0_isWorking_X0 : ∀ w ∈ wsX00, w ∈ wsX0_isWorking := fun w h => List.mem_cons_of_mem _ (List.mem_append_right _ (h))
def wX0_isWorking (G : rc_G) (a0 : Nat) (I : rc_M) (post : Int → rc_M → Prop) : Prop :=
  rc_R (I a0 0) ∧ (((I a0 0) ≤ 0 → post 0 I) ∧ (¬ (I a0 0) ≤ 0 → post 1 I))
set_option maxRecDepth 100000 in
set_option maxHeartbeats 4000000 in
theorem gX0_isWorking_0 {p : Program} {l : Launch} {e : Env} {s : State} {m : MethodId} {below : List Frame} {meth : Method} {c : Code} {G : rc_G} {a0 : Nat} {I : rc_M} {post : Int → rc_M → Prop}  (X : rc_X p s m ([.ref a0] : List Value).toArray meth c cX0_isWorking 1 wsX0_isWorking RX0 G (rc_A G)) (hr : meth.sig.returnType = some .boolean) (T0 : kX0 G a0)  (h : wX0_isWorking G a0 I post) : rc_g p l e rmX0_isWorking s m ([.ref a0] : List Value).toArray below meth c 0 0 (MQ below (rc_QI G post) ([.ref a0] : List Value).toArray s 0 0 (rc_A G)) 1 G (rc_A G) 0 [(0, .ref a0)] [] I := by
  unfold wX0_isWorking at h
  refine rc_aload_n X dX0_isWorking_0 rfl 0 rfl ?_
  refine gfX0_ticksLeft X T0.1 nX0_isWorking_X0 qX0_isWorking_1 dX0_isWorking_1 ?_
  obtain ⟨c1, h⟩ := h
  refine rc_if_le X 11 dX0_isWorking_4 (by decide) c1 (fun c2 => ?_) (fun c2 => ?_)
  · have h := h.1 c2
    refine rc_iconst X dX0_isWorking_11 ?_
    exact rc_zret X hr dX0_isWorking_12 (Or.inl rfl) h
  · have h := h.2 c2
    refine rc_iconst X dX0_isWorking_7 ?_
    refine rc_goto X 12 dX0_isWorking_8 (by decide) ?_
    exact rc_zret X hr dX0_isWorking_12 (Or.inr rfl) h
theorem mX0_isWorking {l : Launch} {G : rc_G} {a0 : Nat} {I : rc_M} {post : Int → rc_M → Prop} (T0 : kX0 G a0) (h : wX0_isWorking G a0 I post) : rc_CI l yX0_isWorking wsX0_isWorking rmX0_isWorking G [.ref a0] I post :=
  rc_body (by decide +kernel) rfl rfl (Nat.le_of_ble_eq_true rfl) rfl (fun p e s m below meth c X hr => gX0_isWorking_0 X hr T0 h)
/-! X0_hasTask -/
abbrev rmX0_hasTask : Room := { frames := 0, cells := 0, slots := 0, locals := 0 }
theorem dyX0_hasTask : yX0_hasTask.cls = RX0 ∧ yX0_hasTask.cls ≠ "java/lang/invoke/MethodHandle" ∧ yX0_hasTask.cls ≠ "java/lang/invoke/VarHandle" ∧ (parseMethodDescriptor yX0_hasTask.desc).map (fun d => d.parameters.length) = some 1 := ⟨rfl, by decide +kernel, by decide +kernel, by decide +kernel⟩
theorem qX0_hasTask_2 : Cond.fieldLink RX0 22 "ReelChanger$Operator" "rowCount" "I" ∈ wsX0_hasTask := List.mem_of_getElem? (i := 2) (by decide +kernel)
theorem nX0_hasTask_X0 : ∀ w ∈ wsX00, w ∈ wsX0_hasTask := fun w h => List.mem_cons_of_mem _ (List.mem_append_right _ (h))
theorem qX0_hasTask_1 : Cond.fieldLink RX0 18 "ReelChanger$Operator" "ticksLeft" "I" ∈ wsX0_hasTask := List.mem_of_getElem? (i := 1) (by decide +kernel)
def wX0_hasTask (G : rc_G) (a0 : Nat) (a1 : Int) (I : rc_M) (post : Int → rc_M → Prop) : Prop :=
  rc_R a1 ∧ ((¬ a1 = 0 → rc_R a1 ∧ ((a1 ≤ 0 → post 0 I) ∧ (¬ a1 ≤ 0 → rc_R a1 ∧ (rc_R (I a0 1) ∧ (((I a0 1) < a1 → post 0 I) ∧ (¬ (I a0 1) < a1 → rc_R a1 ∧ ((8 < a1 → post 0 I) ∧ (¬ 8 < a1 → post 1 I)))))))) ∧ (a1 = 0 → rc_R (I a0 0) ∧ (((I a0 0) ≤ 0 → post 0 I) ∧ (¬ (I a0 0) ≤ 0 → post 1 I))))
set_option maxRecDepth 100000 in
set_option maxHeartbeats 4000000 in
theorem gX0_hasTask_0 {p : Program} {l : Launch} {e : Env} {s : State} {m : MethodId} {below : List Frame} {meth : Method} {c : Code} {G : rc_G} {a0 : Nat} {a1 : Int} {I : rc_M} {post : Int → rc_M → Prop}  (X : rc_X p s m ([.ref a0, .int (rc_o a1)] : List Value).toArray meth c cX0_hasTask 2 wsX0_hasTask RX0 G (rc_A G)) (hr : meth.sig.returnType = some .boolean) (T0 : kX0 G a0)  (h : wX0_hasTask G a0 a1 I post) : rc_g p l e rmX0_hasTask s m ([.ref a0, .int (rc_o a1)] : List Value).toArray below meth c 0 0 (MQ below (rc_QI G post) ([.ref a0, .int (rc_o a1)] : List Value).toArray s 0 0 (rc_A G)) 2 G (rc_A G) 0 [(0, .ref a0), (1, .int (rc_o a1))] [] I := by
  unfold wX0_hasTask at h
  refine rc_iload_n X dX0_hasTask_0 rfl 1 rfl ?_
  obtain ⟨c1, h⟩ := h
  refine rc_if_ne X 19 dX0_hasTask_1 (by decide) c1 (fun c2 => ?_) (fun c2 => ?_)
  · have h := h.1 c2
    refine rc_iload_n X dX0_hasTask_19 rfl 1 rfl ?_
    obtain ⟨c3, h⟩ := h
    refine rc_if_le X 41 dX0_hasTask_20 (by decide) c3 (fun c4 => ?_) (fun c4 => ?_)
    · have h := h.1 c4
      refine rc_iconst X dX0_hasTask_41 ?_
      exact rc_zret X hr dX0_hasTask_42 (Or.inl rfl) h
    · have h := h.2 c4
      refine rc_iload_n X dX0_hasTask_23 rfl 1 rfl ?_
      refine rc_aload_n X dX0_hasTask_24 rfl 0 rfl ?_
      refine gfX0_rowCount X T0.1 nX0_hasTask_X0 qX0_hasTask_2 dX0_hasTask_25 ?_
      obtain ⟨c5, h⟩ := h
      obtain ⟨c6, h⟩ := h
      refine rc_ic_gt X 41 dX0_hasTask_28 (by decide) c5 c6 (fun c7 => ?_) (fun c7 => ?_)
      · have h := h.1 c7
        refine rc_iconst X dX0_hasTask_41 ?_
        exact rc_zret X hr dX0_hasTask_42 (Or.inl rfl) h
      · have h := h.2 c7
        refine rc_iload_n X dX0_hasTask_31 rfl 1 rfl ?_
        refine rc_bipush X dX0_hasTask_32 (rc_b8 _ ⟨by decide, by decide⟩) ?_
        obtain ⟨c8, h⟩ := h
        refine rc_ic_gt X 41 dX0_hasTask_34 (by decide) c8 ⟨by decide, by decide⟩ (fun c9 => ?_) (fun c9 => ?_)
        · have h := h.1 c9
          refine rc_iconst X dX0_hasTask_41 ?_
          exact rc_zret X hr dX0_hasTask_42 (Or.inl rfl) h
        · have h := h.2 c9
          refine rc_iconst X dX0_hasTask_37 ?_
          refine rc_goto X 42 dX0_hasTask_38 (by decide) ?_
          exact rc_zret X hr dX0_hasTask_42 (Or.inr rfl) h
  · have h := h.2 c2
    refine rc_aload_n X dX0_hasTask_4 rfl 0 rfl ?_
    refine gfX0_ticksLeft X T0.1 nX0_hasTask_X0 qX0_hasTask_1 dX0_hasTask_5 ?_
    obtain ⟨c10, h⟩ := h
    refine rc_if_le X 15 dX0_hasTask_8 (by decide) c10 (fun c11 => ?_) (fun c11 => ?_)
    · have h := h.1 c11
      refine rc_iconst X dX0_hasTask_15 ?_
      refine rc_goto X 42 dX0_hasTask_16 (by decide) ?_
      exact rc_zret X hr dX0_hasTask_42 (Or.inl rfl) h
    · have h := h.2 c11
      refine rc_iconst X dX0_hasTask_11 ?_
      refine rc_goto X 42 dX0_hasTask_12 (by decide) ?_
      exact rc_zret X hr dX0_hasTask_42 (Or.inr rfl) h
theorem mX0_hasTask {l : Launch} {G : rc_G} {a0 : Nat} {a1 : Int} {I : rc_M} {post : Int → rc_M → Prop} (T0 : kX0 G a0) (h : wX0_hasTask G a0 a1 I post) : rc_CI l yX0_hasTask wsX0_hasTask rmX0_hasTask G [.ref a0, .int (rc_o a1)] I post :=
  rc_body (by decide +kernel) rfl rfl (Nat.le_of_ble_eq_true rfl) rfl (fun p e s m below meth c X hr => gX0_hasTask_0 X hr T0 h)
/-! X0_kindOf -/
abbrev rmX0_kindOf : Room := { frames := 1, cells := 0, slots := 0, locals := 21 }
theorem dyX0_kindOf : yX0_kindOf.cls = RX0 ∧ yX0_kindOf.cls ≠ "java/lang/invoke/MethodHandle" ∧ yX0_kindOf.cls ≠ "java/lang/invoke/VarHandle" ∧ (parseMethodDescriptor yX0_kindOf.desc).map (fun d => d.parameters.length) = some 1 := ⟨rfl, by decide +kernel, by decide +kernel, by decide +kernel⟩
theorem qX0_kindOf_3 : Cond.fieldLink RX0 11 "ReelChanger$Operator" "kinds" "[I" ∈ wsX0_kindOf := List.mem_of_getElem? (i := 3) (by decide +kernel)
theorem nX0_kindOf_X0 : ∀ w ∈ wsX00, w ∈ wsX0_kindOf := fun w h => List.mem_cons_of_mem _ (List.mem_append_right _ (h))
theorem qX0_kindOf_2 : Cond.fieldLink RX0 25 "ReelChanger$Operator" "workKind" "I" ∈ wsX0_kindOf := List.mem_of_getElem? (i := 2) (by decide +kernel)
theorem qX0_kindOf_1 : Cond.constant RX0 41 (-100005) ∈ wsX0_kindOf := List.mem_of_getElem? (i := 1) (by decide +kernel)
def wX0_kindOf (G : rc_G) (a0 : Nat) (a1 : Int) (I : rc_M) (post : Int → rc_M → Prop) : Prop :=
  wX0_hasTask G a0 a1 I (fun r2 I1 => rc_R r2 ∧ ((¬ r2 = 0 → rc_R a1 ∧ ((¬ a1 = 0 → (0 ≤ a1 - 1 ∧ a1 - 1 < 8) ∧ (post (I1 (a0 + 1) (a1 - 1)) I1)) ∧ (a1 = 0 → post (I1 a0 2) I1))) ∧ (r2 = 0 → post (-100005) I1)))
set_option maxRecDepth 100000 in
set_option maxHeartbeats 4000000 in
theorem gX0_kindOf_0 {p : Program} {l : Launch} {e : Env} {s : State} {m : MethodId} {below : List Frame} {meth : Method} {c : Code} {G : rc_G} {a0 : Nat} {a1 : Int} {I : rc_M} {post : Int → rc_M → Prop}  (X : rc_X p s m ([.ref a0, .int (rc_o a1)] : List Value).toArray meth c cX0_kindOf 2 wsX0_kindOf RX0 G (rc_A G)) (hr : meth.sig.returnType = some .int) (T0 : kX0 G a0)  (h : wX0_kindOf G a0 a1 I post) : rc_g p l e rmX0_kindOf s m ([.ref a0, .int (rc_o a1)] : List Value).toArray below meth c 0 0 (MQ below (rc_QI G post) ([.ref a0, .int (rc_o a1)] : List Value).toArray s 0 0 (rc_A G)) 2 G (rc_A G) 0 [(0, .ref a0), (1, .int (rc_o a1))] [] I := by
  unfold wX0_kindOf at h
  refine rc_aload_n X dX0_kindOf_0 rfl 0 rfl ?_
  refine rc_iload_n X dX0_kindOf_1 rfl 1 rfl ?_
  refine rc_cVI (rest := []) X (mX0_hasTask T0 h) gX0_kindOf_X0_hasTask rfl ⟨rfl, rfl⟩ dyX0_hasTask ⟨Nat.le_of_ble_eq_true rfl, Nat.le_of_ble_eq_true rfl⟩ (rc_recv X T0.1 rfl) rfl rfl (Nat.le_of_ble_eq_true rfl) dX0_kindOf_2 ⟨Nat.zero_le _, Nat.zero_le _⟩ (fun r2 I1 h => ?_)
  obtain ⟨c3, h⟩ := h
  refine rc_if_ne X 11 dX0_kindOf_5 (by decide) c3 (fun c4 => ?_) (fun c4 => ?_)
  · have h := h.1 c4
    refine rc_iload_n X dX0_kindOf_11 rfl 1 rfl ?_
    obtain ⟨c5, h⟩ := h
    refine rc_if_ne X 22 dX0_kindOf_12 (by decide) c5 (fun c6 => ?_) (fun c6 => ?_)
    · have h := h.1 c6
      refine rc_aload_n X dX0_kindOf_22 rfl 0 rfl ?_
      refine gfX0_kinds X T0.1 nX0_kindOf_X0 qX0_kindOf_3 dX0_kindOf_23 ?_
      refine rc_iload_n X dX0_kindOf_26 rfl 1 rfl ?_
      refine rc_iconst X dX0_kindOf_27 ?_
      refine rc_isub X dX0_kindOf_28 ?_
      obtain ⟨c7, h⟩ := h
      refine rc_iald X T0.2.1 (by decide) dX0_kindOf_29 c7 ?_
      exact rc_iret X hr dX0_kindOf_30 h
    · have h := h.2 c6
      refine rc_aload_n X dX0_kindOf_15 rfl 0 rfl ?_
      refine gfX0_workKind X T0.1 nX0_kindOf_X0 qX0_kindOf_2 dX0_kindOf_16 ?_
      refine rc_goto X 30 dX0_kindOf_19 (by decide) ?_
      exact rc_iret X hr dX0_kindOf_30 h
  · have h := h.2 c4
    refine rc_ldc (n := (-100005)) X qX0_kindOf_1 (by decide +kernel) dX0_kindOf_8 ?_
    exact rc_iret X hr dX0_kindOf_10 h
theorem mX0_kindOf {l : Launch} {G : rc_G} {a0 : Nat} {a1 : Int} {I : rc_M} {post : Int → rc_M → Prop} (T0 : kX0 G a0) (h : wX0_kindOf G a0 a1 I post) : rc_CI l yX0_kindOf wsX0_kindOf rmX0_kindOf G [.ref a0, .int (rc_o a1)] I post :=
  rc_body (by decide +kernel) rfl rfl (Nat.le_of_ble_eq_true rfl) rfl (fun p e s m below meth c X hr => gX0_kindOf_0 X hr T0 h)
/-! X0_projectorOf -/
abbrev rmX0_projectorOf : Room := { frames := 1, cells := 0, slots := 0, locals := 21 }
theorem dyX0_projectorOf : yX0_projectorOf.cls = RX0 ∧ yX0_projectorOf.cls ≠ "java/lang/invoke/MethodHandle" ∧ yX0_projectorOf.cls ≠ "java/lang/invoke/VarHandle" ∧ (parseMethodDescriptor yX0_projectorOf.desc).map (fun d => d.parameters.length) = some 1 := ⟨rfl, by decide +kernel, by decide +kernel, by decide +kernel⟩
theorem qX0_projectorOf_3 : Cond.fieldLink RX0 15 "ReelChanger$Operator" "projectors" "[I" ∈ wsX0_projectorOf := List.mem_of_getElem? (i := 3) (by decide +kernel)
theorem nX0_projectorOf_X0 : ∀ w ∈ wsX00, w ∈ wsX0_projectorOf := fun w h => List.mem_cons_of_mem _ (List.mem_append_right _ (h))
theorem qX0_projectorOf_2 : Cond.fieldLink RX0 28 "ReelChanger$Operator" "workProjector" "I" ∈ wsX0_projectorOf := List.mem_of_getElem? (i := 2) (by decide +kernel)
theorem qX0_projectorOf_1 : Cond.constant RX0 41 (-100005) ∈ wsX0_projectorOf := List.mem_of_getElem? (i := 1) (by decide +kernel)
def wX0_projectorOf (G : rc_G) (a0 : Nat) (a1 : Int) (I : rc_M) (post : Int → rc_M → Prop) : Prop :=
  wX0_hasTask G a0 a1 I (fun r2 I1 => rc_R r2 ∧ ((¬ r2 = 0 → rc_R a1 ∧ ((¬ a1 = 0 → (0 ≤ a1 - 1 ∧ a1 - 1 < 8) ∧ (post (I1 (a0 + 2) (a1 - 1)) I1)) ∧ (a1 = 0 → post (I1 a0 3) I1))) ∧ (r2 = 0 → post (-100005) I1)))
set_option maxRecDepth 100000 in
set_option maxHeartbeats 4000000 in
theorem gX0_projectorOf_0 {p : Program} {l : Launch} {e : Env} {s : State} {m : MethodId} {below : List Frame} {meth : Method} {c : Code} {G : rc_G} {a0 : Nat} {a1 : Int} {I : rc_M} {post : Int → rc_M → Prop}  (X : rc_X p s m ([.ref a0, .int (rc_o a1)] : List Value).toArray meth c cX0_projectorOf 2 wsX0_projectorOf RX0 G (rc_A G)) (hr : meth.sig.returnType = some .int) (T0 : kX0 G a0)  (h : wX0_projectorOf G a0 a1 I post) : rc_g p l e rmX0_projectorOf s m ([.ref a0, .int (rc_o a1)] : List Value).toArray below meth c 0 0 (MQ below (rc_QI G post) ([.ref a0, .int (rc_o a1)] : List Value).toArray s 0 0 (rc_A G)) 2 G (rc_A G) 0 [(0, .ref a0), (1, .int (rc_o a1))] [] I := by
  unfold wX0_projectorOf at h
  refine rc_aload_n X dX0_projectorOf_0 rfl 0 rfl ?_
  refine rc_iload_n X dX0_projectorOf_1 rfl 1 rfl ?_
  refine rc_cVI (rest := []) X (mX0_hasTask T0 h) gX0_projectorOf_X0_hasTask rfl ⟨rfl, rfl⟩ dyX0_hasTask ⟨Nat.le_of_ble_eq_true rfl, Nat.le_of_ble_eq_true rfl⟩ (rc_recv X T0.1 rfl) rfl rfl (Nat.le_of_ble_eq_true rfl) dX0_projectorOf_2 ⟨Nat.zero_le _, Nat.zero_le _⟩ (fun r2 I1 h => ?_)
  obtain ⟨c3, h⟩ := h
  refine rc_if_ne X 11 dX0_projectorOf_5 (by decide) c3 (fun c4 => ?_) (fun c4 => ?_)
  · have h := h.1 c4
    refine rc_iload_n X dX0_projectorOf_11 rfl 1 rfl ?_
    obtain ⟨c5, h⟩ := h
    refine rc_if_ne X 22 dX0_projectorOf_12 (by decide) c5 (fun c6 => ?_) (fun c6 => ?_)
    · have h := h.1 c6
      refine rc_aload_n X dX0_projectorOf_22 rfl 0 rfl ?_
      refine gfX0_projectors X T0.1 nX0_projectorOf_X0 qX0_projectorOf_3 dX0_projectorOf_23 ?_
      refine rc_iload_n X dX0_projectorOf_26 rfl 1 rfl ?_
      refine rc_iconst X dX0_projectorOf_27 ?_
      refine rc_isub X dX0_projectorOf_28 ?_
      obtain ⟨c7, h⟩ := h
      refine rc_iald X T0.2.2 (by decide) dX0_projectorOf_29 c7 ?_
      exact rc_iret X hr dX0_projectorOf_30 h
    · have h := h.2 c6
      refine rc_aload_n X dX0_projectorOf_15 rfl 0 rfl ?_
      refine gfX0_workProjector X T0.1 nX0_projectorOf_X0 qX0_projectorOf_2 dX0_projectorOf_16 ?_
      refine rc_goto X 30 dX0_projectorOf_19 (by decide) ?_
      exact rc_iret X hr dX0_projectorOf_30 h
  · have h := h.2 c4
    refine rc_ldc (n := (-100005)) X qX0_projectorOf_1 (by decide +kernel) dX0_projectorOf_8 ?_
    exact rc_iret X hr dX0_projectorOf_10 h
theorem mX0_projectorOf {l : Launch} {G : rc_G} {a0 : Nat} {a1 : Int} {I : rc_M} {post : Int → rc_M → Prop} (T0 : kX0 G a0) (h : wX0_projectorOf G a0 a1 I post) : rc_CI l yX0_projectorOf wsX0_projectorOf rmX0_projectorOf G [.ref a0, .int (rc_o a1)] I post :=
  rc_body (by decide +kernel) rfl rfl (Nat.le_of_ble_eq_true rfl) rfl (fun p e s m below meth c X hr => gX0_projectorOf_0 X hr T0 h)
/-! X0_takeUp -/
abbrev rmX0_takeUp : Room := { frames := 1, cells := 0, slots := 0, locals := 60 }
theorem dyX0_takeUp : yX0_takeUp.cls = RX0 ∧ yX0_takeUp.cls ≠ "java/lang/invoke/MethodHandle" ∧ yX0_takeUp.cls ≠ "java/lang/invoke/VarHandle" ∧ (parseMethodDescriptor yX0_takeUp.desc).map (fun d => d.parameters.length) = some 1 := ⟨rfl, by decide +kernel, by decide +kernel, by decide +kernel⟩
theorem qX0_takeUp_1 : Cond.fieldLink RX0 22 "ReelChanger$Operator" "rowCount" "I" ∈ wsX0_takeUp := List.mem_of_getElem? (i := 1) (by decide +kernel)
theorem nX0_takeUp_X0 : ∀ w ∈ wsX00, w ∈ wsX0_takeUp := fun w h => List.mem_cons_of_mem _ (List.mem_append_right _ (h))
theorem qX0_takeUp_2 : Cond.fieldLink RX0 11 "ReelChanger$Operator" "kinds" "[I" ∈ wsX0_takeUp := List.mem_of_getElem? (i := 2) (by decide +kernel)
theorem qX0_takeUp_3 : Cond.fieldLink RX0 25 "ReelChanger$Operator" "workKind" "I" ∈ wsX0_takeUp := List.mem_of_getElem? (i := 3) (by decide +kernel)
theorem qX0_takeUp_4 : Cond.fieldLink RX0 15 "ReelChanger$Operator" "projectors" "[I" ∈ wsX0_takeUp := List.mem_of_getElem? (i := 4) (by decide +kernel)
theorem qX0_takeUp_5 : Cond.fieldLink RX0 28 "ReelChanger$Operator" "workProjector" "I" ∈ wsX0_takeUp := List.mem_of_getElem? (i := 5) (by decide +kernel)
theorem qX0_takeUp_6 : Cond.fieldLink RX0 18 "ReelChanger$Operator" "ticksLeft" "I" ∈ wsX0_takeUp := List.mem_of_getElem? (i := 6) (by decide +kernel)
theorem qX0_takeUp_7 : Cond.methodLink RX0 31 arraycopyName ∈ wsX0_takeUp := List.mem_of_getElem? (i := 7) (by decide +kernel)
theorem qX0_takeUp_8 : Cond.native arraycopyName ∈ wsX0_takeUp := List.mem_of_getElem? (i := 8) (by decide +kernel)
theorem qX0_takeUp_9 : Cond.static arraycopyName ∈ wsX0_takeUp := List.mem_of_getElem? (i := 9) (by decide +kernel)
theorem qX0_takeUp_10 : Cond.initialized "java/lang/System" ∈ wsX0_takeUp := List.mem_of_getElem? (i := 10) (by decide +kernel)
def wX0_takeUp (G : rc_G) (a0 : Nat) (a1 : Int) (I : rc_M) (post : rc_M → Prop) : Prop :=
  rc_R (I a0 1) ∧ (((I a0 1) ≤ 0 → post I) ∧ (¬ (I a0 1) ≤ 0 → ∀ I3, I3 = rc_s I a0 2 (I (a0 + 1) 0) → ∀ I4, I4 = rc_s I3 a0 3 (I3 (a0 + 2) 0) → ∀ I5, I5 = rc_s I4 a0 0 a1 → ∀ I6, I6 = rc_s I5 a0 1 ((I5 a0 1) - 1) → ((0 : Int) ≤ 1 ∧ (0 : Int) ≤ 0 ∧ (0 : Int) ≤ (I6 a0 1) ∧ (1 + (I6 a0 1) : Int) ≤ 8 ∧ (0 + (I6 a0 1) : Int) ≤ 8) ∧ (∀ I8, I8 = rc_cpy I6 (a0 + 1) (a0 + 1) 1 0 (I6 a0 1) → ((0 : Int) ≤ 1 ∧ (0 : Int) ≤ 0 ∧ (0 : Int) ≤ (I8 a0 1) ∧ (1 + (I8 a0 1) : Int) ≤ 8 ∧ (0 + (I8 a0 1) : Int) ≤ 8) ∧ (∀ I10, I10 = rc_cpy I8 (a0 + 2) (a0 + 2) 1 0 (I8 a0 1) → post I10))))
set_option maxRecDepth 100000 in
set_option maxHeartbeats 4000000 in
theorem gX0_takeUp_0 {p : Program} {l : Launch} {e : Env} {s : State} {m : MethodId} {below : List Frame} {meth : Method} {c : Code} {G : rc_G} {a0 : Nat} {a1 : Int} {I : rc_M} {post : rc_M → Prop}  (X : rc_X p s m ([.ref a0, .int (rc_o a1)] : List Value).toArray meth c cX0_takeUp 2 wsX0_takeUp RX0 G (rc_A G)) (hr : meth.sig.returnType = none) (T0 : kX0 G a0)  (h : wX0_takeUp G a0 a1 I post) : rc_g p l e rmX0_takeUp s m ([.ref a0, .int (rc_o a1)] : List Value).toArray below meth c 0 0 (MQ below (rc_QV G post) ([.ref a0, .int (rc_o a1)] : List Value).toArray s 0 0 (rc_A G)) 2 G (rc_A G) 0 [(0, .ref a0), (1, .int (rc_o a1))] [] I := by
  unfold wX0_takeUp at h
  refine rc_aload_n X dX0_takeUp_0 rfl 0 rfl ?_
  refine gfX0_rowCount X T0.1 nX0_takeUp_X0 qX0_takeUp_1 dX0_takeUp_1 ?_
  obtain ⟨c1, h⟩ := h
  refine rc_if_le X 76 dX0_takeUp_4 (by decide) c1 (fun c2 => ?_) (fun c2 => ?_)
  · have h := h.1 c2
    exact rc_vret X hr dX0_takeUp_76 h
  · have h := h.2 c2
    refine rc_aload_n X dX0_takeUp_7 rfl 0 rfl ?_
    refine rc_aload_n X dX0_takeUp_8 rfl 0 rfl ?_
    refine gfX0_kinds X T0.1 nX0_takeUp_X0 qX0_takeUp_2 dX0_takeUp_9 ?_
    refine rc_iconst X dX0_takeUp_12 ?_
    refine rc_iald X T0.2.1 (by decide) dX0_takeUp_13 ⟨by decide, by decide⟩ ?_
    refine pfX0_workKind X T0.1 nX0_takeUp_X0 qX0_takeUp_3 dX0_takeUp_14 (fun I3 e3 => ?_)
    have h := h I3 e3
    refine rc_aload_n X dX0_takeUp_17 rfl 0 rfl ?_
    refine rc_aload_n X dX0_takeUp_18 rfl 0 rfl ?_
    refine gfX0_projectors X T0.1 nX0_takeUp_X0 qX0_takeUp_4 dX0_takeUp_19 ?_
    refine rc_iconst X dX0_takeUp_22 ?_
    refine rc_iald X T0.2.2 (by decide) dX0_takeUp_23 ⟨by decide, by decide⟩ ?_
    refine pfX0_workProjector X T0.1 nX0_takeUp_X0 qX0_takeUp_5 dX0_takeUp_24 (fun I4 e4 => ?_)
    have h := h I4 e4
    refine rc_aload_n X dX0_takeUp_27 rfl 0 rfl ?_
    refine rc_iload_n X dX0_takeUp_28 rfl 1 rfl ?_
    refine pfX0_ticksLeft X T0.1 nX0_takeUp_X0 qX0_takeUp_6 dX0_takeUp_29 (fun I5 e5 => ?_)
    have h := h I5 e5
    refine rc_aload_n X dX0_takeUp_32 rfl 0 rfl ?_
    refine rc_dup X dX0_takeUp_33 rfl ?_
    refine gfX0_rowCount X T0.1 nX0_takeUp_X0 qX0_takeUp_1 dX0_takeUp_34 ?_
    refine rc_iconst X dX0_takeUp_37 ?_
    refine rc_isub X dX0_takeUp_38 ?_
    refine pfX0_rowCount X T0.1 nX0_takeUp_X0 qX0_takeUp_1 dX0_takeUp_39 (fun I6 e6 => ?_)
    have h := h I6 e6
    refine rc_aload_n X dX0_takeUp_42 rfl 0 rfl ?_
    refine gfX0_kinds X T0.1 nX0_takeUp_X0 qX0_takeUp_2 dX0_takeUp_43 ?_
    refine rc_iconst X dX0_takeUp_46 ?_
    refine rc_aload_n X dX0_takeUp_47 rfl 0 rfl ?_
    refine gfX0_kinds X T0.1 nX0_takeUp_X0 qX0_takeUp_2 dX0_takeUp_48 ?_
    refine rc_iconst X dX0_takeUp_51 ?_
    refine rc_aload_n X dX0_takeUp_52 rfl 0 rfl ?_
    refine gfX0_rowCount X T0.1 nX0_takeUp_X0 qX0_takeUp_1 dX0_takeUp_53 ?_
    obtain ⟨c7, h⟩ := h
    refine rc_acopy X T0.2.1 T0.2.1 (by decide) (by decide) qX0_takeUp_7 qX0_takeUp_8 qX0_takeUp_9 qX0_takeUp_10 (Nat.le_of_ble_eq_true rfl) (by decide +kernel) dX0_takeUp_56 c7.1 c7.2.1 c7.2.2.1 c7.2.2.2.1 c7.2.2.2.2 (fun I8 e8 => ?_)
    have h := h I8 e8
    refine rc_aload_n X dX0_takeUp_59 rfl 0 rfl ?_
    refine gfX0_projectors X T0.1 nX0_takeUp_X0 qX0_takeUp_4 dX0_takeUp_60 ?_
    refine rc_iconst X dX0_takeUp_63 ?_
    refine rc_aload_n X dX0_takeUp_64 rfl 0 rfl ?_
    refine gfX0_projectors X T0.1 nX0_takeUp_X0 qX0_takeUp_4 dX0_takeUp_65 ?_
    refine rc_iconst X dX0_takeUp_68 ?_
    refine rc_aload_n X dX0_takeUp_69 rfl 0 rfl ?_
    refine gfX0_rowCount X T0.1 nX0_takeUp_X0 qX0_takeUp_1 dX0_takeUp_70 ?_
    obtain ⟨c9, h⟩ := h
    refine rc_acopy X T0.2.2 T0.2.2 (by decide) (by decide) qX0_takeUp_7 qX0_takeUp_8 qX0_takeUp_9 qX0_takeUp_10 (Nat.le_of_ble_eq_true rfl) (by decide +kernel) dX0_takeUp_73 c9.1 c9.2.1 c9.2.2.1 c9.2.2.2.1 c9.2.2.2.2 (fun I10 e10 => ?_)
    have h := h I10 e10
    exact rc_vret X hr dX0_takeUp_76 h
theorem mX0_takeUp {l : Launch} {G : rc_G} {a0 : Nat} {a1 : Int} {I : rc_M} {post : rc_M → Prop} (T0 : kX0 G a0) (h : wX0_takeUp G a0 a1 I post) : rc_CV l yX0_takeUp wsX0_takeUp rmX0_takeUp G [.ref a0, .int (rc_o a1)] I post :=
  rc_body (by decide +kernel) rfl rfl (Nat.le_of_ble_eq_true rfl) rfl (fun p e s m below meth c X hr => gX0_takeUp_0 X hr T0 h)
/-! X0_addFirst -/
abbrev rmX0_addFirst : Room := { frames := 1, cells := 0, slots := 0, locals := 60 }
theorem dyX0_addFirst : yX0_addFirst.cls = RX0 ∧ yX0_addFirst.cls ≠ "java/lang/invoke/MethodHandle" ∧ yX0_addFirst.cls ≠ "java/lang/invoke/VarHandle" ∧ (parseMethodDescriptor yX0_addFirst.desc).map (fun d => d.parameters.length) = some 2 := ⟨rfl, by decide +kernel, by decide +kernel, by decide +kernel⟩
theorem qX0_addFirst_1 : Cond.fieldLink RX0 22 "ReelChanger$Operator" "rowCount" "I" ∈ wsX0_addFirst := List.mem_of_getElem? (i := 1) (by decide +kernel)
theorem nX0_addFirst_X0 : ∀ w ∈ wsX00, w ∈ wsX0_addFirst := fun w h => List.mem_cons_of_mem _ (List.mem_append_right _ (h))
theorem qX0_addFirst_2 : Cond.fieldLink RX0 11 "ReelChanger$Operator" "kinds" "[I" ∈ wsX0_addFirst := List.mem_of_getElem? (i := 2) (by decide +kernel)
theorem qX0_addFirst_3 : Cond.methodLink RX0 31 arraycopyName ∈ wsX0_addFirst := List.mem_of_getElem? (i := 3) (by decide +kernel)
theorem qX0_addFirst_4 : Cond.native arraycopyName ∈ wsX0_addFirst := List.mem_of_getElem? (i := 4) (by decide +kernel)
theorem qX0_addFirst_5 : Cond.static arraycopyName ∈ wsX0_addFirst := List.mem_of_getElem? (i := 5) (by decide +kernel)
theorem qX0_addFirst_6 : Cond.initialized "java/lang/System" ∈ wsX0_addFirst := List.mem_of_getElem? (i := 6) (by decide +kernel)
theorem qX0_addFirst_7 : Cond.fieldLink RX0 15 "ReelChanger$Operator" "projectors" "[I" ∈ wsX0_addFirst := List.mem_of_getElem? (i := 7) (by decide +kernel)
def wX0_addFirst (G : rc_G) (a0 : Nat) (a1 : Int) (a2 : Int) (I : rc_M) (post : rc_M → Prop) : Prop :=
  rc_R (I a0 1) ∧ ((8 ≤ (I a0 1) → post I) ∧ (¬ 8 ≤ (I a0 1) → ((0 : Int) ≤ 0 ∧ (0 : Int) ≤ 1 ∧ (0 : Int) ≤ (I a0 1) ∧ (0 + (I a0 1) : Int) ≤ 8 ∧ (1 + (I a0 1) : Int) ≤ 8) ∧ (∀ I4, I4 = rc_cpy I (a0 + 1) (a0 + 1) 0 1 (I a0 1) → ((0 : Int) ≤ 0 ∧ (0 : Int) ≤ 1 ∧ (0 : Int) ≤ (I4 a0 1) ∧ (0 + (I4 a0 1) : Int) ≤ 8 ∧ (1 + (I4 a0 1) : Int) ≤ 8) ∧ (∀ I6, I6 = rc_cpy I4 (a0 + 2) (a0 + 2) 0 1 (I4 a0 1) → ∀ I7, I7 = rc_s I6 (a0 + 1) 0 a1 → ∀ I8, I8 = rc_s I7 (a0 + 2) 0 a2 → ∀ I9, I9 = rc_s I8 a0 1 ((I8 a0 1) + 1) → post I9))))
set_option maxRecDepth 100000 in
set_option maxHeartbeats 4000000 in
theorem gX0_addFirst_0 {p : Program} {l : Launch} {e : Env} {s : State} {m : MethodId} {below : List Frame} {meth : Method} {c : Code} {G : rc_G} {a0 : Nat} {a1 : Int} {a2 : Int} {I : rc_M} {post : rc_M → Prop}  (X : rc_X p s m ([.ref a0, .int (rc_o a1), .int (rc_o a2)] : List Value).toArray meth c cX0_addFirst 3 wsX0_addFirst RX0 G (rc_A G)) (hr : meth.sig.returnType = none) (T0 : kX0 G a0)  (h : wX0_addFirst G a0 a1 a2 I post) : rc_g p l e rmX0_addFirst s m ([.ref a0, .int (rc_o a1), .int (rc_o a2)] : List Value).toArray below meth c 0 0 (MQ below (rc_QV G post) ([.ref a0, .int (rc_o a1), .int (rc_o a2)] : List Value).toArray s 0 0 (rc_A G)) 3 G (rc_A G) 0 [(0, .ref a0), (1, .int (rc_o a1)), (2, .int (rc_o a2))] [] I := by
  unfold wX0_addFirst at h
  refine rc_aload_n X dX0_addFirst_0 rfl 0 rfl ?_
  refine gfX0_rowCount X T0.1 nX0_addFirst_X0 qX0_addFirst_1 dX0_addFirst_1 ?_
  refine rc_bipush X dX0_addFirst_4 (rc_b8 _ ⟨by decide, by decide⟩) ?_
  obtain ⟨c1, h⟩ := h
  refine rc_ic_ge X 67 dX0_addFirst_6 (by decide) c1 ⟨by decide, by decide⟩ (fun c2 => ?_) (fun c2 => ?_)
  · have h := h.1 c2
    exact rc_vret X hr dX0_addFirst_67 h
  · have h := h.2 c2
    refine rc_aload_n X dX0_addFirst_9 rfl 0 rfl ?_
    refine gfX0_kinds X T0.1 nX0_addFirst_X0 qX0_addFirst_2 dX0_addFirst_10 ?_
    refine rc_iconst X dX0_addFirst_13 ?_
    refine rc_aload_n X dX0_addFirst_14 rfl 0 rfl ?_
    refine gfX0_kinds X T0.1 nX0_addFirst_X0 qX0_addFirst_2 dX0_addFirst_15 ?_
    refine rc_iconst X dX0_addFirst_18 ?_
    refine rc_aload_n X dX0_addFirst_19 rfl 0 rfl ?_
    refine gfX0_rowCount X T0.1 nX0_addFirst_X0 qX0_addFirst_1 dX0_addFirst_20 ?_
    obtain ⟨c3, h⟩ := h
    refine rc_acopy X T0.2.1 T0.2.1 (by decide) (by decide) qX0_addFirst_3 qX0_addFirst_4 qX0_addFirst_5 qX0_addFirst_6 (Nat.le_of_ble_eq_true rfl) (by decide +kernel) dX0_addFirst_23 c3.1 c3.2.1 c3.2.2.1 c3.2.2.2.1 c3.2.2.2.2 (fun I4 e4 => ?_)
    have h := h I4 e4
    refine rc_aload_n X dX0_addFirst_26 rfl 0 rfl ?_
    refine gfX0_projectors X T0.1 nX0_addFirst_X0 qX0_addFirst_7 dX0_addFirst_27 ?_
    refine rc_iconst X dX0_addFirst_30 ?_
    refine rc_aload_n X dX0_addFirst_31 rfl 0 rfl ?_
    refine gfX0_projectors X T0.1 nX0_addFirst_X0 qX0_addFirst_7 dX0_addFirst_32 ?_
    refine rc_iconst X dX0_addFirst_35 ?_
    refine rc_aload_n X dX0_addFirst_36 rfl 0 rfl ?_
    refine gfX0_rowCount X T0.1 nX0_addFirst_X0 qX0_addFirst_1 dX0_addFirst_37 ?_
    obtain ⟨c5, h⟩ := h
    refine rc_acopy X T0.2.2 T0.2.2 (by decide) (by decide) qX0_addFirst_3 qX0_addFirst_4 qX0_addFirst_5 qX0_addFirst_6 (Nat.le_of_ble_eq_true rfl) (by decide +kernel) dX0_addFirst_40 c5.1 c5.2.1 c5.2.2.1 c5.2.2.2.1 c5.2.2.2.2 (fun I6 e6 => ?_)
    have h := h I6 e6
    refine rc_aload_n X dX0_addFirst_43 rfl 0 rfl ?_
    refine gfX0_kinds X T0.1 nX0_addFirst_X0 qX0_addFirst_2 dX0_addFirst_44 ?_
    refine rc_iconst X dX0_addFirst_47 ?_
    refine rc_iload_n X dX0_addFirst_48 rfl 1 rfl ?_
    refine rc_iast X T0.2.1 (by decide) dX0_addFirst_49 ⟨by decide, by decide⟩ (fun I7 e7 => ?_)
    have h := h I7 e7
    refine rc_aload_n X dX0_addFirst_50 rfl 0 rfl ?_
    refine gfX0_projectors X T0.1 nX0_addFirst_X0 qX0_addFirst_7 dX0_addFirst_51 ?_
    refine rc_iconst X dX0_addFirst_54 ?_
    refine rc_iload_n X dX0_addFirst_55 rfl 2 rfl ?_
    refine rc_iast X T0.2.2 (by decide) dX0_addFirst_56 ⟨by decide, by decide⟩ (fun I8 e8 => ?_)
    have h := h I8 e8
    refine rc_aload_n X dX0_addFirst_57 rfl 0 rfl ?_
    refine rc_dup X dX0_addFirst_58 rfl ?_
    refine gfX0_rowCount X T0.1 nX0_addFirst_X0 qX0_addFirst_1 dX0_addFirst_59 ?_
    refine rc_iconst X dX0_addFirst_62 ?_
    refine rc_iadd X dX0_addFirst_63 ?_
    refine pfX0_rowCount X T0.1 nX0_addFirst_X0 qX0_addFirst_1 dX0_addFirst_64 (fun I9 e9 => ?_)
    have h := h I9 e9
    exact rc_vret X hr dX0_addFirst_67 h
theorem mX0_addFirst {l : Launch} {G : rc_G} {a0 : Nat} {a1 : Int} {a2 : Int} {I : rc_M} {post : rc_M → Prop} (T0 : kX0 G a0) (h : wX0_addFirst G a0 a1 a2 I post) : rc_CV l yX0_addFirst wsX0_addFirst rmX0_addFirst G [.ref a0, .int (rc_o a1), .int (rc_o a2)] I post :=
  rc_body (by decide +kernel) rfl rfl (Nat.le_of_ble_eq_true rfl) rfl (fun p e s m below meth c X hr => gX0_addFirst_0 X hr T0 h)
/-! X0_addLast -/
abbrev rmX0_addLast : Room := { frames := 0, cells := 0, slots := 0, locals := 0 }
theorem dyX0_addLast : yX0_addLast.cls = RX0 ∧ yX0_addLast.cls ≠ "java/lang/invoke/MethodHandle" ∧ yX0_addLast.cls ≠ "java/lang/invoke/VarHandle" ∧ (parseMethodDescriptor yX0_addLast.desc).map (fun d => d.parameters.length) = some 2 := ⟨rfl, by decide +kernel, by decide +kernel, by decide +kernel⟩
theorem qX0_addLast_1 : Cond.fieldLink RX0 22 "ReelChanger$Operator" "rowCount" "I" ∈ wsX0_addLast := List.mem_of_getElem? (i := 1) (by decide +kernel)
theorem nX0_addLast_X0 : ∀ w ∈ wsX00, w ∈ wsX0_addLast := fun w h => List.mem_cons_of_mem _ (List.mem_append_right _ (h))
theorem qX0_addLast_2 : Cond.fieldLink RX0 11 "ReelChanger$Operator" "kinds" "[I" ∈ wsX0_addLast := List.mem_of_getElem? (i := 2) (by decide +kernel)
theorem qX0_addLast_3 : Cond.fieldLink RX0 15 "ReelChanger$Operator" "projectors" "[I" ∈ wsX0_addLast := List.mem_of_getElem? (i := 3) (by decide +kernel)
def wX0_addLast (G : rc_G) (a0 : Nat) (a1 : Int) (a2 : Int) (I : rc_M) (post : rc_M → Prop) : Prop :=
  rc_R (I a0 1) ∧ ((8 ≤ (I a0 1) → post I) ∧ (¬ 8 ≤ (I a0 1) → (0 ≤ I a0 1 ∧ I a0 1 < 8) ∧ (∀ I4, I4 = rc_s I (a0 + 1) (I a0 1) a1 → (0 ≤ I4 a0 1 ∧ I4 a0 1 < 8) ∧ (∀ I6, I6 = rc_s I4 (a0 + 2) (I4 a0 1) a2 → ∀ I7, I7 = rc_s I6 a0 1 ((I6 a0 1) + 1) → post I7))))
set_option maxRecDepth 100000 in
set_option maxHeartbeats 4000000 in
theorem gX0_addLast_0 {p : Program} {l : Launch} {e : Env} {s : State} {m : MethodId} {below : List Frame} {meth : Method} {c : Code} {G : rc_G} {a0 : Nat} {a1 : Int} {a2 : Int} {I : rc_M} {post : rc_M → Prop}  (X : rc_X p s m ([.ref a0, .int (rc_o a1), .int (rc_o a2)] : List Value).toArray meth c cX0_addLast 3 wsX0_addLast RX0 G (rc_A G)) (hr : meth.sig.returnType = none) (T0 : kX0 G a0)  (h : wX0_addLast G a0 a1 a2 I post) : rc_g p l e rmX0_addLast s m ([.ref a0, .int (rc_o a1), .int (rc_o a2)] : List Value).toArray below meth c 0 0 (MQ below (rc_QV G post) ([.ref a0, .int (rc_o a1), .int (rc_o a2)] : List Value).toArray s 0 0 (rc_A G)) 3 G (rc_A G) 0 [(0, .ref a0), (1, .int (rc_o a1)), (2, .int (rc_o a2))] [] I := by
  unfold wX0_addLast at h
  refine rc_aload_n X dX0_addLast_0 rfl 0 rfl ?_
  refine gfX0_rowCount X T0.1 nX0_addLast_X0 qX0_addLast_1 dX0_addLast_1 ?_
  refine rc_bipush X dX0_addLast_4 (rc_b8 _ ⟨by decide, by decide⟩) ?_
  obtain ⟨c1, h⟩ := h
  refine rc_ic_ge X 39 dX0_addLast_6 (by decide) c1 ⟨by decide, by decide⟩ (fun c2 => ?_) (fun c2 => ?_)
  · have h := h.1 c2
    exact rc_vret X hr dX0_addLast_39 h
  · have h := h.2 c2
    refine rc_aload_n X dX0_addLast_9 rfl 0 rfl ?_
    refine gfX0_kinds X T0.1 nX0_addLast_X0 qX0_addLast_2 dX0_addLast_10 ?_
    refine rc_aload_n X dX0_addLast_13 rfl 0 rfl ?_
    refine gfX0_rowCount X T0.1 nX0_addLast_X0 qX0_addLast_1 dX0_addLast_14 ?_
    refine rc_iload_n X dX0_addLast_17 rfl 1 rfl ?_
    obtain ⟨c3, h⟩ := h
    refine rc_iast X T0.2.1 (by decide) dX0_addLast_18 c3 (fun I4 e4 => ?_)
    have h := h I4 e4
    refine rc_aload_n X dX0_addLast_19 rfl 0 rfl ?_
    refine gfX0_projectors X T0.1 nX0_addLast_X0 qX0_addLast_3 dX0_addLast_20 ?_
    refine rc_aload_n X dX0_addLast_23 rfl 0 rfl ?_
    refine gfX0_rowCount X T0.1 nX0_addLast_X0 qX0_addLast_1 dX0_addLast_24 ?_
    refine rc_iload_n X dX0_addLast_27 rfl 2 rfl ?_
    obtain ⟨c5, h⟩ := h
    refine rc_iast X T0.2.2 (by decide) dX0_addLast_28 c5 (fun I6 e6 => ?_)
    have h := h I6 e6
    refine rc_aload_n X dX0_addLast_29 rfl 0 rfl ?_
    refine rc_dup X dX0_addLast_30 rfl ?_
    refine gfX0_rowCount X T0.1 nX0_addLast_X0 qX0_addLast_1 dX0_addLast_31 ?_
    refine rc_iconst X dX0_addLast_34 ?_
    refine rc_iadd X dX0_addLast_35 ?_
    refine pfX0_rowCount X T0.1 nX0_addLast_X0 qX0_addLast_1 dX0_addLast_36 (fun I7 e7 => ?_)
    have h := h I7 e7
    exact rc_vret X hr dX0_addLast_39 h
theorem mX0_addLast {l : Launch} {G : rc_G} {a0 : Nat} {a1 : Int} {a2 : Int} {I : rc_M} {post : rc_M → Prop} (T0 : kX0 G a0) (h : wX0_addLast G a0 a1 a2 I post) : rc_CV l yX0_addLast wsX0_addLast rmX0_addLast G [.ref a0, .int (rc_o a1), .int (rc_o a2)] I post :=
  rc_body (by decide +kernel) rfl rfl (Nat.le_of_ble_eq_true rfl) rfl (fun p e s m below meth c X hr => gX0_addLast_0 X hr T0 h)
/-! X0_threadTasks -/
abbrev rmX0_threadTasks : Room := { frames := 2, cells := 0, slots := 0, locals := 42 }
theorem dyX0_threadTasks : yX0_threadTasks.cls = RX0 ∧ yX0_threadTasks.cls ≠ "java/lang/invoke/MethodHandle" ∧ yX0_threadTasks.cls ≠ "java/lang/invoke/VarHandle" ∧ (parseMethodDescriptor yX0_threadTasks.desc).map (fun d => d.parameters.length) = some 0 := ⟨rfl, by decide +kernel, by decide +kernel, by decide +kernel⟩
def wX0_threadTasks_22 (G : rc_G) (post : Int → rc_M → Prop) (a0 : Nat) (k4 : Int → Int → rc_M → Prop) (x1 : Int) (x2 : Int) (I : rc_M) : Prop :=
  k4 x1 (x2 + 1) I
set_option maxRecDepth 100000 in
set_option maxHeartbeats 4000000 in
theorem gX0_threadTasks_22 {p : Program} {l : Launch} {e : Env} {s : State} {m : MethodId} {below : List Frame} {meth : Method} {c : Code} {G : rc_G} {a0 : Nat} {I : rc_M} {post : Int → rc_M → Prop} {k4 : Int → Int → rc_M → Prop} {x1 : Int} {x2 : Int} (X : rc_X p s m ([.ref a0] : List Value).toArray meth c cX0_threadTasks 3 wsX0_threadTasks RX0 G (rc_A G)) (hr : meth.sig.returnType = some .int) (T0 : kX0 G a0) (hk4 : ∀ (x1 : Int) (x2 : Int) (J : rc_M), k4 x1 x2 J → rc_g p l e rmX0_threadTasks s m ([.ref a0] : List Value).toArray below meth c 0 0 (MQ below (rc_QI G post) ([.ref a0] : List Value).toArray s 0 0 (rc_A G)) 3 G (rc_A G) 4 [(0, .ref a0), (1, .int (rc_o x1)), (2, .int (rc_o x2))] [] J)  (h : wX0_threadTasks_22 G post a0 k4 x1 x2 I) : rc_g p l e rmX0_threadTasks s m ([.ref a0] : List Value).toArray below meth c 0 0 (MQ below (rc_QI G post) ([.ref a0] : List Value).toArray s 0 0 (rc_A G)) 3 G (rc_A G) 22 [(0, .ref a0), (1, .int (rc_o x1)), (2, .int (rc_o x2))] [] I := by
  unfold wX0_threadTasks_22 at h
  refine rc_iinc X [(2, .int (rc_o (x2 + 1))), (0, .ref a0), (1, .int (rc_o x1))] dX0_threadTasks_22 2 rfl (by decide) rfl ?_
  refine rc_goto X 4 dX0_threadTasks_25 (by decide) ?_
  refine rc_subl [(0, .ref a0), (1, .int (rc_o x1)), (2, .int (rc_o (x2 + 1)))] [1, 2, 0] rfl ?_
  exact hk4 _ _ _ h
def wX0_threadTasks_4 (G : rc_G) (post : Int → rc_M → Prop) (a0 : Nat) (k4 : Int → Int → rc_M → Prop) (x1 : Int) (x2 : Int) (I : rc_M) : Prop :=
  rc_R x2 ∧ ((8 < x2 → post x1 I) ∧ (¬ 8 < x2 → wX0_kindOf G a0 x2 I (fun r4 I3 => rc_R r4 ∧ ((¬ r4 = 1 → wX0_threadTasks_22 G post a0 k4 x1 x2 I3) ∧ (r4 = 1 → wX0_threadTasks_22 G post a0 k4 (x1 + 1) x2 I3)))))
set_option maxRecDepth 100000 in
set_option maxHeartbeats 4000000 in
theorem gX0_threadTasks_4 {p : Program} {l : Launch} {e : Env} {s : State} {m : MethodId} {below : List Frame} {meth : Method} {c : Code} {G : rc_G} {a0 : Nat} {I : rc_M} {post : Int → rc_M → Prop} {k4 : Int → Int → rc_M → Prop} {x1 : Int} {x2 : Int} (X : rc_X p s m ([.ref a0] : List Value).toArray meth c cX0_threadTasks 3 wsX0_threadTasks RX0 G (rc_A G)) (hr : meth.sig.returnType = some .int) (T0 : kX0 G a0) (hk4 : ∀ (x1 : Int) (x2 : Int) (J : rc_M), k4 x1 x2 J → rc_g p l e rmX0_threadTasks s m ([.ref a0] : List Value).toArray below meth c 0 0 (MQ below (rc_QI G post) ([.ref a0] : List Value).toArray s 0 0 (rc_A G)) 3 G (rc_A G) 4 [(0, .ref a0), (1, .int (rc_o x1)), (2, .int (rc_o x2))] [] J)  (h : wX0_threadTasks_4 G post a0 k4 x1 x2 I) : rc_g p l e rmX0_threadTasks s m ([.ref a0] : List Value).toArray below meth c 0 0 (MQ below (rc_QI G post) ([.ref a0] : List Value).toArray s 0 0 (rc_A G)) 3 G (rc_A G) 4 [(0, .ref a0), (1, .int (rc_o x1)), (2, .int (rc_o x2))] [] I := by
  unfold wX0_threadTasks_4 at h
  refine rc_iload_n X dX0_threadTasks_4 rfl 2 rfl ?_
  refine rc_bipush X dX0_threadTasks_5 (rc_b8 _ ⟨by decide, by decide⟩) ?_
  obtain ⟨c1, h⟩ := h
  refine rc_ic_gt X 28 dX0_threadTasks_7 (by decide) c1 ⟨by decide, by decide⟩ (fun c2 => ?_) (fun c2 => ?_)
  · have h := h.1 c2
    refine rc_iload_n X dX0_threadTasks_28 rfl 1 rfl ?_
    exact rc_iret X hr dX0_threadTasks_29 h
  · have h := h.2 c2
    refine rc_aload_n X dX0_threadTasks_10 rfl 0 rfl ?_
    refine rc_iload_n X dX0_threadTasks_11 rfl 2 rfl ?_
    refine rc_cVI (rest := []) X (mX0_kindOf T0 h) gX0_threadTasks_X0_kindOf rfl ⟨rfl, rfl⟩ dyX0_kindOf ⟨Nat.le_of_ble_eq_true rfl, Nat.le_of_ble_eq_true rfl⟩ (rc_recv X T0.1 rfl) rfl rfl (Nat.le_of_ble_eq_true rfl) dX0_threadTasks_12 ⟨Nat.zero_le _, Nat.zero_le _⟩ (fun r4 I3 h => ?_)
    refine rc_iconst X dX0_threadTasks_15 ?_
    obtain ⟨c5, h⟩ := h
    refine rc_ic_ne X 22 dX0_threadTasks_16 (by decide) c5 ⟨by decide, by decide⟩ (fun c6 => ?_) (fun c6 => ?_)
    · have h := h.1 c6
      refine rc_subl [(0, .ref a0), (1, .int (rc_o x1)), (2, .int (rc_o x2))] [0, 1, 2] rfl ?_
      exact gX0_threadTasks_22 X hr T0 hk4  h
    · have h := h.2 c6
      refine rc_iinc X [(1, .int (rc_o (x1 + 1))), (0, .ref a0), (2, .int (rc_o x2))] dX0_threadTasks_19 1 rfl (by decide) rfl ?_
      refine rc_subl [(0, .ref a0), (1, .int (rc_o (x1 + 1))), (2, .int (rc_o x2))] [1, 0, 2] rfl ?_
      exact gX0_threadTasks_22 X hr T0 hk4  h
noncomputable def rX0_threadTasks_4 (G : rc_G) (post : Int → rc_M → Prop) (a0 : Nat)  (n : Nat) : Int → Int → rc_M → Prop :=
  Nat.rec (motive := fun _ => Int → Int → rc_M → Prop) (fun _ _ _ => False) (fun _ ih => wX0_threadTasks_4 G post a0  ih) n
set_option maxRecDepth 100000 in
set_option maxHeartbeats 4000000 in
theorem sX0_threadTasks_4 {p : Program} {l : Launch} {e : Env} {s : State} {m : MethodId} {below : List Frame} {meth : Method} {c : Code} {G : rc_G} {a0 : Nat} {I : rc_M} {post : Int → rc_M → Prop}  {n : Nat} {x1 : Int} {x2 : Int} (X : rc_X p s m ([.ref a0] : List Value).toArray meth c cX0_threadTasks 3 wsX0_threadTasks RX0 G (rc_A G)) (hr : meth.sig.returnType = some .int) (T0 : kX0 G a0)  (h : rX0_threadTasks_4 G post a0  n x1 x2 I) : rc_g p l e rmX0_threadTasks s m ([.ref a0] : List Value).toArray below meth c 0 0 (MQ below (rc_QI G post) ([.ref a0] : List Value).toArray s 0 0 (rc_A G)) 3 G (rc_A G) 4 [(0, .ref a0), (1, .int (rc_o x1)), (2, .int (rc_o x2))] [] I := by
  induction n generalizing x1 x2 I with
  | zero => exact h.elim
  | succ n ih => exact gX0_threadTasks_4 (k4 := rX0_threadTasks_4 G post a0  n) X hr T0  (fun x1 x2 J h2 => ih h2) h
def wX0_threadTasks (G : rc_G) (a0 : Nat) (I : rc_M) (post : Int → rc_M → Prop) : Prop :=
  ∃ n, rX0_threadTasks_4 G post a0  n 0 0 I
set_option maxRecDepth 100000 in
set_option maxHeartbeats 4000000 in
theorem gX0_threadTasks_0 {p : Program} {l : Launch} {e : Env} {s : State} {m : MethodId} {below : List Frame} {meth : Method} {c : Code} {G : rc_G} {a0 : Nat} {I : rc_M} {post : Int → rc_M → Prop}  (X : rc_X p s m ([.ref a0] : List Value).toArray meth c cX0_threadTasks 3 wsX0_threadTasks RX0 G (rc_A G)) (hr : meth.sig.returnType = some .int) (T0 : kX0 G a0)  (h : wX0_threadTasks G a0 I post) : rc_g p l e rmX0_threadTasks s m ([.ref a0] : List Value).toArray below meth c 0 0 (MQ below (rc_QI G post) ([.ref a0] : List Value).toArray s 0 0 (rc_A G)) 3 G (rc_A G) 0 [(0, .ref a0)] [] I := by
  unfold wX0_threadTasks at h
  refine rc_iconst X dX0_threadTasks_0 ?_
  refine rc_istore_n X [(1, .int (rc_o 0)), (0, .ref a0)] dX0_threadTasks_1 rfl (by decide) rfl ?_
  refine rc_iconst X dX0_threadTasks_2 ?_
  refine rc_istore_n X [(2, .int (rc_o 0)), (1, .int (rc_o 0)), (0, .ref a0)] dX0_threadTasks_3 rfl (by decide) rfl ?_
  refine rc_subl [(0, .ref a0), (1, .int (rc_o 0)), (2, .int (rc_o 0))] [2, 1, 0] rfl ?_
  obtain ⟨n, h⟩ := h
  exact sX0_threadTasks_4 X hr T0  h
theorem mX0_threadTasks {l : Launch} {G : rc_G} {a0 : Nat} {I : rc_M} {post : Int → rc_M → Prop} (T0 : kX0 G a0) (h : wX0_threadTasks G a0 I post) : rc_CI l yX0_threadTasks wsX0_threadTasks rmX0_threadTasks G [.ref a0] I post :=
  rc_body (by decide +kernel) rfl rfl (Nat.le_of_ble_eq_true rfl) rfl (fun p e s m below meth c X hr => gX0_threadTasks_0 X hr T0 h)
/-! X0_copyFrom -/
abbrev rmX0_copyFrom : Room := { frames := 1, cells := 0, slots := 0, locals := 60 }
theorem dyX0_copyFrom : yX0_copyFrom.cls = RX0 ∧ yX0_copyFrom.cls ≠ "java/lang/invoke/MethodHandle" ∧ yX0_copyFrom.cls ≠ "java/lang/invoke/VarHandle" ∧ (parseMethodDescriptor yX0_copyFrom.desc).map (fun d => d.parameters.length) = some 1 := ⟨rfl, by decide +kernel, by decide +kernel, by decide +kernel⟩
theorem qX0_copyFrom_1 : Cond.fieldLink RX0 18 "ReelChanger$Operator" "ticksLeft" "I" ∈ wsX0_copyFrom := List.mem_of_getElem? (i := 1) (by decide +kernel)
theorem nX0_copyFrom_X0 : ∀ w ∈ wsX00, w ∈ wsX0_copyFrom := fun w h => List.mem_cons_of_mem _ (List.mem_append_right _ (h))
theorem qX0_copyFrom_2 : Cond.fieldLink RX0 22 "ReelChanger$Operator" "rowCount" "I" ∈ wsX0_copyFrom := List.mem_of_getElem? (i := 2) (by decide +kernel)
theorem qX0_copyFrom_3 : Cond.fieldLink RX0 25 "ReelChanger$Operator" "workKind" "I" ∈ wsX0_copyFrom := List.mem_of_getElem? (i := 3) (by decide +kernel)
theorem qX0_copyFrom_4 : Cond.fieldLink RX0 28 "ReelChanger$Operator" "workProjector" "I" ∈ wsX0_copyFrom := List.mem_of_getElem? (i := 4) (by decide +kernel)
theorem qX0_copyFrom_5 : Cond.fieldLink RX0 11 "ReelChanger$Operator" "kinds" "[I" ∈ wsX0_copyFrom := List.mem_of_getElem? (i := 5) (by decide +kernel)
theorem qX0_copyFrom_6 : Cond.methodLink RX0 31 arraycopyName ∈ wsX0_copyFrom := List.mem_of_getElem? (i := 6) (by decide +kernel)
theorem qX0_copyFrom_7 : Cond.native arraycopyName ∈ wsX0_copyFrom := List.mem_of_getElem? (i := 7) (by decide +kernel)
theorem qX0_copyFrom_8 : Cond.static arraycopyName ∈ wsX0_copyFrom := List.mem_of_getElem? (i := 8) (by decide +kernel)
theorem qX0_copyFrom_9 : Cond.initialized "java/lang/System" ∈ wsX0_copyFrom := List.mem_of_getElem? (i := 9) (by decide +kernel)
theorem qX0_copyFrom_10 : Cond.fieldLink RX0 15 "ReelChanger$Operator" "projectors" "[I" ∈ wsX0_copyFrom := List.mem_of_getElem? (i := 10) (by decide +kernel)
def wX0_copyFrom (G : rc_G) (a0 : Nat) (a1 : Nat) (I : rc_M) (post : rc_M → Prop) : Prop :=
  ∀ I1, I1 = rc_s I a0 0 (I a1 0) → ∀ I2, I2 = rc_s I1 a0 1 (I1 a1 1) → ∀ I3, I3 = rc_s I2 a0 2 (I2 a1 2) → ∀ I4, I4 = rc_s I3 a0 3 (I3 a1 3) → ((0 : Int) ≤ 0 ∧ (0 : Int) ≤ 0 ∧ (0 : Int) ≤ 8 ∧ (0 + 8 : Int) ≤ 8 ∧ (0 + 8 : Int) ≤ 8) ∧ (∀ I6, I6 = rc_cpy I4 (a1 + 1) (a0 + 1) 0 0 8 → ((0 : Int) ≤ 0 ∧ (0 : Int) ≤ 0 ∧ (0 : Int) ≤ 8 ∧ (0 + 8 : Int) ≤ 8 ∧ (0 + 8 : Int) ≤ 8) ∧ (∀ I8, I8 = rc_cpy I6 (a1 + 2) (a0 + 2) 0 0 8 → post I8))
set_option maxRecDepth 100000 in
set_option maxHeartbeats 4000000 in
theorem gX0_copyFrom_0 {p : Program} {l : Launch} {e : Env} {s : State} {m : MethodId} {below : List Frame} {meth : Method} {c : Code} {G : rc_G} {a0 : Nat} {a1 : Nat} {I : rc_M} {post : rc_M → Prop}  (X : rc_X p s m ([.ref a0, .ref a1] : List Value).toArray meth c cX0_copyFrom 2 wsX0_copyFrom RX0 G (rc_A G)) (hr : meth.sig.returnType = none) (T0 : kX0 G a0) (T1 : kX0 G a1)  (h : wX0_copyFrom G a0 a1 I post) : rc_g p l e rmX0_copyFrom s m ([.ref a0, .ref a1] : List Value).toArray below meth c 0 0 (MQ below (rc_QV G post) ([.ref a0, .ref a1] : List Value).toArray s 0 0 (rc_A G)) 2 G (rc_A G) 0 [(0, .ref a0), (1, .ref a1)] [] I := by
  unfold wX0_copyFrom at h
  refine rc_aload_n X dX0_copyFrom_0 rfl 0 rfl ?_
  refine rc_aload_n X dX0_copyFrom_1 rfl 1 rfl ?_
  refine gfX0_ticksLeft X T1.1 nX0_copyFrom_X0 qX0_copyFrom_1 dX0_copyFrom_2 ?_
  refine pfX0_ticksLeft X T0.1 nX0_copyFrom_X0 qX0_copyFrom_1 dX0_copyFrom_5 (fun I1 e1 => ?_)
  have h := h I1 e1
  refine rc_aload_n X dX0_copyFrom_8 rfl 0 rfl ?_
  refine rc_aload_n X dX0_copyFrom_9 rfl 1 rfl ?_
  refine gfX0_rowCount X T1.1 nX0_copyFrom_X0 qX0_copyFrom_2 dX0_copyFrom_10 ?_
  refine pfX0_rowCount X T0.1 nX0_copyFrom_X0 qX0_copyFrom_2 dX0_copyFrom_13 (fun I2 e2 => ?_)
  have h := h I2 e2
  refine rc_aload_n X dX0_copyFrom_16 rfl 0 rfl ?_
  refine rc_aload_n X dX0_copyFrom_17 rfl 1 rfl ?_
  refine gfX0_workKind X T1.1 nX0_copyFrom_X0 qX0_copyFrom_3 dX0_copyFrom_18 ?_
  refine pfX0_workKind X T0.1 nX0_copyFrom_X0 qX0_copyFrom_3 dX0_copyFrom_21 (fun I3 e3 => ?_)
  have h := h I3 e3
  refine rc_aload_n X dX0_copyFrom_24 rfl 0 rfl ?_
  refine rc_aload_n X dX0_copyFrom_25 rfl 1 rfl ?_
  refine gfX0_workProjector X T1.1 nX0_copyFrom_X0 qX0_copyFrom_4 dX0_copyFrom_26 ?_
  refine pfX0_workProjector X T0.1 nX0_copyFrom_X0 qX0_copyFrom_4 dX0_copyFrom_29 (fun I4 e4 => ?_)
  have h := h I4 e4
  refine rc_aload_n X dX0_copyFrom_32 rfl 1 rfl ?_
  refine gfX0_kinds X T1.1 nX0_copyFrom_X0 qX0_copyFrom_5 dX0_copyFrom_33 ?_
  refine rc_iconst X dX0_copyFrom_36 ?_
  refine rc_aload_n X dX0_copyFrom_37 rfl 0 rfl ?_
  refine gfX0_kinds X T0.1 nX0_copyFrom_X0 qX0_copyFrom_5 dX0_copyFrom_38 ?_
  refine rc_iconst X dX0_copyFrom_41 ?_
  refine rc_bipush X dX0_copyFrom_42 (rc_b8 _ ⟨by decide, by decide⟩) ?_
  obtain ⟨c5, h⟩ := h
  refine rc_acopy X T1.2.1 T0.2.1 (by decide) (by decide) qX0_copyFrom_6 qX0_copyFrom_7 qX0_copyFrom_8 qX0_copyFrom_9 (Nat.le_of_ble_eq_true rfl) (by decide +kernel) dX0_copyFrom_44 c5.1 c5.2.1 c5.2.2.1 c5.2.2.2.1 c5.2.2.2.2 (fun I6 e6 => ?_)
  have h := h I6 e6
  refine rc_aload_n X dX0_copyFrom_47 rfl 1 rfl ?_
  refine gfX0_projectors X T1.1 nX0_copyFrom_X0 qX0_copyFrom_10 dX0_copyFrom_48 ?_
  refine rc_iconst X dX0_copyFrom_51 ?_
  refine rc_aload_n X dX0_copyFrom_52 rfl 0 rfl ?_
  refine gfX0_projectors X T0.1 nX0_copyFrom_X0 qX0_copyFrom_10 dX0_copyFrom_53 ?_
  refine rc_iconst X dX0_copyFrom_56 ?_
  refine rc_bipush X dX0_copyFrom_57 (rc_b8 _ ⟨by decide, by decide⟩) ?_
  obtain ⟨c7, h⟩ := h
  refine rc_acopy X T1.2.2 T0.2.2 (by decide) (by decide) qX0_copyFrom_6 qX0_copyFrom_7 qX0_copyFrom_8 qX0_copyFrom_9 (Nat.le_of_ble_eq_true rfl) (by decide +kernel) dX0_copyFrom_59 c7.1 c7.2.1 c7.2.2.1 c7.2.2.2.1 c7.2.2.2.2 (fun I8 e8 => ?_)
  have h := h I8 e8
  exact rc_vret X hr dX0_copyFrom_62 h
theorem mX0_copyFrom {l : Launch} {G : rc_G} {a0 : Nat} {a1 : Nat} {I : rc_M} {post : rc_M → Prop} (T0 : kX0 G a0) (T1 : kX0 G a1) (h : wX0_copyFrom G a0 a1 I post) : rc_CV l yX0_copyFrom wsX0_copyFrom rmX0_copyFrom G [.ref a0, .ref a1] I post :=
  rc_body (by decide +kernel) rfl rfl (Nat.le_of_ble_eq_true rfl) rfl (fun p e s m below meth c X hr => gX0_copyFrom_0 X hr T0 T1 h)
