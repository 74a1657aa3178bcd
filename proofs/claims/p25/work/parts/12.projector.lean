/-! X2_thread -/
abbrev rmX2_thread : Room := { frames := 0, cells := 0, slots := 0, locals := 0 }
theorem dyX2_thread : yX2_thread.cls = RX2 ∧ yX2_thread.cls ≠ "java/lang/invoke/MethodHandle" ∧ yX2_thread.cls ≠ "java/lang/invoke/VarHandle" ∧ (parseMethodDescriptor yX2_thread.desc).map (fun d => d.parameters.length) = some 1 := ⟨rfl, by decide +kernel, by decide +kernel, by decide +kernel⟩
theorem qX2_thread_1 : Cond.fieldLink RX2 9 "ReelChanger$Projector" "state" "I" ∈ wsX2_thread := List.mem_of_getElem? (i := 1) (by decide +kernel)
theorem nX2_thread_X2 : ∀ w ∈ wsX20, w ∈ wsX2_thread := fun w h => List.mem_cons_of_mem _ (List.mem_append_right _ (h))
theorem qX2_thread_2 : Cond.fieldLink RX2 15 "ReelChanger$Projector" "place" "I" ∈ wsX2_thread := List.mem_of_getElem? (i := 2) (by decide +kernel)
def wX2_thread (G : rc_G) (a0 : Nat) (a1 : Int) (I : rc_M) (post : rc_M → Prop) : Prop :=
  ∀ I1, I1 = rc_s I a0 0 1 → ∀ I2, I2 = rc_s I1 a0 1 a1 → post I2
set_option maxRecDepth 100000 in
set_option maxHeartbeats 4000000 in
theorem gX2_thread_0 {p : Program} {l : Launch} {e : Env} {s : State} {m : MethodId} {below : List Frame} {meth : Method} {c : Code} {G : rc_G} {a0 : Nat} {a1 : Int} {I : rc_M} {post : rc_M → Prop}  (X : rc_X p s m ([.ref a0, .int (rc_o a1)] : List Value).toArray meth c cX2_thread 2 wsX2_thread RX2 G (rc_A G)) (hr : meth.sig.returnType = none) (T0 : kX2 G a0)  (h : wX2_thread G a0 a1 I post) : rc_g p l e rmX2_thread s m ([.ref a0, .int (rc_o a1)] : List Value).toArray below meth c 0 0 (MQ below (rc_QV G post) ([.ref a0, .int (rc_o a1)] : List Value).toArray s 0 0 (rc_A G)) 2 G (rc_A G) 0 [(0, .ref a0), (1, .int (rc_o a1))] [] I := by
  unfold wX2_thread at h
  refine rc_aload_n X dX2_thread_0 rfl 0 rfl ?_
  refine rc_iconst X dX2_thread_1 ?_
  refine pfX2_state X T0.1 nX2_thread_X2 qX2_thread_1 dX2_thread_2 (fun I1 e1 => ?_)
  have h := h I1 e1
  refine rc_aload_n X dX2_thread_5 rfl 0 rfl ?_
  refine rc_iload_n X dX2_thread_6 rfl 1 rfl ?_
  refine pfX2_place X T0.1 nX2_thread_X2 qX2_thread_2 dX2_thread_7 (fun I2 e2 => ?_)
  have h := h I2 e2
  exact rc_vret X hr dX2_thread_10 h
theorem mX2_thread {l : Launch} {G : rc_G} {a0 : Nat} {a1 : Int} {I : rc_M} {post : rc_M → Prop} (T0 : kX2 G a0) (h : wX2_thread G a0 a1 I post) : rc_CV l yX2_thread wsX2_thread rmX2_thread G [.ref a0, .int (rc_o a1)] I post :=
  rc_body (by decide +kernel) rfl rfl (Nat.le_of_ble_eq_true rfl) rfl (fun p e s m below meth c X hr => gX2_thread_0 X hr T0 h)
/-! X2_start -/
abbrev rmX2_start : Room := { frames := 0, cells := 0, slots := 0, locals := 0 }
theorem dyX2_start : yX2_start.cls = RX2 ∧ yX2_start.cls ≠ "java/lang/invoke/MethodHandle" ∧ yX2_start.cls ≠ "java/lang/invoke/VarHandle" ∧ (parseMethodDescriptor yX2_start.desc).map (fun d => d.parameters.length) = some 1 := ⟨rfl, by decide +kernel, by decide +kernel, by decide +kernel⟩
theorem qX2_start_1 : Cond.fieldLink RX2 9 "ReelChanger$Projector" "state" "I" ∈ wsX2_start := List.mem_of_getElem? (i := 1) (by decide +kernel)
theorem nX2_start_X2 : ∀ w ∈ wsX20, w ∈ wsX2_start := fun w h => List.mem_cons_of_mem _ (List.mem_append_right _ (h))
theorem qX2_start_2 : Cond.fieldLink RX2 18 "ReelChanger$Projector" "frame" "I" ∈ wsX2_start := List.mem_of_getElem? (i := 2) (by decide +kernel)
def wX2_start (G : rc_G) (a0 : Nat) (a1 : Int) (I : rc_M) (post : rc_M → Prop) : Prop :=
  ∀ I1, I1 = rc_s I a0 0 2 → ∀ I2, I2 = rc_s I1 a0 2 a1 → post I2
set_option maxRecDepth 100000 in
set_option maxHeartbeats 4000000 in
theorem gX2_start_0 {p : Program} {l : Launch} {e : Env} {s : State} {m : MethodId} {below : List Frame} {meth : Method} {c : Code} {G : rc_G} {a0 : Nat} {a1 : Int} {I : rc_M} {post : rc_M → Prop}  (X : rc_X p s m ([.ref a0, .int (rc_o a1)] : List Value).toArray meth c cX2_start 2 wsX2_start RX2 G (rc_A G)) (hr : meth.sig.returnType = none) (T0 : kX2 G a0)  (h : wX2_start G a0 a1 I post) : rc_g p l e rmX2_start s m ([.ref a0, .int (rc_o a1)] : List Value).toArray below meth c 0 0 (MQ below (rc_QV G post) ([.ref a0, .int (rc_o a1)] : List Value).toArray s 0 0 (rc_A G)) 2 G (rc_A G) 0 [(0, .ref a0), (1, .int (rc_o a1))] [] I := by
  unfold wX2_start at h
  refine rc_aload_n X dX2_start_0 rfl 0 rfl ?_
  refine rc_iconst X dX2_start_1 ?_
  refine pfX2_state X T0.1 nX2_start_X2 qX2_start_1 dX2_start_2 (fun I1 e1 => ?_)
  have h := h I1 e1
  refine rc_aload_n X dX2_start_5 rfl 0 rfl ?_
  refine rc_iload_n X dX2_start_6 rfl 1 rfl ?_
  refine pfX2_frame X T0.1 nX2_start_X2 qX2_start_2 dX2_start_7 (fun I2 e2 => ?_)
  have h := h I2 e2
  exact rc_vret X hr dX2_start_10 h
theorem mX2_start {l : Launch} {G : rc_G} {a0 : Nat} {a1 : Int} {I : rc_M} {post : rc_M → Prop} (T0 : kX2 G a0) (h : wX2_start G a0 a1 I post) : rc_CV l yX2_start wsX2_start rmX2_start G [.ref a0, .int (rc_o a1)] I post :=
  rc_body (by decide +kernel) rfl rfl (Nat.le_of_ble_eq_true rfl) rfl (fun p e s m below meth c X hr => gX2_start_0 X hr T0 h)
/-! X2_isMoving -/
abbrev rmX2_isMoving : Room := { frames := 0, cells := 0, slots := 0, locals := 0 }
theorem dyX2_isMoving : yX2_isMoving.cls = RX2 ∧ yX2_isMoving.cls ≠ "java/lang/invoke/MethodHandle" ∧ yX2_isMoving.cls ≠ "java/lang/invoke/VarHandle" ∧ (parseMethodDescriptor yX2_isMoving.desc).map (fun d => d.parameters.length) = some 0 := ⟨rfl, by decide +kernel, by decide +kernel, by decide +kernel⟩
theorem qX2_isMoving_1 : Cond.fieldLink RX2 9 "ReelChanger$Projector" "state" "I" ∈ wsX2_isMoving := List.mem_of_getElem? (i := 1) (by decide +kernel)
theorem nX2_isMoving_X2 : ∀ w ∈ wsX20, w ∈ wsX2_isMoving := fun w h => List.mem_cons_of_mem _ (List.mem_append_right _ (h))
def wX2_isMoving_16 (G : rc_G) (post : Int → rc_M → Prop) (a0 : Nat)   (I : rc_M) : Prop :=
  post 1 I
set_option maxRecDepth 100000 in
set_option maxHeartbeats 4000000 in
theorem gX2_isMoving_16 {p : Program} {l : Launch} {e : Env} {s : State} {m : MethodId} {below : List Frame} {meth : Method} {c : Code} {G : rc_G} {a0 : Nat} {I : rc_M} {post : Int → rc_M → Prop}   (X : rc_X p s m ([.ref a0] : List Value).toArray meth c cX2_isMoving 1 wsX2_isMoving RX2 G (rc_A G)) (hr : meth.sig.returnType = some .boolean) (T0 : kX2 G a0)   (h : wX2_isMoving_16 G post a0   I) : rc_g p l e rmX2_isMoving s m ([.ref a0] : List Value).toArray below meth c 0 0 (MQ below (rc_QI G post) ([.ref a0] : List Value).toArray s 0 0 (rc_A G)) 1 G (rc_A G) 16 [] [] I := by
  unfold wX2_isMoving_16 at h
  refine rc_iconst X dX2_isMoving_16 ?_
  refine rc_goto X 21 dX2_isMoving_17 (by decide) ?_
  exact rc_zret X hr dX2_isMoving_21 (Or.inr rfl) h
def wX2_isMoving (G : rc_G) (a0 : Nat) (I : rc_M) (post : Int → rc_M → Prop) : Prop :=
  rc_R (I a0 0) ∧ (((I a0 0) = 2 → wX2_isMoving_16 G post a0   I) ∧ (¬ (I a0 0) = 2 → rc_R (I a0 0) ∧ ((¬ (I a0 0) = 3 → post 0 I) ∧ ((I a0 0) = 3 → wX2_isMoving_16 G post a0   I))))
set_option maxRecDepth 100000 in
set_option maxHeartbeats 4000000 in
theorem gX2_isMoving_0 {p : Program} {l : Launch} {e : Env} {s : State} {m : MethodId} {below : List Frame} {meth : Method} {c : Code} {G : rc_G} {a0 : Nat} {I : rc_M} {post : Int → rc_M → Prop}  (X : rc_X p s m ([.ref a0] : List Value).toArray meth c cX2_isMoving 1 wsX2_isMoving RX2 G (rc_A G)) (hr : meth.sig.returnType = some .boolean) (T0 : kX2 G a0)  (h : wX2_isMoving G a0 I post) : rc_g p l e rmX2_isMoving s m ([.ref a0] : List Value).toArray below meth c 0 0 (MQ below (rc_QI G post) ([.ref a0] : List Value).toArray s 0 0 (rc_A G)) 1 G (rc_A G) 0 [(0, .ref a0)] [] I := by
  unfold wX2_isMoving at h
  refine rc_aload_n X dX2_isMoving_0 rfl 0 rfl ?_
  refine gfX2_state X T0.1 nX2_isMoving_X2 qX2_isMoving_1 dX2_isMoving_1 ?_
  refine rc_iconst X dX2_isMoving_4 ?_
  obtain ⟨c1, h⟩ := h
  refine rc_ic_eq X 16 dX2_isMoving_5 (by decide) c1 ⟨by decide, by decide⟩ (fun c2 => ?_) (fun c2 => ?_)
  · have h := h.1 c2
    refine rc_subl [] [] rfl ?_
    exact gX2_isMoving_16 X hr T0   h
  · have h := h.2 c2
    refine rc_aload_n X dX2_isMoving_8 rfl 0 rfl ?_
    refine gfX2_state X T0.1 nX2_isMoving_X2 qX2_isMoving_1 dX2_isMoving_9 ?_
    refine rc_iconst X dX2_isMoving_12 ?_
    obtain ⟨c3, h⟩ := h
    refine rc_ic_ne X 20 dX2_isMoving_13 (by decide) c3 ⟨by decide, by decide⟩ (fun c4 => ?_) (fun c4 => ?_)
    · have h := h.1 c4
      refine rc_iconst X dX2_isMoving_20 ?_
      exact rc_zret X hr dX2_isMoving_21 (Or.inl rfl) h
    · have h := h.2 c4
      refine rc_subl [] [] rfl ?_
      exact gX2_isMoving_16 X hr T0   h
theorem mX2_isMoving {l : Launch} {G : rc_G} {a0 : Nat} {I : rc_M} {post : Int → rc_M → Prop} (T0 : kX2 G a0) (h : wX2_isMoving G a0 I post) : rc_CI l yX2_isMoving wsX2_isMoving rmX2_isMoving G [.ref a0] I post :=
  rc_body (by decide +kernel) rfl rfl (Nat.le_of_ble_eq_true rfl) rfl (fun p e s m below meth c X hr => gX2_isMoving_0 X hr T0 h)
/-! X2_isAtFrame -/
abbrev rmX2_isAtFrame : Room := { frames := 0, cells := 0, slots := 0, locals := 0 }
theorem dyX2_isAtFrame : yX2_isAtFrame.cls = RX2 ∧ yX2_isAtFrame.cls ≠ "java/lang/invoke/MethodHandle" ∧ yX2_isAtFrame.cls ≠ "java/lang/invoke/VarHandle" ∧ (parseMethodDescriptor yX2_isAtFrame.desc).map (fun d => d.parameters.length) = some 0 := ⟨rfl, by decide +kernel, by decide +kernel, by decide +kernel⟩
theorem qX2_isAtFrame_1 : Cond.fieldLink RX2 9 "ReelChanger$Projector" "state" "I" ∈ wsX2_isAtFrame := List.mem_of_getElem? (i := 1) (by decide +kernel)
theorem nX2_isAtFrame_X2 : ∀ w ∈ wsX20, w ∈ wsX2_isAtFrame := fun w h => List.mem_cons_of_mem _ (List.mem_append_right _ (h))
def wX2_isAtFrame_24 (G : rc_G) (post : Int → rc_M → Prop) (a0 : Nat)   (I : rc_M) : Prop :=
  post 1 I
set_option maxRecDepth 100000 in
set_option maxHeartbeats 4000000 in
theorem gX2_isAtFrame_24 {p : Program} {l : Launch} {e : Env} {s : State} {m : MethodId} {below : List Frame} {meth : Method} {c : Code} {G : rc_G} {a0 : Nat} {I : rc_M} {post : Int → rc_M → Prop}   (X : rc_X p s m ([.ref a0] : List Value).toArray meth c cX2_isAtFrame 1 wsX2_isAtFrame RX2 G (rc_A G)) (hr : meth.sig.returnType = some .boolean) (T0 : kX2 G a0)   (h : wX2_isAtFrame_24 G post a0   I) : rc_g p l e rmX2_isAtFrame s m ([.ref a0] : List Value).toArray below meth c 0 0 (MQ below (rc_QI G post) ([.ref a0] : List Value).toArray s 0 0 (rc_A G)) 1 G (rc_A G) 24 [] [] I := by
  unfold wX2_isAtFrame_24 at h
  refine rc_iconst X dX2_isAtFrame_24 ?_
  refine rc_goto X 29 dX2_isAtFrame_25 (by decide) ?_
  exact rc_zret X hr dX2_isAtFrame_29 (Or.inr rfl) h
def wX2_isAtFrame (G : rc_G) (a0 : Nat) (I : rc_M) (post : Int → rc_M → Prop) : Prop :=
  rc_R (I a0 0) ∧ (((I a0 0) = 2 → wX2_isAtFrame_24 G post a0   I) ∧ (¬ (I a0 0) = 2 → rc_R (I a0 0) ∧ (((I a0 0) = 3 → wX2_isAtFrame_24 G post a0   I) ∧ (¬ (I a0 0) = 3 → rc_R (I a0 0) ∧ ((¬ (I a0 0) = 5 → post 0 I) ∧ ((I a0 0) = 5 → wX2_isAtFrame_24 G post a0   I))))))
set_option maxRecDepth 100000 in
set_option maxHeartbeats 4000000 in
theorem gX2_isAtFrame_0 {p : Program} {l : Launch} {e : Env} {s : State} {m : MethodId} {below : List Frame} {meth : Method} {c : Code} {G : rc_G} {a0 : Nat} {I : rc_M} {post : Int → rc_M → Prop}  (X : rc_X p s m ([.ref a0] : List Value).toArray meth c cX2_isAtFrame 1 wsX2_isAtFrame RX2 G (rc_A G)) (hr : meth.sig.returnType = some .boolean) (T0 : kX2 G a0)  (h : wX2_isAtFrame G a0 I post) : rc_g p l e rmX2_isAtFrame s m ([.ref a0] : List Value).toArray below meth c 0 0 (MQ below (rc_QI G post) ([.ref a0] : List Value).toArray s 0 0 (rc_A G)) 1 G (rc_A G) 0 [(0, .ref a0)] [] I := by
  unfold wX2_isAtFrame at h
  refine rc_aload_n X dX2_isAtFrame_0 rfl 0 rfl ?_
  refine gfX2_state X T0.1 nX2_isAtFrame_X2 qX2_isAtFrame_1 dX2_isAtFrame_1 ?_
  refine rc_iconst X dX2_isAtFrame_4 ?_
  obtain ⟨c1, h⟩ := h
  refine rc_ic_eq X 24 dX2_isAtFrame_5 (by decide) c1 ⟨by decide, by decide⟩ (fun c2 => ?_) (fun c2 => ?_)
  · have h := h.1 c2
    refine rc_subl [] [] rfl ?_
    exact gX2_isAtFrame_24 X hr T0   h
  · have h := h.2 c2
    refine rc_aload_n X dX2_isAtFrame_8 rfl 0 rfl ?_
    refine gfX2_state X T0.1 nX2_isAtFrame_X2 qX2_isAtFrame_1 dX2_isAtFrame_9 ?_
    refine rc_iconst X dX2_isAtFrame_12 ?_
    obtain ⟨c3, h⟩ := h
    refine rc_ic_eq X 24 dX2_isAtFrame_13 (by decide) c3 ⟨by decide, by decide⟩ (fun c4 => ?_) (fun c4 => ?_)
    · have h := h.1 c4
      refine rc_subl [] [] rfl ?_
      exact gX2_isAtFrame_24 X hr T0   h
    · have h := h.2 c4
      refine rc_aload_n X dX2_isAtFrame_16 rfl 0 rfl ?_
      refine gfX2_state X T0.1 nX2_isAtFrame_X2 qX2_isAtFrame_1 dX2_isAtFrame_17 ?_
      refine rc_iconst X dX2_isAtFrame_20 ?_
      obtain ⟨c5, h⟩ := h
      refine rc_ic_ne X 28 dX2_isAtFrame_21 (by decide) c5 ⟨by decide, by decide⟩ (fun c6 => ?_) (fun c6 => ?_)
      · have h := h.1 c6
        refine rc_iconst X dX2_isAtFrame_28 ?_
        exact rc_zret X hr dX2_isAtFrame_29 (Or.inl rfl) h
      · have h := h.2 c6
        refine rc_subl [] [] rfl ?_
        exact gX2_isAtFrame_24 X hr T0   h
theorem mX2_isAtFrame {l : Launch} {G : rc_G} {a0 : Nat} {I : rc_M} {post : Int → rc_M → Prop} (T0 : kX2 G a0) (h : wX2_isAtFrame G a0 I post) : rc_CI l yX2_isAtFrame wsX2_isAtFrame rmX2_isAtFrame G [.ref a0] I post :=
  rc_body (by decide +kernel) rfl rfl (Nat.le_of_ble_eq_true rfl) rfl (fun p e s m below meth c X hr => gX2_isAtFrame_0 X hr T0 h)
/-! X2_copyFrom -/
abbrev rmX2_copyFrom : Room := { frames := 0, cells := 0, slots := 0, locals := 0 }
theorem dyX2_copyFrom : yX2_copyFrom.cls = RX2 ∧ yX2_copyFrom.cls ≠ "java/lang/invoke/MethodHandle" ∧ yX2_copyFrom.cls ≠ "java/lang/invoke/VarHandle" ∧ (parseMethodDescriptor yX2_copyFrom.desc).map (fun d => d.parameters.length) = some 1 := ⟨rfl, by decide +kernel, by decide +kernel, by decide +kernel⟩
theorem qX2_copyFrom_1 : Cond.fieldLink RX2 9 "ReelChanger$Projector" "state" "I" ∈ wsX2_copyFrom := List.mem_of_getElem? (i := 1) (by decide +kernel)
theorem nX2_copyFrom_X2 : ∀ w ∈ wsX20, w ∈ wsX2_copyFrom := fun w h => List.mem_cons_of_mem _ (List.mem_append_right _ (h))
theorem qX2_copyFrom_2 : Cond.fieldLink RX2 15 "ReelChanger$Projector" "place" "I" ∈ wsX2_copyFrom := List.mem_of_getElem? (i := 2) (by decide +kernel)
theorem qX2_copyFrom_3 : Cond.fieldLink RX2 18 "ReelChanger$Projector" "frame" "I" ∈ wsX2_copyFrom := List.mem_of_getElem? (i := 3) (by decide +kernel)
def wX2_copyFrom (G : rc_G) (a0 : Nat) (a1 : Nat) (I : rc_M) (post : rc_M → Prop) : Prop :=
  ∀ I1, I1 = rc_s I a0 0 (I a1 0) → ∀ I2, I2 = rc_s I1 a0 1 (I1 a1 1) → ∀ I3, I3 = rc_s I2 a0 2 (I2 a1 2) → post I3
set_option maxRecDepth 100000 in
set_option maxHeartbeats 4000000 in
theorem gX2_copyFrom_0 {p : Program} {l : Launch} {e : Env} {s : State} {m : MethodId} {below : List Frame} {meth : Method} {c : Code} {G : rc_G} {a0 : Nat} {a1 : Nat} {I : rc_M} {post : rc_M → Prop}  (X : rc_X p s m ([.ref a0, .ref a1] : List Value).toArray meth c cX2_copyFrom 2 wsX2_copyFrom RX2 G (rc_A G)) (hr : meth.sig.returnType = none) (T0 : kX2 G a0) (T1 : kX2 G a1)  (h : wX2_copyFrom G a0 a1 I post) : rc_g p l e rmX2_copyFrom s m ([.ref a0, .ref a1] : List Value).toArray below meth c 0 0 (MQ below (rc_QV G post) ([.ref a0, .ref a1] : List Value).toArray s 0 0 (rc_A G)) 2 G (rc_A G) 0 [(0, .ref a0), (1, .ref a1)] [] I := by
  unfold wX2_copyFrom at h
  refine rc_aload_n X dX2_copyFrom_0 rfl 0 rfl ?_
  refine rc_aload_n X dX2_copyFrom_1 rfl 1 rfl ?_
  refine gfX2_state X T1.1 nX2_copyFrom_X2 qX2_copyFrom_1 dX2_copyFrom_2 ?_
  refine pfX2_state X T0.1 nX2_copyFrom_X2 qX2_copyFrom_1 dX2_copyFrom_5 (fun I1 e1 => ?_)
  have h := h I1 e1
  refine rc_aload_n X dX2_copyFrom_8 rfl 0 rfl ?_
  refine rc_aload_n X dX2_copyFrom_9 rfl 1 rfl ?_
  refine gfX2_place X T1.1 nX2_copyFrom_X2 qX2_copyFrom_2 dX2_copyFrom_10 ?_
  refine pfX2_place X T0.1 nX2_copyFrom_X2 qX2_copyFrom_2 dX2_copyFrom_13 (fun I2 e2 => ?_)
  have h := h I2 e2
  refine rc_aload_n X dX2_copyFrom_16 rfl 0 rfl ?_
  refine rc_aload_n X dX2_copyFrom_17 rfl 1 rfl ?_
  refine gfX2_frame X T1.1 nX2_copyFrom_X2 qX2_copyFrom_3 dX2_copyFrom_18 ?_
  refine pfX2_frame X T0.1 nX2_copyFrom_X2 qX2_copyFrom_3 dX2_copyFrom_21 (fun I3 e3 => ?_)
  have h := h I3 e3
  exact rc_vret X hr dX2_copyFrom_24 h
theorem mX2_copyFrom {l : Launch} {G : rc_G} {a0 : Nat} {a1 : Nat} {I : rc_M} {post : rc_M → Prop} (T0 : kX2 G a0) (T1 : kX2 G a1) (h : wX2_copyFrom G a0 a1 I post) : rc_CV l yX2_copyFrom wsX2_copyFrom rmX2_copyFrom G [.ref a0, .ref a1] I post :=
  rc_body (by decide +kernel) rfl rfl (Nat.le_of_ble_eq_true rfl) rfl (fun p e s m below meth c X hr => gX2_copyFrom_0 X hr T0 T1 h)
