/-! X3_renew -/
abbrev rmX3_renew : Room := { frames := 0, cells := 0, slots := 0, locals := 0 }
theorem dyX3_renew : yX3_renew.cls = RX3 ∧ yX3_renew.cls ≠ "java/lang/invoke/MethodHandle" ∧ yX3_renew.cls ≠ "java/lang/invoke/VarHandle" ∧ (parseMethodDescriptor yX3_renew.desc).map (fun d => d.parameters.length) = some 1 := ⟨rfl, by decide +kernel, by decide +kernel, by decide +kernel⟩
theorem qX3_renew_1 : Cond.fieldLink RX3 18 "ReelChanger$Reel" "length" "I" ∈ wsX3_renew := List.mem_of_getElem? (i := 1) (by decide +kernel)
theorem nX3_renew_X3 : ∀ w ∈ wsX30, w ∈ wsX3_renew := fun w h => List.mem_cons_of_mem _ (List.mem_append_right _ (h))
theorem qX3_renew_2 : Cond.fieldLink RX3 22 "ReelChanger$Reel" "spliceCount" "I" ∈ wsX3_renew := List.mem_of_getElem? (i := 2) (by decide +kernel)
def wX3_renew (G : rc_G) (a0 : Nat) (a1 : Int) (I : rc_M) (post : rc_M → Prop) : Prop :=
  ∀ I1, I1 = rc_s I a0 0 a1 → ∀ I2, I2 = rc_s I1 a0 1 0 → post I2
set_option maxRecDepth 100000 in
set_option maxHeartbeats 4000000 in
theorem gX3_renew_0 {p : Program} {l : Launch} {e : Env} {s : State} {m : MethodId} {below : List Frame} {meth : Method} {c : Code} {G : rc_G} {a0 : Nat} {a1 : Int} {I : rc_M} {post : rc_M → Prop}  (X : rc_X p s m ([.ref a0, .int (rc_o a1)] : List Value).toArray meth c cX3_renew 2 wsX3_renew RX3 G (rc_A G)) (hr : meth.sig.returnType = none) (T0 : kX3 G a0)  (h : wX3_renew G a0 a1 I post) : rc_g p l e rmX3_renew s m ([.ref a0, .int (rc_o a1)] : List Value).toArray below meth c 0 0 (MQ below (rc_QV G post) ([.ref a0, .int (rc_o a1)] : List Value).toArray s 0 0 (rc_A G)) 2 G (rc_A G) 0 [(0, .ref a0), (1, .int (rc_o a1))] [] I := by
  unfold wX3_renew at h
  refine rc_aload_n X dX3_renew_0 rfl 0 rfl ?_
  refine rc_iload_n X dX3_renew_1 rfl 1 rfl ?_
  refine pfX3_length X T0.1 nX3_renew_X3 qX3_renew_1 dX3_renew_2 (fun I1 e1 => ?_)
  have h := h I1 e1
  refine rc_aload_n X dX3_renew_5 rfl 0 rfl ?_
  refine rc_iconst X dX3_renew_6 ?_
  refine pfX3_spliceCount X T0.1 nX3_renew_X3 qX3_renew_2 dX3_renew_7 (fun I2 e2 => ?_)
  have h := h I2 e2
  exact rc_vret X hr dX3_renew_10 h
theorem mX3_renew {l : Launch} {G : rc_G} {a0 : Nat} {a1 : Int} {I : rc_M} {post : rc_M → Prop} (T0 : kX3 G a0) (h : wX3_renew G a0 a1 I post) : rc_CV l yX3_renew wsX3_renew rmX3_renew G [.ref a0, .int (rc_o a1)] I post :=
  rc_body (by decide +kernel) rfl rfl (Nat.le_of_ble_eq_true rfl) rfl (fun p e s m below meth c X hr => gX3_renew_0 X hr T0 h)
/-! X3_spliceOfFrame -/
abbrev rmX3_spliceOfFrame : Room := { frames := 0, cells := 0, slots := 0, locals := 0 }
theorem dyX3_spliceOfFrame : yX3_spliceOfFrame.cls = RX3 ∧ yX3_spliceOfFrame.cls ≠ "java/lang/invoke/MethodHandle" ∧ yX3_spliceOfFrame.cls ≠ "java/lang/invoke/VarHandle" ∧ (parseMethodDescriptor yX3_spliceOfFrame.desc).map (fun d => d.parameters.length) = some 1 := ⟨rfl, by decide +kernel, by decide +kernel, by decide +kernel⟩
theorem qX3_spliceOfFrame_1 : Cond.fieldLink RX3 22 "ReelChanger$Reel" "spliceCount" "I" ∈ wsX3_spliceOfFrame := List.mem_of_getElem? (i := 1) (by decide +kernel)
theorem nX3_spliceOfFrame_X3 : ∀ w ∈ wsX30, w ∈ wsX3_spliceOfFrame := fun w h => List.mem_cons_of_mem _ (List.mem_append_right _ (h))
theorem qX3_spliceOfFrame_3 : Cond.constant RX3 31 (-100005) ∈ wsX3_spliceOfFrame := List.mem_of_getElem? (i := 3) (by decide +kernel)
theorem qX3_spliceOfFrame_2 : Cond.fieldLink RX3 11 "ReelChanger$Reel" "frames" "[I" ∈ wsX3_spliceOfFrame := List.mem_of_getElem? (i := 2) (by decide +kernel)
def wX3_spliceOfFrame_2 (G : rc_G) (post : Int → rc_M → Prop) (a0 : Nat) (a1 : Int) (k2 : Int → rc_M → Prop) (x2 : Int) (I : rc_M) : Prop :=
  rc_R x2 ∧ (rc_R (I a0 1) ∧ (((I a0 1) ≤ x2 → post (-100005) I) ∧ (¬ (I a0 1) ≤ x2 → rc_R x2 ∧ ((6 ≤ x2 → post (-100005) I) ∧ (¬ 6 ≤ x2 → (0 ≤ x2 ∧ x2 < 6) ∧ (rc_R (I (a0 + 1) x2) ∧ (rc_R a1 ∧ ((¬ (I (a0 + 1) x2) = a1 → k2 (x2 + 1) I) ∧ ((I (a0 + 1) x2) = a1 → post x2 I)))))))))
set_option maxRecDepth 100000 in
set_option maxHeartbeats 4000000 in
theorem gX3_spliceOfFrame_2 {p : Program} {l : Launch} {e : Env} {s : State} {m : MethodId} {below : List Frame} {meth : Method} {c : Code} {G : rc_G} {a0 : Nat} {a1 : Int} {I : rc_M} {post : Int → rc_M → Prop} {k2 : Int → rc_M → Prop} {x2 : Int} (X : rc_X p s m ([.ref a0, .int (rc_o a1)] : List Value).toArray meth c cX3_spliceOfFrame 3 wsX3_spliceOfFrame RX3 G (rc_A G)) (hr : meth.sig.returnType = some .int) (T0 : kX3 G a0) (hk2 : ∀ (x2 : Int) (J : rc_M), k2 x2 J → rc_g p l e rmX3_spliceOfFrame s m ([.ref a0, .int (rc_o a1)] : List Value).toArray below meth c 0 0 (MQ below (rc_QI G post) ([.ref a0, .int (rc_o a1)] : List Value).toArray s 0 0 (rc_A G)) 3 G (rc_A G) 2 [(0, .ref a0), (1, .int (rc_o a1)), (2, .int (rc_o x2))] [] J)  (h : wX3_spliceOfFrame_2 G post a0 a1 k2 x2 I) : rc_g p l e rmX3_spliceOfFrame s m ([.ref a0, .int (rc_o a1)] : List Value).toArray below meth c 0 0 (MQ below (rc_QI G post) ([.ref a0, .int (rc_o a1)] : List Value).toArray s 0 0 (rc_A G)) 3 G (rc_A G) 2 [(0, .ref a0), (1, .int (rc_o a1)), (2, .int (rc_o x2))] [] I := by
  unfold wX3_spliceOfFrame_2 at h
  refine rc_iload_n X dX3_spliceOfFrame_2 rfl 2 rfl ?_
  refine rc_aload_n X dX3_spliceOfFrame_3 rfl 0 rfl ?_
  refine gfX3_spliceCount X T0.1 nX3_spliceOfFrame_X3 qX3_spliceOfFrame_1 dX3_spliceOfFrame_4 ?_
  obtain ⟨c1, h⟩ := h
  obtain ⟨c2, h⟩ := h
  refine rc_ic_ge X 34 dX3_spliceOfFrame_7 (by decide) c1 c2 (fun c3 => ?_) (fun c3 => ?_)
  · have h := h.1 c3
    refine rc_ldc (n := (-100005)) X qX3_spliceOfFrame_3 (by decide +kernel) dX3_spliceOfFrame_34 ?_
    exact rc_iret X hr dX3_spliceOfFrame_36 h
  · have h := h.2 c3
    refine rc_iload_n X dX3_spliceOfFrame_10 rfl 2 rfl ?_
    refine rc_bipush X dX3_spliceOfFrame_11 (rc_b8 _ ⟨by decide, by decide⟩) ?_
    obtain ⟨c4, h⟩ := h
    refine rc_ic_ge X 34 dX3_spliceOfFrame_13 (by decide) c4 ⟨by decide, by decide⟩ (fun c5 => ?_) (fun c5 => ?_)
    · have h := h.1 c5
      refine rc_ldc (n := (-100005)) X qX3_spliceOfFrame_3 (by decide +kernel) dX3_spliceOfFrame_34 ?_
      exact rc_iret X hr dX3_spliceOfFrame_36 h
    · have h := h.2 c5
      refine rc_aload_n X dX3_spliceOfFrame_16 rfl 0 rfl ?_
      refine gfX3_frames X T0.1 nX3_spliceOfFrame_X3 qX3_spliceOfFrame_2 dX3_spliceOfFrame_17 ?_
      refine rc_iload_n X dX3_spliceOfFrame_20 rfl 2 rfl ?_
      obtain ⟨c6, h⟩ := h
      refine rc_iald X T0.2.1 (by decide) dX3_spliceOfFrame_21 c6 ?_
      refine rc_iload_n X dX3_spliceOfFrame_22 rfl 1 rfl ?_
      obtain ⟨c7, h⟩ := h
      obtain ⟨c8, h⟩ := h
      refine rc_ic_ne X 28 dX3_spliceOfFrame_23 (by decide) c7 c8 (fun c9 => ?_) (fun c9 => ?_)
      · have h := h.1 c9
        refine rc_iinc X [(2, .int (rc_o (x2 + 1))), (0, .ref a0), (1, .int (rc_o a1))] dX3_spliceOfFrame_28 2 rfl (by decide) rfl ?_
        refine rc_goto X 2 dX3_spliceOfFrame_31 (by decide) ?_
        refine rc_subl [(0, .ref a0), (1, .int (rc_o a1)), (2, .int (rc_o (x2 + 1)))] [1, 2, 0] rfl ?_
        exact hk2 _ _ h
      · have h := h.2 c9
        refine rc_iload_n X dX3_spliceOfFrame_26 rfl 2 rfl ?_
        exact rc_iret X hr dX3_spliceOfFrame_27 h
noncomputable def rX3_spliceOfFrame_2 (G : rc_G) (post : Int → rc_M → Prop) (a0 : Nat) (a1 : Int)  (n : Nat) : Int → rc_M → Prop :=
  Nat.rec (motive := fun _ => Int → rc_M → Prop) (fun _ _ => False) (fun _ ih => wX3_spliceOfFrame_2 G post a0 a1  ih) n
set_option maxRecDepth 100000 in
set_option maxHeartbeats 4000000 in
theorem sX3_spliceOfFrame_2 {p : Program} {l : Launch} {e : Env} {s : State} {m : MethodId} {below : List Frame} {meth : Method} {c : Code} {G : rc_G} {a0 : Nat} {a1 : Int} {I : rc_M} {post : Int → rc_M → Prop}  {n : Nat} {x2 : Int} (X : rc_X p s m ([.ref a0, .int (rc_o a1)] : List Value).toArray meth c cX3_spliceOfFrame 3 wsX3_spliceOfFrame RX3 G (rc_A G)) (hr : meth.sig.returnType = some .int) (T0 : kX3 G a0)  (h : rX3_spliceOfFrame_2 G post a0 a1  n x2 I) : rc_g p l e rmX3_spliceOfFrame s m ([.ref a0, .int (rc_o a1)] : List Value).toArray below meth c 0 0 (MQ below (rc_QI G post) ([.ref a0, .int (rc_o a1)] : List Value).toArray s 0 0 (rc_A G)) 3 G (rc_A G) 2 [(0, .ref a0), (1, .int (rc_o a1)), (2, .int (rc_o x2))] [] I := by
  induction n generalizing x2 I with
  | zero => exact h.elim
  | succ n ih => exact gX3_spliceOfFrame_2 (k2 := rX3_spliceOfFrame_2 G post a0 a1  n) X hr T0  (fun x2 J h2 => ih h2) h
def wX3_spliceOfFrame (G : rc_G) (a0 : Nat) (a1 : Int) (I : rc_M) (post : Int → rc_M → Prop) : Prop :=
  ∃ n, rX3_spliceOfFrame_2 G post a0 a1  n 0 I
set_option maxRecDepth 100000 in
set_option maxHeartbeats 4000000 in
theorem gX3_spliceOfFrame_0 {p : Program} {l : Launch} {e : Env} {s : State} {m : MethodId} {below : List Frame} {meth : Method} {c : Code} {G : rc_G} {a0 : Nat} {a1 : Int} {I : rc_M} {post : Int → rc_M → Prop}  (X : rc_X p s m ([.ref a0, .int (rc_o a1)] : List Value).toArray meth c cX3_spliceOfFrame 3 wsX3_spliceOfFrame RX3 G (rc_A G)) (hr : meth.sig.returnType = some .int) (T0 : kX3 G a0)  (h : wX3_spliceOfFrame G a0 a1 I post) : rc_g p l e rmX3_spliceOfFrame s m ([.ref a0, .int (rc_o a1)] : List Value).toArray below meth c 0 0 (MQ below (rc_QI G post) ([.ref a0, .int (rc_o a1)] : List Value).toArray s 0 0 (rc_A G)) 3 G (rc_A G) 0 [(0, .ref a0), (1, .int (rc_o a1))] [] I := by
  unfold wX3_spliceOfFrame at h
  refine rc_iconst X dX3_spliceOfFrame_0 ?_
  refine rc_istore_n X [(2, .int (rc_o 0)), (0, .ref a0), (1, .int (rc_o a1))] dX3_spliceOfFrame_1 rfl (by decide) rfl ?_
  refine rc_subl [(0, .ref a0), (1, .int (rc_o a1)), (2, .int (rc_o 0))] [1, 2, 0] rfl ?_
  obtain ⟨n, h⟩ := h
  exact sX3_spliceOfFrame_2 X hr T0  h
theorem mX3_spliceOfFrame {l : Launch} {G : rc_G} {a0 : Nat} {a1 : Int} {I : rc_M} {post : Int → rc_M → Prop} (T0 : kX3 G a0) (h : wX3_spliceOfFrame G a0 a1 I post) : rc_CI l yX3_spliceOfFrame wsX3_spliceOfFrame rmX3_spliceOfFrame G [.ref a0, .int (rc_o a1)] I post :=
  rc_body (by decide +kernel) rfl rfl (Nat.le_of_ble_eq_true rfl) rfl (fun p e s m below meth c X hr => gX3_spliceOfFrame_0 X hr T0 h)
/-! X3_hasSplice -/
abbrev rmX3_hasSplice : Room := { frames := 0, cells := 0, slots := 0, locals := 0 }
theorem dyX3_hasSplice : yX3_hasSplice.cls = RX3 ∧ yX3_hasSplice.cls ≠ "java/lang/invoke/MethodHandle" ∧ yX3_hasSplice.cls ≠ "java/lang/invoke/VarHandle" ∧ (parseMethodDescriptor yX3_hasSplice.desc).map (fun d => d.parameters.length) = some 1 := ⟨rfl, by decide +kernel, by decide +kernel, by decide +kernel⟩
theorem qX3_hasSplice_1 : Cond.fieldLink RX3 22 "ReelChanger$Reel" "spliceCount" "I" ∈ wsX3_hasSplice := List.mem_of_getElem? (i := 1) (by decide +kernel)
theorem nX3_hasSplice_X3 : ∀ w ∈ wsX30, w ∈ wsX3_hasSplice := fun w h => List.mem_cons_of_mem _ (List.mem_append_right _ (h))
def wX3_hasSplice (G : rc_G) (a0 : Nat) (a1 : Int) (I : rc_M) (post : Int → rc_M → Prop) : Prop :=
  rc_R a1 ∧ ((a1 < 0 → post 0 I) ∧ (¬ a1 < 0 → rc_R a1 ∧ (rc_R (I a0 1) ∧ (((I a0 1) ≤ a1 → post 0 I) ∧ (¬ (I a0 1) ≤ a1 → rc_R a1 ∧ ((6 ≤ a1 → post 0 I) ∧ (¬ 6 ≤ a1 → post 1 I)))))))
set_option maxRecDepth 100000 in
set_option maxHeartbeats 4000000 in
theorem gX3_hasSplice_0 {p : Program} {l : Launch} {e : Env} {s : State} {m : MethodId} {below : List Frame} {meth : Method} {c : Code} {G : rc_G} {a0 : Nat} {a1 : Int} {I : rc_M} {post : Int → rc_M → Prop}  (X : rc_X p s m ([.ref a0, .int (rc_o a1)] : List Value).toArray meth c cX3_hasSplice 2 wsX3_hasSplice RX3 G (rc_A G)) (hr : meth.sig.returnType = some .boolean) (T0 : kX3 G a0)  (h : wX3_hasSplice G a0 a1 I post) : rc_g p l e rmX3_hasSplice s m ([.ref a0, .int (rc_o a1)] : List Value).toArray below meth c 0 0 (MQ below (rc_QI G post) ([.ref a0, .int (rc_o a1)] : List Value).toArray s 0 0 (rc_A G)) 2 G (rc_A G) 0 [(0, .ref a0), (1, .int (rc_o a1))] [] I := by
  unfold wX3_hasSplice at h
  refine rc_iload_n X dX3_hasSplice_0 rfl 1 rfl ?_
  obtain ⟨c1, h⟩ := h
  refine rc_if_lt X 22 dX3_hasSplice_1 (by decide) c1 (fun c2 => ?_) (fun c2 => ?_)
  · have h := h.1 c2
    refine rc_iconst X dX3_hasSplice_22 ?_
    exact rc_zret X hr dX3_hasSplice_23 (Or.inl rfl) h
  · have h := h.2 c2
    refine rc_iload_n X dX3_hasSplice_4 rfl 1 rfl ?_
    refine rc_aload_n X dX3_hasSplice_5 rfl 0 rfl ?_
    refine gfX3_spliceCount X T0.1 nX3_hasSplice_X3 qX3_hasSplice_1 dX3_hasSplice_6 ?_
    obtain ⟨c3, h⟩ := h
    obtain ⟨c4, h⟩ := h
    refine rc_ic_ge X 22 dX3_hasSplice_9 (by decide) c3 c4 (fun c5 => ?_) (fun c5 => ?_)
    · have h := h.1 c5
      refine rc_iconst X dX3_hasSplice_22 ?_
      exact rc_zret X hr dX3_hasSplice_23 (Or.inl rfl) h
    · have h := h.2 c5
      refine rc_iload_n X dX3_hasSplice_12 rfl 1 rfl ?_
      refine rc_bipush X dX3_hasSplice_13 (rc_b8 _ ⟨by decide, by decide⟩) ?_
      obtain ⟨c6, h⟩ := h
      refine rc_ic_ge X 22 dX3_hasSplice_15 (by decide) c6 ⟨by decide, by decide⟩ (fun c7 => ?_) (fun c7 => ?_)
      · have h := h.1 c7
        refine rc_iconst X dX3_hasSplice_22 ?_
        exact rc_zret X hr dX3_hasSplice_23 (Or.inl rfl) h
      · have h := h.2 c7
        refine rc_iconst X dX3_hasSplice_18 ?_
        refine rc_goto X 23 dX3_hasSplice_19 (by decide) ?_
        exact rc_zret X hr dX3_hasSplice_23 (Or.inr rfl) h
theorem mX3_hasSplice {l : Launch} {G : rc_G} {a0 : Nat} {a1 : Int} {I : rc_M} {post : Int → rc_M → Prop} (T0 : kX3 G a0) (h : wX3_hasSplice G a0 a1 I post) : rc_CI l yX3_hasSplice wsX3_hasSplice rmX3_hasSplice G [.ref a0, .int (rc_o a1)] I post :=
  rc_body (by decide +kernel) rfl rfl (Nat.le_of_ble_eq_true rfl) rfl (fun p e s m below meth c X hr => gX3_hasSplice_0 X hr T0 h)
/-! X3_join -/
abbrev rmX3_join : Room := { frames := 1, cells := 0, slots := 0, locals := 22 }
theorem dyX3_join : yX3_join.cls = RX3 ∧ yX3_join.cls ≠ "java/lang/invoke/MethodHandle" ∧ yX3_join.cls ≠ "java/lang/invoke/VarHandle" ∧ (parseMethodDescriptor yX3_join.desc).map (fun d => d.parameters.length) = some 2 := ⟨rfl, by decide +kernel, by decide +kernel, by decide +kernel⟩
theorem qX3_join_2 : Cond.fieldLink RX3 22 "ReelChanger$Reel" "spliceCount" "I" ∈ wsX3_join := List.mem_of_getElem? (i := 2) (by decide +kernel)
theorem nX3_join_X3 : ∀ w ∈ wsX30, w ∈ wsX3_join := fun w h => List.mem_cons_of_mem _ (List.mem_append_right _ (h))
theorem qX3_join_4 : Cond.fieldLink RX3 11 "ReelChanger$Reel" "frames" "[I" ∈ wsX3_join := List.mem_of_getElem? (i := 4) (by decide +kernel)
theorem qX3_join_1 : Cond.fieldLink RX3 15 "ReelChanger$Reel" "strengths" "[I" ∈ wsX3_join := List.mem_of_getElem? (i := 1) (by decide +kernel)
theorem qX3_join_3 : Cond.constant RX3 40 (-100004) ∈ wsX3_join := List.mem_of_getElem? (i := 3) (by decide +kernel)
def wX3_join_100 (G : rc_G) (post : Int → rc_M → Prop) (a0 : Nat) (a1 : Int) (a2 : Int)  (x4 : Int) (I : rc_M) : Prop :=
  (0 ≤ x4 ∧ x4 < 6) ∧ (∀ I12, I12 = rc_s I (a0 + 1) x4 a1 → (0 ≤ x4 ∧ x4 < 6) ∧ (∀ I14, I14 = rc_s I12 (a0 + 2) x4 a2 → ∀ I15, I15 = rc_s I14 a0 1 ((I14 a0 1) + 1) → post (I15 a0 1) I15))
set_option maxRecDepth 100000 in
set_option maxHeartbeats 4000000 in
theorem gX3_join_100 {p : Program} {l : Launch} {e : Env} {s : State} {m : MethodId} {below : List Frame} {meth : Method} {c : Code} {G : rc_G} {a0 : Nat} {a1 : Int} {a2 : Int} {I : rc_M} {post : Int → rc_M → Prop}  {x4 : Int} (X : rc_X p s m ([.ref a0, .int (rc_o a1), .int (rc_o a2)] : List Value).toArray meth c cX3_join 5 wsX3_join RX3 G (rc_A G)) (hr : meth.sig.returnType = some .int) (T0 : kX3 G a0)   (h : wX3_join_100 G post a0 a1 a2  x4 I) : rc_g p l e rmX3_join s m ([.ref a0, .int (rc_o a1), .int (rc_o a2)] : List Value).toArray below meth c 0 0 (MQ below (rc_QI G post) ([.ref a0, .int (rc_o a1), .int (rc_o a2)] : List Value).toArray s 0 0 (rc_A G)) 5 G (rc_A G) 100 [(0, .ref a0), (1, .int (rc_o a1)), (2, .int (rc_o a2)), (4, .int (rc_o x4))] [] I := by
  unfold wX3_join_100 at h
  refine rc_aload_n X dX3_join_100 rfl 0 rfl ?_
  refine gfX3_frames X T0.1 nX3_join_X3 qX3_join_4 dX3_join_101 ?_
  refine rc_iload X dX3_join_104 3 rfl ?_
  refine rc_iload_n X dX3_join_106 rfl 1 rfl ?_
  obtain ⟨c11, h⟩ := h
  refine rc_iast X T0.2.1 (by decide) dX3_join_107 c11 (fun I12 e12 => ?_)
  have h := h I12 e12
  refine rc_aload_n X dX3_join_108 rfl 0 rfl ?_
  refine gfX3_strengths X T0.1 nX3_join_X3 qX3_join_1 dX3_join_109 ?_
  refine rc_iload X dX3_join_112 3 rfl ?_
  refine rc_iload_n X dX3_join_114 rfl 2 rfl ?_
  obtain ⟨c13, h⟩ := h
  refine rc_iast X T0.2.2 (by decide) dX3_join_115 c13 (fun I14 e14 => ?_)
  have h := h I14 e14
  refine rc_aload_n X dX3_join_116 rfl 0 rfl ?_
  refine rc_dup X dX3_join_117 rfl ?_
  refine gfX3_spliceCount X T0.1 nX3_join_X3 qX3_join_2 dX3_join_118 ?_
  refine rc_iconst X dX3_join_121 ?_
  refine rc_iadd X dX3_join_122 ?_
  refine pfX3_spliceCount X T0.1 nX3_join_X3 qX3_join_2 dX3_join_123 (fun I15 e15 => ?_)
  have h := h I15 e15
  refine rc_aload_n X dX3_join_126 rfl 0 rfl ?_
  refine gfX3_spliceCount X T0.1 nX3_join_X3 qX3_join_2 dX3_join_127 ?_
  exact rc_iret X hr dX3_join_130 h
def wX3_join_44 (G : rc_G) (post : Int → rc_M → Prop) (a0 : Nat) (a1 : Int) (a2 : Int) (k44 : Int → rc_M → Prop) (x4 : Int) (I : rc_M) : Prop :=
  rc_R x4 ∧ ((x4 ≤ 0 → wX3_join_100 G post a0 a1 a2  x4 I) ∧ (¬ x4 ≤ 0 → (0 ≤ x4 - 1 ∧ x4 - 1 < 6) ∧ (rc_R (I (a0 + 1) (x4 - 1)) ∧ (rc_R a1 ∧ (((I (a0 + 1) (x4 - 1)) ≤ a1 → wX3_join_100 G post a0 a1 a2  x4 I) ∧ (¬ (I (a0 + 1) (x4 - 1)) ≤ a1 → (0 ≤ x4 - 1 ∧ x4 - 1 < 6) ∧ ((0 ≤ x4 ∧ x4 < 6) ∧ (∀ I22, I22 = rc_s I (a0 + 1) x4 (I (a0 + 1) (x4 - 1)) → (0 ≤ x4 - 1 ∧ x4 - 1 < 6) ∧ ((0 ≤ x4 ∧ x4 < 6) ∧ (∀ I25, I25 = rc_s I22 (a0 + 2) x4 (I22 (a0 + 2) (x4 - 1)) → k44 (x4 + (-1)) I25))))))))))
set_option maxRecDepth 100000 in
set_option maxHeartbeats 4000000 in
theorem gX3_join_44 {p : Program} {l : Launch} {e : Env} {s : State} {m : MethodId} {below : List Frame} {meth : Method} {c : Code} {G : rc_G} {a0 : Nat} {a1 : Int} {a2 : Int} {I : rc_M} {post : Int → rc_M → Prop} {k44 : Int → rc_M → Prop} {x4 : Int} (X : rc_X p s m ([.ref a0, .int (rc_o a1), .int (rc_o a2)] : List Value).toArray meth c cX3_join 5 wsX3_join RX3 G (rc_A G)) (hr : meth.sig.returnType = some .int) (T0 : kX3 G a0) (hk44 : ∀ (x4 : Int) (J : rc_M), k44 x4 J → rc_g p l e rmX3_join s m ([.ref a0, .int (rc_o a1), .int (rc_o a2)] : List Value).toArray below meth c 0 0 (MQ below (rc_QI G post) ([.ref a0, .int (rc_o a1), .int (rc_o a2)] : List Value).toArray s 0 0 (rc_A G)) 5 G (rc_A G) 44 [(0, .ref a0), (1, .int (rc_o a1)), (2, .int (rc_o a2)), (4, .int (rc_o x4))] [] J)  (h : wX3_join_44 G post a0 a1 a2 k44 x4 I) : rc_g p l e rmX3_join s m ([.ref a0, .int (rc_o a1), .int (rc_o a2)] : List Value).toArray below meth c 0 0 (MQ below (rc_QI G post) ([.ref a0, .int (rc_o a1), .int (rc_o a2)] : List Value).toArray s 0 0 (rc_A G)) 5 G (rc_A G) 44 [(0, .ref a0), (1, .int (rc_o a1)), (2, .int (rc_o a2)), (4, .int (rc_o x4))] [] I := by
  unfold wX3_join_44 at h
  refine rc_iload X dX3_join_44 3 rfl ?_
  obtain ⟨c9, h⟩ := h
  refine rc_if_le X 100 dX3_join_46 (by decide) c9 (fun c10 => ?_) (fun c10 => ?_)
  · have h := h.1 c10
    refine rc_subl [(0, .ref a0), (1, .int (rc_o a1)), (2, .int (rc_o a2)), (4, .int (rc_o x4))] [0, 1, 2, 3] rfl ?_
    exact gX3_join_100 X hr T0   h
  · have h := h.2 c10
    refine rc_aload_n X dX3_join_49 rfl 0 rfl ?_
    refine gfX3_frames X T0.1 nX3_join_X3 qX3_join_4 dX3_join_50 ?_
    refine rc_iload X dX3_join_53 3 rfl ?_
    refine rc_iconst X dX3_join_55 ?_
    refine rc_isub X dX3_join_56 ?_
    obtain ⟨c16, h⟩ := h
    refine rc_iald X T0.2.1 (by decide) dX3_join_57 c16 ?_
    refine rc_iload_n X dX3_join_58 rfl 1 rfl ?_
    obtain ⟨c17, h⟩ := h
    obtain ⟨c18, h⟩ := h
    refine rc_ic_le X 100 dX3_join_59 (by decide) c17 c18 (fun c19 => ?_) (fun c19 => ?_)
    · have h := h.1 c19
      refine rc_subl [(0, .ref a0), (1, .int (rc_o a1)), (2, .int (rc_o a2)), (4, .int (rc_o x4))] [0, 1, 2, 3] rfl ?_
      exact gX3_join_100 X hr T0   h
    · have h := h.2 c19
      refine rc_aload_n X dX3_join_62 rfl 0 rfl ?_
      refine gfX3_frames X T0.1 nX3_join_X3 qX3_join_4 dX3_join_63 ?_
      refine rc_iload X dX3_join_66 3 rfl ?_
      refine rc_aload_n X dX3_join_68 rfl 0 rfl ?_
      refine gfX3_frames X T0.1 nX3_join_X3 qX3_join_4 dX3_join_69 ?_
      refine rc_iload X dX3_join_72 3 rfl ?_
      refine rc_iconst X dX3_join_74 ?_
      refine rc_isub X dX3_join_75 ?_
      obtain ⟨c20, h⟩ := h
      refine rc_iald X T0.2.1 (by decide) dX3_join_76 c20 ?_
      obtain ⟨c21, h⟩ := h
      refine rc_iast X T0.2.1 (by decide) dX3_join_77 c21 (fun I22 e22 => ?_)
      have h := h I22 e22
      refine rc_aload_n X dX3_join_78 rfl 0 rfl ?_
      refine gfX3_strengths X T0.1 nX3_join_X3 qX3_join_1 dX3_join_79 ?_
      refine rc_iload X dX3_join_82 3 rfl ?_
      refine rc_aload_n X dX3_join_84 rfl 0 rfl ?_
      refine gfX3_strengths X T0.1 nX3_join_X3 qX3_join_1 dX3_join_85 ?_
      refine rc_iload X dX3_join_88 3 rfl ?_
      refine rc_iconst X dX3_join_90 ?_
      refine rc_isub X dX3_join_91 ?_
      obtain ⟨c23, h⟩ := h
      refine rc_iald X T0.2.2 (by decide) dX3_join_92 c23 ?_
      obtain ⟨c24, h⟩ := h
      refine rc_iast X T0.2.2 (by decide) dX3_join_93 c24 (fun I25 e25 => ?_)
      have h := h I25 e25
      refine rc_iinc X [(4, .int (rc_o (x4 + (-1)))), (0, .ref a0), (1, .int (rc_o a1)), (2, .int (rc_o a2))] dX3_join_94 3 rfl (by decide) rfl ?_
      refine rc_goto X 44 dX3_join_97 (by decide) ?_
      refine rc_subl [(0, .ref a0), (1, .int (rc_o a1)), (2, .int (rc_o a2)), (4, .int (rc_o (x4 + (-1))))] [1, 2, 3, 0] rfl ?_
      exact hk44 _ _ h
noncomputable def rX3_join_44 (G : rc_G) (post : Int → rc_M → Prop) (a0 : Nat) (a1 : Int) (a2 : Int)  (n : Nat) : Int → rc_M → Prop :=
  Nat.rec (motive := fun _ => Int → rc_M → Prop) (fun _ _ => False) (fun _ ih => wX3_join_44 G post a0 a1 a2  ih) n
set_option maxRecDepth 100000 in
set_option maxHeartbeats 4000000 in
theorem sX3_join_44 {p : Program} {l : Launch} {e : Env} {s : State} {m : MethodId} {below : List Frame} {meth : Method} {c : Code} {G : rc_G} {a0 : Nat} {a1 : Int} {a2 : Int} {I : rc_M} {post : Int → rc_M → Prop}  {n : Nat} {x4 : Int} (X : rc_X p s m ([.ref a0, .int (rc_o a1), .int (rc_o a2)] : List Value).toArray meth c cX3_join 5 wsX3_join RX3 G (rc_A G)) (hr : meth.sig.returnType = some .int) (T0 : kX3 G a0)  (h : rX3_join_44 G post a0 a1 a2  n x4 I) : rc_g p l e rmX3_join s m ([.ref a0, .int (rc_o a1), .int (rc_o a2)] : List Value).toArray below meth c 0 0 (MQ below (rc_QI G post) ([.ref a0, .int (rc_o a1), .int (rc_o a2)] : List Value).toArray s 0 0 (rc_A G)) 5 G (rc_A G) 44 [(0, .ref a0), (1, .int (rc_o a1)), (2, .int (rc_o a2)), (4, .int (rc_o x4))] [] I := by
  induction n generalizing x4 I with
  | zero => exact h.elim
  | succ n ih => exact gX3_join_44 (k44 := rX3_join_44 G post a0 a1 a2  n) X hr T0  (fun x4 J h2 => ih h2) h
def wX3_join (G : rc_G) (a0 : Nat) (a1 : Int) (a2 : Int) (I : rc_M) (post : Int → rc_M → Prop) : Prop :=
  wX3_spliceOfFrame G a0 a1 I (fun r2 I1 => wX3_hasSplice G a0 r2 I1 (fun r4 I3 => rc_R r4 ∧ ((r4 = 0 → rc_R (I3 a0 1) ∧ (((I3 a0 1) < 6 → ∃ n, rX3_join_44 G post a0 a1 a2  n (I3 a0 1) I3) ∧ (¬ (I3 a0 1) < 6 → post (-100004) I3))) ∧ (¬ r4 = 0 → (0 ≤ r2 ∧ r2 < 6) ∧ (∀ I27, I27 = rc_s I3 (a0 + 2) r2 a2 → post (I27 a0 1) I27)))))
set_option maxRecDepth 100000 in
set_option maxHeartbeats 4000000 in
theorem gX3_join_0 {p : Program} {l : Launch} {e : Env} {s : State} {m : MethodId} {below : List Frame} {meth : Method} {c : Code} {G : rc_G} {a0 : Nat} {a1 : Int} {a2 : Int} {I : rc_M} {post : Int → rc_M → Prop}  (X : rc_X p s m ([.ref a0, .int (rc_o a1), .int (rc_o a2)] : List Value).toArray meth c cX3_join 5 wsX3_join RX3 G (rc_A G)) (hr : meth.sig.returnType = some .int) (T0 : kX3 G a0)  (h : wX3_join G a0 a1 a2 I post) : rc_g p l e rmX3_join s m ([.ref a0, .int (rc_o a1), .int (rc_o a2)] : List Value).toArray below meth c 0 0 (MQ below (rc_QI G post) ([.ref a0, .int (rc_o a1), .int (rc_o a2)] : List Value).toArray s 0 0 (rc_A G)) 5 G (rc_A G) 0 [(0, .ref a0), (1, .int (rc_o a1)), (2, .int (rc_o a2))] [] I := by
  unfold wX3_join at h
  refine rc_aload_n X dX3_join_0 rfl 0 rfl ?_
  refine rc_iload_n X dX3_join_1 rfl 1 rfl ?_
  refine rc_cVI (rest := []) X (mX3_spliceOfFrame T0 h) gX3_join_X3_spliceOfFrame rfl ⟨rfl, rfl⟩ dyX3_spliceOfFrame ⟨Nat.le_of_ble_eq_true rfl, Nat.le_of_ble_eq_true rfl⟩ (rc_recv X T0.1 rfl) rfl rfl (Nat.le_of_ble_eq_true rfl) dX3_join_2 ⟨Nat.zero_le _, Nat.zero_le _⟩ (fun r2 I1 h => ?_)
  refine rc_istore_n X [(3, .int (rc_o r2)), (0, .ref a0), (1, .int (rc_o a1)), (2, .int (rc_o a2))] dX3_join_5 rfl (by decide) rfl ?_
  refine rc_aload_n X dX3_join_6 rfl 1 rfl ?_
  refine rc_iload_n X dX3_join_7 rfl 0 rfl ?_
  refine rc_cVI (rest := []) X (mX3_hasSplice T0 h) gX3_join_X3_hasSplice rfl ⟨rfl, rfl⟩ dyX3_hasSplice ⟨Nat.le_of_ble_eq_true rfl, Nat.le_of_ble_eq_true rfl⟩ (rc_recv X T0.1 rfl) rfl rfl (Nat.le_of_ble_eq_true rfl) dX3_join_8 ⟨Nat.zero_le _, Nat.zero_le _⟩ (fun r4 I3 h => ?_)
  obtain ⟨c5, h⟩ := h
  refine rc_if_eq X 26 dX3_join_11 (by decide) c5 (fun c6 => ?_) (fun c6 => ?_)
  · have h := h.1 c6
    refine rc_aload_n X dX3_join_26 rfl 1 rfl ?_
    refine gfX3_spliceCount X T0.1 nX3_join_X3 qX3_join_2 dX3_join_27 ?_
    refine rc_bipush X dX3_join_30 (rc_b8 _ ⟨by decide, by decide⟩) ?_
    obtain ⟨c7, h⟩ := h
    refine rc_ic_lt X 38 dX3_join_32 (by decide) c7 ⟨by decide, by decide⟩ (fun c8 => ?_) (fun c8 => ?_)
    · have h := h.1 c8
      refine rc_aload_n X dX3_join_38 rfl 1 rfl ?_
      refine gfX3_spliceCount X T0.1 nX3_join_X3 qX3_join_2 dX3_join_39 ?_
      refine rc_istore X [(4, .int (rc_o (I3 a0 1))), (3, .int (rc_o r2)), (0, .ref a0), (1, .int (rc_o a1)), (2, .int (rc_o a2))] dX3_join_42 (by decide) rfl ?_
      refine rc_subl [(0, .ref a0), (1, .int (rc_o a1)), (2, .int (rc_o a2)), (4, .int (rc_o (I3 a0 1)))] [2, 3, 4, 0] rfl ?_
      obtain ⟨n, h⟩ := h
      exact sX3_join_44 X hr T0  h
    · have h := h.2 c8
      refine rc_ldc (n := (-100004)) X qX3_join_3 (by decide +kernel) dX3_join_35 ?_
      exact rc_iret X hr dX3_join_37 h
  · have h := h.2 c6
    refine rc_aload_n X dX3_join_14 rfl 1 rfl ?_
    refine gfX3_strengths X T0.1 nX3_join_X3 qX3_join_1 dX3_join_15 ?_
    refine rc_iload_n X dX3_join_18 rfl 0 rfl ?_
    refine rc_iload_n X dX3_join_19 rfl 3 rfl ?_
    obtain ⟨c26, h⟩ := h
    refine rc_iast X T0.2.2 (by decide) dX3_join_20 c26 (fun I27 e27 => ?_)
    have h := h I27 e27
    refine rc_aload_n X dX3_join_21 rfl 1 rfl ?_
    refine gfX3_spliceCount X T0.1 nX3_join_X3 qX3_join_2 dX3_join_22 ?_
    exact rc_iret X hr dX3_join_25 h
theorem mX3_join {l : Launch} {G : rc_G} {a0 : Nat} {a1 : Int} {a2 : Int} {I : rc_M} {post : Int → rc_M → Prop} (T0 : kX3 G a0) (h : wX3_join G a0 a1 a2 I post) : rc_CI l yX3_join wsX3_join rmX3_join G [.ref a0, .int (rc_o a1), .int (rc_o a2)] I post :=
  rc_body (by decide +kernel) rfl rfl (Nat.le_of_ble_eq_true rfl) rfl (fun p e s m below meth c X hr => gX3_join_0 X hr T0 h)
/-! X3_removeWeaker -/
abbrev rmX3_removeWeaker : Room := { frames := 0, cells := 0, slots := 0, locals := 0 }
theorem dyX3_removeWeaker : yX3_removeWeaker.cls = RX3 ∧ yX3_removeWeaker.cls ≠ "java/lang/invoke/MethodHandle" ∧ yX3_removeWeaker.cls ≠ "java/lang/invoke/VarHandle" ∧ (parseMethodDescriptor yX3_removeWeaker.desc).map (fun d => d.parameters.length) = some 1 := ⟨rfl, by decide +kernel, by decide +kernel, by decide +kernel⟩
theorem qX3_removeWeaker_1 : Cond.fieldLink RX3 22 "ReelChanger$Reel" "spliceCount" "I" ∈ wsX3_removeWeaker := List.mem_of_getElem? (i := 1) (by decide +kernel)
theorem nX3_removeWeaker_X3 : ∀ w ∈ wsX30, w ∈ wsX3_removeWeaker := fun w h => List.mem_cons_of_mem _ (List.mem_append_right _ (h))
theorem qX3_removeWeaker_2 : Cond.fieldLink RX3 15 "ReelChanger$Reel" "strengths" "[I" ∈ wsX3_removeWeaker := List.mem_of_getElem? (i := 2) (by decide +kernel)
theorem qX3_removeWeaker_3 : Cond.fieldLink RX3 11 "ReelChanger$Reel" "frames" "[I" ∈ wsX3_removeWeaker := List.mem_of_getElem? (i := 3) (by decide +kernel)
def wX3_removeWeaker_72 (G : rc_G) (post : Int → rc_M → Prop) (a0 : Nat) (a1 : Int)  (x2 : Int) (x3 : Int) (I : rc_M) : Prop :=
  ∀ I4, I4 = rc_s I a0 1 x3 → post (x2 - x3) I4
set_option maxRecDepth 100000 in
set_option maxHeartbeats 4000000 in
theorem gX3_removeWeaker_72 {p : Program} {l : Launch} {e : Env} {s : State} {m : MethodId} {below : List Frame} {meth : Method} {c : Code} {G : rc_G} {a0 : Nat} {a1 : Int} {I : rc_M} {post : Int → rc_M → Prop}  {x2 : Int} {x3 : Int} (X : rc_X p s m ([.ref a0, .int (rc_o a1)] : List Value).toArray meth c cX3_removeWeaker 5 wsX3_removeWeaker RX3 G (rc_A G)) (hr : meth.sig.returnType = some .int) (T0 : kX3 G a0)   (h : wX3_removeWeaker_72 G post a0 a1  x2 x3 I) : rc_g p l e rmX3_removeWeaker s m ([.ref a0, .int (rc_o a1)] : List Value).toArray below meth c 0 0 (MQ below (rc_QI G post) ([.ref a0, .int (rc_o a1)] : List Value).toArray s 0 0 (rc_A G)) 5 G (rc_A G) 72 [(0, .ref a0), (2, .int (rc_o x2)), (3, .int (rc_o x3))] [] I := by
  unfold wX3_removeWeaker_72 at h
  refine rc_aload_n X dX3_removeWeaker_72 rfl 0 rfl ?_
  refine rc_iload_n X dX3_removeWeaker_73 rfl 2 rfl ?_
  refine pfX3_spliceCount X T0.1 nX3_removeWeaker_X3 qX3_removeWeaker_1 dX3_removeWeaker_74 (fun I4 e4 => ?_)
  have h := h I4 e4
  refine rc_iload_n X dX3_removeWeaker_77 rfl 1 rfl ?_
  refine rc_iload_n X dX3_removeWeaker_78 rfl 2 rfl ?_
  refine rc_isub X dX3_removeWeaker_79 ?_
  exact rc_iret X hr dX3_removeWeaker_80 h
def wX3_removeWeaker_66 (G : rc_G) (post : Int → rc_M → Prop) (a0 : Nat) (a1 : Int) (k10 : Int → Int → Int → rc_M → Prop) (x2 : Int) (x3 : Int) (x4 : Int) (I : rc_M) : Prop :=
  k10 x2 x3 (x4 + 1) I
set_option maxRecDepth 100000 in
set_option maxHeartbeats 4000000 in
theorem gX3_removeWeaker_66 {p : Program} {l : Launch} {e : Env} {s : State} {m : MethodId} {below : List Frame} {meth : Method} {c : Code} {G : rc_G} {a0 : Nat} {a1 : Int} {I : rc_M} {post : Int → rc_M → Prop} {k10 : Int → Int → Int → rc_M → Prop} {x2 : Int} {x3 : Int} {x4 : Int} (X : rc_X p s m ([.ref a0, .int (rc_o a1)] : List Value).toArray meth c cX3_removeWeaker 5 wsX3_removeWeaker RX3 G (rc_A G)) (hr : meth.sig.returnType = some .int) (T0 : kX3 G a0) (hk10 : ∀ (x2 : Int) (x3 : Int) (x4 : Int) (J : rc_M), k10 x2 x3 x4 J → rc_g p l e rmX3_removeWeaker s m ([.ref a0, .int (rc_o a1)] : List Value).toArray below meth c 0 0 (MQ below (rc_QI G post) ([.ref a0, .int (rc_o a1)] : List Value).toArray s 0 0 (rc_A G)) 5 G (rc_A G) 10 [(0, .ref a0), (1, .int (rc_o a1)), (2, .int (rc_o x2)), (3, .int (rc_o x3)), (4, .int (rc_o x4))] [] J)  (h : wX3_removeWeaker_66 G post a0 a1 k10 x2 x3 x4 I) : rc_g p l e rmX3_removeWeaker s m ([.ref a0, .int (rc_o a1)] : List Value).toArray below meth c 0 0 (MQ below (rc_QI G post) ([.ref a0, .int (rc_o a1)] : List Value).toArray s 0 0 (rc_A G)) 5 G (rc_A G) 66 [(0, .ref a0), (1, .int (rc_o a1)), (2, .int (rc_o x2)), (3, .int (rc_o x3)), (4, .int (rc_o x4))] [] I := by
  unfold wX3_removeWeaker_66 at h
  refine rc_iinc X [(4, .int (rc_o (x4 + 1))), (0, .ref a0), (1, .int (rc_o a1)), (2, .int (rc_o x2)), (3, .int (rc_o x3))] dX3_removeWeaker_66 4 rfl (by decide) rfl ?_
  refine rc_goto X 10 dX3_removeWeaker_69 (by decide) ?_
  refine rc_subl [(0, .ref a0), (1, .int (rc_o a1)), (2, .int (rc_o x2)), (3, .int (rc_o x3)), (4, .int (rc_o (x4 + 1)))] [1, 2, 3, 4, 0] rfl ?_
  exact hk10 _ _ _ _ h
def wX3_removeWeaker_10 (G : rc_G) (post : Int → rc_M → Prop) (a0 : Nat) (a1 : Int) (k10 : Int → Int → Int → rc_M → Prop) (x2 : Int) (x3 : Int) (x4 : Int) (I : rc_M) : Prop :=
  rc_R x4 ∧ (rc_R (I a0 1) ∧ (((I a0 1) ≤ x4 → wX3_removeWeaker_72 G post a0 a1  x2 x3 I) ∧ (¬ (I a0 1) ≤ x4 → rc_R x4 ∧ ((6 ≤ x4 → wX3_removeWeaker_72 G post a0 a1  x2 x3 I) ∧ (¬ 6 ≤ x4 → (0 ≤ x4 ∧ x4 < 6) ∧ (rc_R (I (a0 + 2) x4) ∧ (rc_R a1 ∧ (((I (a0 + 2) x4) < a1 → wX3_removeWeaker_66 G post a0 a1 k10 x2 x3 x4 I) ∧ (¬ (I (a0 + 2) x4) < a1 → (0 ≤ x4 ∧ x4 < 6) ∧ ((0 ≤ x3 ∧ x3 < 6) ∧ (∀ I13, I13 = rc_s I (a0 + 1) x3 (I (a0 + 1) x4) → (0 ≤ x4 ∧ x4 < 6) ∧ ((0 ≤ x3 ∧ x3 < 6) ∧ (∀ I16, I16 = rc_s I13 (a0 + 2) x3 (I13 (a0 + 2) x4) → wX3_removeWeaker_66 G post a0 a1 k10 x2 (x3 + 1) x4 I16)))))))))))))
set_option maxRecDepth 100000 in
set_option maxHeartbeats 4000000 in
theorem gX3_removeWeaker_10 {p : Program} {l : Launch} {e : Env} {s : State} {m : MethodId} {below : List Frame} {meth : Method} {c : Code} {G : rc_G} {a0 : Nat} {a1 : Int} {I : rc_M} {post : Int → rc_M → Prop} {k10 : Int → Int → Int → rc_M → Prop} {x2 : Int} {x3 : Int} {x4 : Int} (X : rc_X p s m ([.ref a0, .int (rc_o a1)] : List Value).toArray meth c cX3_removeWeaker 5 wsX3_removeWeaker RX3 G (rc_A G)) (hr : meth.sig.returnType = some .int) (T0 : kX3 G a0) (hk10 : ∀ (x2 : Int) (x3 : Int) (x4 : Int) (J : rc_M), k10 x2 x3 x4 J → rc_g p l e rmX3_removeWeaker s m ([.ref a0, .int (rc_o a1)] : List Value).toArray below meth c 0 0 (MQ below (rc_QI G post) ([.ref a0, .int (rc_o a1)] : List Value).toArray s 0 0 (rc_A G)) 5 G (rc_A G) 10 [(0, .ref a0), (1, .int (rc_o a1)), (2, .int (rc_o x2)), (3, .int (rc_o x3)), (4, .int (rc_o x4))] [] J)  (h : wX3_removeWeaker_10 G post a0 a1 k10 x2 x3 x4 I) : rc_g p l e rmX3_removeWeaker s m ([.ref a0, .int (rc_o a1)] : List Value).toArray below meth c 0 0 (MQ below (rc_QI G post) ([.ref a0, .int (rc_o a1)] : List Value).toArray s 0 0 (rc_A G)) 5 G (rc_A G) 10 [(0, .ref a0), (1, .int (rc_o a1)), (2, .int (rc_o x2)), (3, .int (rc_o x3)), (4, .int (rc_o x4))] [] I := by
  unfold wX3_removeWeaker_10 at h
  refine rc_iload X dX3_removeWeaker_10 4 rfl ?_
  refine rc_aload_n X dX3_removeWeaker_12 rfl 0 rfl ?_
  refine gfX3_spliceCount X T0.1 nX3_removeWeaker_X3 qX3_removeWeaker_1 dX3_removeWeaker_13 ?_
  obtain ⟨c1, h⟩ := h
  obtain ⟨c2, h⟩ := h
  refine rc_ic_ge X 72 dX3_removeWeaker_16 (by decide) c1 c2 (fun c3 => ?_) (fun c3 => ?_)
  · have h := h.1 c3
    refine rc_subl [(0, .ref a0), (2, .int (rc_o x2)), (3, .int (rc_o x3))] [0, 2, 3] rfl ?_
    exact gX3_removeWeaker_72 X hr T0   h
  · have h := h.2 c3
    refine rc_iload X dX3_removeWeaker_19 4 rfl ?_
    refine rc_bipush X dX3_removeWeaker_21 (rc_b8 _ ⟨by decide, by decide⟩) ?_
    obtain ⟨c5, h⟩ := h
    refine rc_ic_ge X 72 dX3_removeWeaker_23 (by decide) c5 ⟨by decide, by decide⟩ (fun c6 => ?_) (fun c6 => ?_)
    · have h := h.1 c6
      refine rc_subl [(0, .ref a0), (2, .int (rc_o x2)), (3, .int (rc_o x3))] [0, 2, 3] rfl ?_
      exact gX3_removeWeaker_72 X hr T0   h
    · have h := h.2 c6
      refine rc_aload_n X dX3_removeWeaker_26 rfl 0 rfl ?_
      refine gfX3_strengths X T0.1 nX3_removeWeaker_X3 qX3_removeWeaker_2 dX3_removeWeaker_27 ?_
      refine rc_iload X dX3_removeWeaker_30 4 rfl ?_
      obtain ⟨c7, h⟩ := h
      refine rc_iald X T0.2.2 (by decide) dX3_removeWeaker_32 c7 ?_
      refine rc_iload_n X dX3_removeWeaker_33 rfl 1 rfl ?_
      obtain ⟨c8, h⟩ := h
      obtain ⟨c9, h⟩ := h
      refine rc_ic_lt X 66 dX3_removeWeaker_34 (by decide) c8 c9 (fun c10 => ?_) (fun c10 => ?_)
      · have h := h.1 c10
        refine rc_subl [(0, .ref a0), (1, .int (rc_o a1)), (2, .int (rc_o x2)), (3, .int (rc_o x3)), (4, .int (rc_o x4))] [0, 1, 2, 3, 4] rfl ?_
        exact gX3_removeWeaker_66 X hr T0 hk10  h
      · have h := h.2 c10
        refine rc_aload_n X dX3_removeWeaker_37 rfl 0 rfl ?_
        refine gfX3_frames X T0.1 nX3_removeWeaker_X3 qX3_removeWeaker_3 dX3_removeWeaker_38 ?_
        refine rc_iload_n X dX3_removeWeaker_41 rfl 3 rfl ?_
        refine rc_aload_n X dX3_removeWeaker_42 rfl 0 rfl ?_
        refine gfX3_frames X T0.1 nX3_removeWeaker_X3 qX3_removeWeaker_3 dX3_removeWeaker_43 ?_
        refine rc_iload X dX3_removeWeaker_46 4 rfl ?_
        obtain ⟨c11, h⟩ := h
        refine rc_iald X T0.2.1 (by decide) dX3_removeWeaker_48 c11 ?_
        obtain ⟨c12, h⟩ := h
        refine rc_iast X T0.2.1 (by decide) dX3_removeWeaker_49 c12 (fun I13 e13 => ?_)
        have h := h I13 e13
        refine rc_aload_n X dX3_removeWeaker_50 rfl 0 rfl ?_
        refine gfX3_strengths X T0.1 nX3_removeWeaker_X3 qX3_removeWeaker_2 dX3_removeWeaker_51 ?_
        refine rc_iload_n X dX3_removeWeaker_54 rfl 3 rfl ?_
        refine rc_aload_n X dX3_removeWeaker_55 rfl 0 rfl ?_
        refine gfX3_strengths X T0.1 nX3_removeWeaker_X3 qX3_removeWeaker_2 dX3_removeWeaker_56 ?_
        refine rc_iload X dX3_removeWeaker_59 4 rfl ?_
        obtain ⟨c14, h⟩ := h
        refine rc_iald X T0.2.2 (by decide) dX3_removeWeaker_61 c14 ?_
        obtain ⟨c15, h⟩ := h
        refine rc_iast X T0.2.2 (by decide) dX3_removeWeaker_62 c15 (fun I16 e16 => ?_)
        have h := h I16 e16
        refine rc_iinc X [(3, .int (rc_o (x3 + 1))), (0, .ref a0), (1, .int (rc_o a1)), (2, .int (rc_o x2)), (4, .int (rc_o x4))] dX3_removeWeaker_63 3 rfl (by decide) rfl ?_
        refine rc_subl [(0, .ref a0), (1, .int (rc_o a1)), (2, .int (rc_o x2)), (3, .int (rc_o (x3 + 1))), (4, .int (rc_o x4))] [1, 2, 3, 0, 4] rfl ?_
        exact gX3_removeWeaker_66 X hr T0 hk10  h
noncomputable def rX3_removeWeaker_10 (G : rc_G) (post : Int → rc_M → Prop) (a0 : Nat) (a1 : Int)  (n : Nat) : Int → Int → Int → rc_M → Prop :=
  Nat.rec (motive := fun _ => Int → Int → Int → rc_M → Prop) (fun _ _ _ _ => False) (fun _ ih => wX3_removeWeaker_10 G post a0 a1  ih) n
set_option maxRecDepth 100000 in
set_option maxHeartbeats 4000000 in
theorem sX3_removeWeaker_10 {p : Program} {l : Launch} {e : Env} {s : State} {m : MethodId} {below : List Frame} {meth : Method} {c : Code} {G : rc_G} {a0 : Nat} {a1 : Int} {I : rc_M} {post : Int → rc_M → Prop}  {n : Nat} {x2 : Int} {x3 : Int} {x4 : Int} (X : rc_X p s m ([.ref a0, .int (rc_o a1)] : List Value).toArray meth c cX3_removeWeaker 5 wsX3_removeWeaker RX3 G (rc_A G)) (hr : meth.sig.returnType = some .int) (T0 : kX3 G a0)  (h : rX3_removeWeaker_10 G post a0 a1  n x2 x3 x4 I) : rc_g p l e rmX3_removeWeaker s m ([.ref a0, .int (rc_o a1)] : List Value).toArray below meth c 0 0 (MQ below (rc_QI G post) ([.ref a0, .int (rc_o a1)] : List Value).toArray s 0 0 (rc_A G)) 5 G (rc_A G) 10 [(0, .ref a0), (1, .int (rc_o a1)), (2, .int (rc_o x2)), (3, .int (rc_o x3)), (4, .int (rc_o x4))] [] I := by
  induction n generalizing x2 x3 x4 I with
  | zero => exact h.elim
  | succ n ih => exact gX3_removeWeaker_10 (k10 := rX3_removeWeaker_10 G post a0 a1  n) X hr T0  (fun x2 x3 x4 J h2 => ih h2) h
def wX3_removeWeaker (G : rc_G) (a0 : Nat) (a1 : Int) (I : rc_M) (post : Int → rc_M → Prop) : Prop :=
  ∃ n, rX3_removeWeaker_10 G post a0 a1  n (I a0 1) 0 0 I
set_option maxRecDepth 100000 in
set_option maxHeartbeats 4000000 in
theorem gX3_removeWeaker_0 {p : Program} {l : Launch} {e : Env} {s : State} {m : MethodId} {below : List Frame} {meth : Method} {c : Code} {G : rc_G} {a0 : Nat} {a1 : Int} {I : rc_M} {post : Int → rc_M → Prop}  (X : rc_X p s m ([.ref a0, .int (rc_o a1)] : List Value).toArray meth c cX3_removeWeaker 5 wsX3_removeWeaker RX3 G (rc_A G)) (hr : meth.sig.returnType = some .int) (T0 : kX3 G a0)  (h : wX3_removeWeaker G a0 a1 I post) : rc_g p l e rmX3_removeWeaker s m ([.ref a0, .int (rc_o a1)] : List Value).toArray below meth c 0 0 (MQ below (rc_QI G post) ([.ref a0, .int (rc_o a1)] : List Value).toArray s 0 0 (rc_A G)) 5 G (rc_A G) 0 [(0, .ref a0), (1, .int (rc_o a1))] [] I := by
  unfold wX3_removeWeaker at h
  refine rc_aload_n X dX3_removeWeaker_0 rfl 0 rfl ?_
  refine gfX3_spliceCount X T0.1 nX3_removeWeaker_X3 qX3_removeWeaker_1 dX3_removeWeaker_1 ?_
  refine rc_istore_n X [(2, .int (rc_o (I a0 1))), (0, .ref a0), (1, .int (rc_o a1))] dX3_removeWeaker_4 rfl (by decide) rfl ?_
  refine rc_iconst X dX3_removeWeaker_5 ?_
  refine rc_istore_n X [(3, .int (rc_o 0)), (2, .int (rc_o (I a0 1))), (0, .ref a0), (1, .int (rc_o a1))] dX3_removeWeaker_6 rfl (by decide) rfl ?_
  refine rc_iconst X dX3_removeWeaker_7 ?_
  refine rc_istore X [(4, .int (rc_o 0)), (3, .int (rc_o 0)), (2, .int (rc_o (I a0 1))), (0, .ref a0), (1, .int (rc_o a1))] dX3_removeWeaker_8 (by decide) rfl ?_
  refine rc_subl [(0, .ref a0), (1, .int (rc_o a1)), (2, .int (rc_o (I a0 1))), (3, .int (rc_o 0)), (4, .int (rc_o 0))] [3, 4, 2, 1, 0] rfl ?_
  obtain ⟨n, h⟩ := h
  exact sX3_removeWeaker_10 X hr T0  h
theorem mX3_removeWeaker {l : Launch} {G : rc_G} {a0 : Nat} {a1 : Int} {I : rc_M} {post : Int → rc_M → Prop} (T0 : kX3 G a0) (h : wX3_removeWeaker G a0 a1 I post) : rc_CI l yX3_removeWeaker wsX3_removeWeaker rmX3_removeWeaker G [.ref a0, .int (rc_o a1)] I post :=
  rc_body (by decide +kernel) rfl rfl (Nat.le_of_ble_eq_true rfl) rfl (fun p e s m below meth c X hr => gX3_removeWeaker_0 X hr T0 h)
/-! X3_leastStrength -/
abbrev rmX3_leastStrength : Room := { frames := 0, cells := 0, slots := 0, locals := 0 }
theorem dyX3_leastStrength : yX3_leastStrength.cls = RX3 ∧ yX3_leastStrength.cls ≠ "java/lang/invoke/MethodHandle" ∧ yX3_leastStrength.cls ≠ "java/lang/invoke/VarHandle" ∧ (parseMethodDescriptor yX3_leastStrength.desc).map (fun d => d.parameters.length) = some 0 := ⟨rfl, by decide +kernel, by decide +kernel, by decide +kernel⟩
theorem qX3_leastStrength_1 : Cond.constant RX3 31 (-100005) ∈ wsX3_leastStrength := List.mem_of_getElem? (i := 1) (by decide +kernel)
theorem qX3_leastStrength_2 : Cond.fieldLink RX3 22 "ReelChanger$Reel" "spliceCount" "I" ∈ wsX3_leastStrength := List.mem_of_getElem? (i := 2) (by decide +kernel)
theorem nX3_leastStrength_X3 : ∀ w ∈ wsX30, w ∈ wsX3_leastStrength := fun w h => List.mem_cons_of_mem _ (List.mem_append_right _ (h))
theorem qX3_leastStrength_3 : Cond.fieldLink RX3 15 "ReelChanger$Reel" "strengths" "[I" ∈ wsX3_leastStrength := List.mem_of_getElem? (i := 3) (by decide +kernel)
def wX3_leastStrength_42 (G : rc_G) (post : Int → rc_M → Prop) (a0 : Nat) (k5 : Int → Int → rc_M → Prop) (x1 : Int) (x2 : Int) (I : rc_M) : Prop :=
  k5 x1 (x2 + 1) I
set_option maxRecDepth 100000 in
set_option maxHeartbeats 4000000 in
theorem gX3_leastStrength_42 {p : Program} {l : Launch} {e : Env} {s : State} {m : MethodId} {below : List Frame} {meth : Method} {c : Code} {G : rc_G} {a0 : Nat} {I : rc_M} {post : Int → rc_M → Prop} {k5 : Int → Int → rc_M → Prop} {x1 : Int} {x2 : Int} (X : rc_X p s m ([.ref a0] : List Value).toArray meth c cX3_leastStrength 3 wsX3_leastStrength RX3 G (rc_A G)) (hr : meth.sig.returnType = some .int) (T0 : kX3 G a0) (hk5 : ∀ (x1 : Int) (x2 : Int) (J : rc_M), k5 x1 x2 J → rc_g p l e rmX3_leastStrength s m ([.ref a0] : List Value).toArray below meth c 0 0 (MQ below (rc_QI G post) ([.ref a0] : List Value).toArray s 0 0 (rc_A G)) 3 G (rc_A G) 5 [(0, .ref a0), (1, .int (rc_o x1)), (2, .int (rc_o x2))] [] J)  (h : wX3_leastStrength_42 G post a0 k5 x1 x2 I) : rc_g p l e rmX3_leastStrength s m ([.ref a0] : List Value).toArray below meth c 0 0 (MQ below (rc_QI G post) ([.ref a0] : List Value).toArray s 0 0 (rc_A G)) 3 G (rc_A G) 42 [(0, .ref a0), (1, .int (rc_o x1)), (2, .int (rc_o x2))] [] I := by
  unfold wX3_leastStrength_42 at h
  refine rc_iinc X [(2, .int (rc_o (x2 + 1))), (0, .ref a0), (1, .int (rc_o x1))] dX3_leastStrength_42 2 rfl (by decide) rfl ?_
  refine rc_goto X 5 dX3_leastStrength_45 (by decide) ?_
  refine rc_subl [(0, .ref a0), (1, .int (rc_o x1)), (2, .int (rc_o (x2 + 1)))] [1, 2, 0] rfl ?_
  exact hk5 _ _ _ h
def wX3_leastStrength_35 (G : rc_G) (post : Int → rc_M → Prop) (a0 : Nat) (k5 : Int → Int → rc_M → Prop) (x2 : Int) (I : rc_M) : Prop :=
  (0 ≤ x2 ∧ x2 < 6) ∧ (wX3_leastStrength_42 G post a0 k5 (I (a0 + 2) x2) x2 I)
set_option maxRecDepth 100000 in
set_option maxHeartbeats 4000000 in
theorem gX3_leastStrength_35 {p : Program} {l : Launch} {e : Env} {s : State} {m : MethodId} {below : List Frame} {meth : Method} {c : Code} {G : rc_G} {a0 : Nat} {I : rc_M} {post : Int → rc_M → Prop} {k5 : Int → Int → rc_M → Prop} {x2 : Int} (X : rc_X p s m ([.ref a0] : List Value).toArray meth c cX3_leastStrength 3 wsX3_leastStrength RX3 G (rc_A G)) (hr : meth.sig.returnType = some .int) (T0 : kX3 G a0) (hk5 : ∀ (x1 : Int) (x2 : Int) (J : rc_M), k5 x1 x2 J → rc_g p l e rmX3_leastStrength s m ([.ref a0] : List Value).toArray below meth c 0 0 (MQ below (rc_QI G post) ([.ref a0] : List Value).toArray s 0 0 (rc_A G)) 3 G (rc_A G) 5 [(0, .ref a0), (1, .int (rc_o x1)), (2, .int (rc_o x2))] [] J)  (h : wX3_leastStrength_35 G post a0 k5 x2 I) : rc_g p l e rmX3_leastStrength s m ([.ref a0] : List Value).toArray below meth c 0 0 (MQ below (rc_QI G post) ([.ref a0] : List Value).toArray s 0 0 (rc_A G)) 3 G (rc_A G) 35 [(0, .ref a0), (2, .int (rc_o x2))] [] I := by
  unfold wX3_leastStrength_35 at h
  refine rc_aload_n X dX3_leastStrength_35 rfl 0 rfl ?_
  refine gfX3_strengths X T0.1 nX3_leastStrength_X3 qX3_leastStrength_3 dX3_leastStrength_36 ?_
  refine rc_iload_n X dX3_leastStrength_39 rfl 1 rfl ?_
  obtain ⟨c8, h⟩ := h
  refine rc_iald X T0.2.2 (by decide) dX3_leastStrength_40 c8 ?_
  refine rc_istore_n X [(1, .int (rc_o (I (a0 + 2) x2))), (0, .ref a0), (2, .int (rc_o x2))] dX3_leastStrength_41 rfl (by decide) rfl ?_
  refine rc_subl [(0, .ref a0), (1, .int (rc_o (I (a0 + 2) x2))), (2, .int (rc_o x2))] [1, 0, 2] rfl ?_
  exact gX3_leastStrength_42 X hr T0 hk5  h
def wX3_leastStrength_5 (G : rc_G) (post : Int → rc_M → Prop) (a0 : Nat) (k5 : Int → Int → rc_M → Prop) (x1 : Int) (x2 : Int) (I : rc_M) : Prop :=
  rc_R x2 ∧ (rc_R (I a0 1) ∧ (((I a0 1) ≤ x2 → post x1 I) ∧ (¬ (I a0 1) ≤ x2 → rc_R x2 ∧ ((6 ≤ x2 → post x1 I) ∧ (¬ 6 ≤ x2 → rc_R x1 ∧ ((x1 = (-100005) → wX3_leastStrength_35 G post a0 k5 x2 I) ∧ (¬ x1 = (-100005) → (0 ≤ x2 ∧ x2 < 6) ∧ (rc_R (I (a0 + 2) x2) ∧ (rc_R x1 ∧ ((x1 ≤ (I (a0 + 2) x2) → wX3_leastStrength_42 G post a0 k5 x1 x2 I) ∧ (¬ x1 ≤ (I (a0 + 2) x2) → wX3_leastStrength_35 G post a0 k5 x2 I)))))))))))
set_option maxRecDepth 100000 in
set_option maxHeartbeats 4000000 in
theorem gX3_leastStrength_5 {p : Program} {l : Launch} {e : Env} {s : State} {m : MethodId} {below : List Frame} {meth : Method} {c : Code} {G : rc_G} {a0 : Nat} {I : rc_M} {post : Int → rc_M → Prop} {k5 : Int → Int → rc_M → Prop} {x1 : Int} {x2 : Int} (X : rc_X p s m ([.ref a0] : List Value).toArray meth c cX3_leastStrength 3 wsX3_leastStrength RX3 G (rc_A G)) (hr : meth.sig.returnType = some .int) (T0 : kX3 G a0) (hk5 : ∀ (x1 : Int) (x2 : Int) (J : rc_M), k5 x1 x2 J → rc_g p l e rmX3_leastStrength s m ([.ref a0] : List Value).toArray below meth c 0 0 (MQ below (rc_QI G post) ([.ref a0] : List Value).toArray s 0 0 (rc_A G)) 3 G (rc_A G) 5 [(0, .ref a0), (1, .int (rc_o x1)), (2, .int (rc_o x2))] [] J)  (h : wX3_leastStrength_5 G post a0 k5 x1 x2 I) : rc_g p l e rmX3_leastStrength s m ([.ref a0] : List Value).toArray below meth c 0 0 (MQ below (rc_QI G post) ([.ref a0] : List Value).toArray s 0 0 (rc_A G)) 3 G (rc_A G) 5 [(0, .ref a0), (1, .int (rc_o x1)), (2, .int (rc_o x2))] [] I := by
  unfold wX3_leastStrength_5 at h
  refine rc_iload_n X dX3_leastStrength_5 rfl 2 rfl ?_
  refine rc_aload_n X dX3_leastStrength_6 rfl 0 rfl ?_
  refine gfX3_spliceCount X T0.1 nX3_leastStrength_X3 qX3_leastStrength_2 dX3_leastStrength_7 ?_
  obtain ⟨c1, h⟩ := h
  obtain ⟨c2, h⟩ := h
  refine rc_ic_ge X 48 dX3_leastStrength_10 (by decide) c1 c2 (fun c3 => ?_) (fun c3 => ?_)
  · have h := h.1 c3
    refine rc_iload_n X dX3_leastStrength_48 rfl 1 rfl ?_
    exact rc_iret X hr dX3_leastStrength_49 h
  · have h := h.2 c3
    refine rc_iload_n X dX3_leastStrength_13 rfl 2 rfl ?_
    refine rc_bipush X dX3_leastStrength_14 (rc_b8 _ ⟨by decide, by decide⟩) ?_
    obtain ⟨c4, h⟩ := h
    refine rc_ic_ge X 48 dX3_leastStrength_16 (by decide) c4 ⟨by decide, by decide⟩ (fun c5 => ?_) (fun c5 => ?_)
    · have h := h.1 c5
      refine rc_iload_n X dX3_leastStrength_48 rfl 1 rfl ?_
      exact rc_iret X hr dX3_leastStrength_49 h
    · have h := h.2 c5
      refine rc_iload_n X dX3_leastStrength_19 rfl 1 rfl ?_
      refine rc_ldc (n := (-100005)) X qX3_leastStrength_1 (by decide +kernel) dX3_leastStrength_20 ?_
      obtain ⟨c6, h⟩ := h
      refine rc_ic_eq X 35 dX3_leastStrength_22 (by decide) c6 ⟨by decide, by decide⟩ (fun c7 => ?_) (fun c7 => ?_)
      · have h := h.1 c7
        refine rc_subl [(0, .ref a0), (2, .int (rc_o x2))] [0, 2] rfl ?_
        exact gX3_leastStrength_35 X hr T0 hk5  h
      · have h := h.2 c7
        refine rc_aload_n X dX3_leastStrength_25 rfl 0 rfl ?_
        refine gfX3_strengths X T0.1 nX3_leastStrength_X3 qX3_leastStrength_3 dX3_leastStrength_26 ?_
        refine rc_iload_n X dX3_leastStrength_29 rfl 2 rfl ?_
        obtain ⟨c9, h⟩ := h
        refine rc_iald X T0.2.2 (by decide) dX3_leastStrength_30 c9 ?_
        refine rc_iload_n X dX3_leastStrength_31 rfl 1 rfl ?_
        obtain ⟨c10, h⟩ := h
        obtain ⟨c11, h⟩ := h
        refine rc_ic_ge X 42 dX3_leastStrength_32 (by decide) c10 c11 (fun c12 => ?_) (fun c12 => ?_)
        · have h := h.1 c12
          refine rc_subl [(0, .ref a0), (1, .int (rc_o x1)), (2, .int (rc_o x2))] [0, 1, 2] rfl ?_
          exact gX3_leastStrength_42 X hr T0 hk5  h
        · have h := h.2 c12
          refine rc_subl [(0, .ref a0), (2, .int (rc_o x2))] [0, 2] rfl ?_
          exact gX3_leastStrength_35 X hr T0 hk5  h
noncomputable def rX3_leastStrength_5 (G : rc_G) (post : Int → rc_M → Prop) (a0 : Nat)  (n : Nat) : Int → Int → rc_M → Prop :=
  Nat.rec (motive := fun _ => Int → Int → rc_M → Prop) (fun _ _ _ => False) (fun _ ih => wX3_leastStrength_5 G post a0  ih) n
set_option maxRecDepth 100000 in
set_option maxHeartbeats 4000000 in
theorem sX3_leastStrength_5 {p : Program} {l : Launch} {e : Env} {s : State} {m : MethodId} {below : List Frame} {meth : Method} {c : Code} {G : rc_G} {a0 : Nat} {I : rc_M} {post : Int → rc_M → Prop}  {n : Nat} {x1 : Int} {x2 : Int} (X : rc_X p s m ([.ref a0] : List Value).toArray meth c cX3_leastStrength 3 wsX3_leastStrength RX3 G (rc_A G)) (hr : meth.sig.returnType = some .int) (T0 : kX3 G a0)  (h : rX3_leastStrength_5 G post a0  n x1 x2 I) : rc_g p l e rmX3_leastStrength s m ([.ref a0] : List Value).toArray below meth c 0 0 (MQ below (rc_QI G post) ([.ref a0] : List Value).toArray s 0 0 (rc_A G)) 3 G (rc_A G) 5 [(0, .ref a0), (1, .int (rc_o x1)), (2, .int (rc_o x2))] [] I := by
  induction n generalizing x1 x2 I with
  | zero => exact h.elim
  | succ n ih => exact gX3_leastStrength_5 (k5 := rX3_leastStrength_5 G post a0  n) X hr T0  (fun x1 x2 J h2 => ih h2) h
def wX3_leastStrength (G : rc_G) (a0 : Nat) (I : rc_M) (post : Int → rc_M → Prop) : Prop :=
  ∃ n, rX3_leastStrength_5 G post a0  n (-100005) 0 I
set_option maxRecDepth 100000 in
set_option maxHeartbeats 4000000 in
theorem gX3_leastStrength_0 {p : Program} {l : Launch} {e : Env} {s : State} {m : MethodId} {below : List Frame} {meth : Method} {c : Code} {G : rc_G} {a0 : Nat} {I : rc_M} {post : Int → rc_M → Prop}  (X : rc_X p s m ([.ref a0] : List Value).toArray meth c cX3_leastStrength 3 wsX3_leastStrength RX3 G (rc_A G)) (hr : meth.sig.returnType = some .int) (T0 : kX3 G a0)  (h : wX3_leastStrength G a0 I post) : rc_g p l e rmX3_leastStrength s m ([.ref a0] : List Value).toArray below meth c 0 0 (MQ below (rc_QI G post) ([.ref a0] : List Value).toArray s 0 0 (rc_A G)) 3 G (rc_A G) 0 [(0, .ref a0)] [] I := by
  unfold wX3_leastStrength at h
  refine rc_ldc (n := (-100005)) X qX3_leastStrength_1 (by decide +kernel) dX3_leastStrength_0 ?_
  refine rc_istore_n X [(1, .int (rc_o (-100005))), (0, .ref a0)] dX3_leastStrength_2 rfl (by decide) rfl ?_
  refine rc_iconst X dX3_leastStrength_3 ?_
  refine rc_istore_n X [(2, .int (rc_o 0)), (1, .int (rc_o (-100005))), (0, .ref a0)] dX3_leastStrength_4 rfl (by decide) rfl ?_
  refine rc_subl [(0, .ref a0), (1, .int (rc_o (-100005))), (2, .int (rc_o 0))] [2, 1, 0] rfl ?_
  obtain ⟨n, h⟩ := h
  exact sX3_leastStrength_5 X hr T0  h
theorem mX3_leastStrength {l : Launch} {G : rc_G} {a0 : Nat} {I : rc_M} {post : Int → rc_M → Prop} (T0 : kX3 G a0) (h : wX3_leastStrength G a0 I post) : rc_CI l yX3_leastStrength wsX3_leastStrength rmX3_leastStrength G [.ref a0] I post :=
  rc_body (by decide +kernel) rfl rfl (Nat.le_of_ble_eq_true rfl) rfl (fun p e s m below meth c X hr => gX3_leastStrength_0 X hr T0 h)
/-! X3_repairAt -/
abbrev rmX3_repairAt : Room := { frames := 1, cells := 0, slots := 0, locals := 22 }
theorem dyX3_repairAt : yX3_repairAt.cls = RX3 ∧ yX3_repairAt.cls ≠ "java/lang/invoke/MethodHandle" ∧ yX3_repairAt.cls ≠ "java/lang/invoke/VarHandle" ∧ (parseMethodDescriptor yX3_repairAt.desc).map (fun d => d.parameters.length) = some 1 := ⟨rfl, by decide +kernel, by decide +kernel, by decide +kernel⟩
theorem qX3_repairAt_1 : Cond.fieldLink RX3 15 "ReelChanger$Reel" "strengths" "[I" ∈ wsX3_repairAt := List.mem_of_getElem? (i := 1) (by decide +kernel)
theorem nX3_repairAt_X3 : ∀ w ∈ wsX30, w ∈ wsX3_repairAt := fun w h => List.mem_cons_of_mem _ (List.mem_append_right _ (h))
def wX3_repairAt (G : rc_G) (a0 : Nat) (a1 : Int) (I : rc_M) (post : rc_M → Prop) : Prop :=
  wX3_spliceOfFrame G a0 a1 I (fun r2 I1 => wX3_hasSplice G a0 r2 I1 (fun r4 I3 => rc_R r4 ∧ ((r4 = 0 → post I3) ∧ (¬ r4 = 0 → (0 ≤ r2 ∧ r2 < 6) ∧ (∀ I8, I8 = rc_s I3 (a0 + 2) r2 9 → post I8)))))
set_option maxRecDepth 100000 in
set_option maxHeartbeats 4000000 in
theorem gX3_repairAt_0 {p : Program} {l : Launch} {e : Env} {s : State} {m : MethodId} {below : List Frame} {meth : Method} {c : Code} {G : rc_G} {a0 : Nat} {a1 : Int} {I : rc_M} {post : rc_M → Prop}  (X : rc_X p s m ([.ref a0, .int (rc_o a1)] : List Value).toArray meth c cX3_repairAt 3 wsX3_repairAt RX3 G (rc_A G)) (hr : meth.sig.returnType = none) (T0 : kX3 G a0)  (h : wX3_repairAt G a0 a1 I post) : rc_g p l e rmX3_repairAt s m ([.ref a0, .int (rc_o a1)] : List Value).toArray below meth c 0 0 (MQ below (rc_QV G post) ([.ref a0, .int (rc_o a1)] : List Value).toArray s 0 0 (rc_A G)) 3 G (rc_A G) 0 [(0, .ref a0), (1, .int (rc_o a1))] [] I := by
  unfold wX3_repairAt at h
  refine rc_aload_n X dX3_repairAt_0 rfl 0 rfl ?_
  refine rc_iload_n X dX3_repairAt_1 rfl 1 rfl ?_
  refine rc_cVI (rest := []) X (mX3_spliceOfFrame T0 h) gX3_repairAt_X3_spliceOfFrame rfl ⟨rfl, rfl⟩ dyX3_spliceOfFrame ⟨Nat.le_of_ble_eq_true rfl, Nat.le_of_ble_eq_true rfl⟩ (rc_recv X T0.1 rfl) rfl rfl (Nat.le_of_ble_eq_true rfl) dX3_repairAt_2 ⟨Nat.zero_le _, Nat.zero_le _⟩ (fun r2 I1 h => ?_)
  refine rc_istore_n X [(2, .int (rc_o r2)), (0, .ref a0), (1, .int (rc_o a1))] dX3_repairAt_5 rfl (by decide) rfl ?_
  refine rc_aload_n X dX3_repairAt_6 rfl 1 rfl ?_
  refine rc_iload_n X dX3_repairAt_7 rfl 0 rfl ?_
  refine rc_cVI (rest := []) X (mX3_hasSplice T0 h) gX3_repairAt_X3_hasSplice rfl ⟨rfl, rfl⟩ dyX3_hasSplice ⟨Nat.le_of_ble_eq_true rfl, Nat.le_of_ble_eq_true rfl⟩ (rc_recv X T0.1 rfl) rfl rfl (Nat.le_of_ble_eq_true rfl) dX3_repairAt_8 ⟨Nat.zero_le _, Nat.zero_le _⟩ (fun r4 I3 h => ?_)
  obtain ⟨c5, h⟩ := h
  refine rc_if_eq X 22 dX3_repairAt_11 (by decide) c5 (fun c6 => ?_) (fun c6 => ?_)
  · have h := h.1 c6
    exact rc_vret X hr dX3_repairAt_22 h
  · have h := h.2 c6
    refine rc_aload_n X dX3_repairAt_14 rfl 1 rfl ?_
    refine gfX3_strengths X T0.1 nX3_repairAt_X3 qX3_repairAt_1 dX3_repairAt_15 ?_
    refine rc_iload_n X dX3_repairAt_18 rfl 0 rfl ?_
    refine rc_bipush X dX3_repairAt_19 (rc_b8 _ ⟨by decide, by decide⟩) ?_
    obtain ⟨c7, h⟩ := h
    refine rc_iast X T0.2.2 (by decide) dX3_repairAt_21 c7 (fun I8 e8 => ?_)
    have h := h I8 e8
    exact rc_vret X hr dX3_repairAt_22 h
theorem mX3_repairAt {l : Launch} {G : rc_G} {a0 : Nat} {a1 : Int} {I : rc_M} {post : rc_M → Prop} (T0 : kX3 G a0) (h : wX3_repairAt G a0 a1 I post) : rc_CV l yX3_repairAt wsX3_repairAt rmX3_repairAt G [.ref a0, .int (rc_o a1)] I post :=
  rc_body (by decide +kernel) rfl rfl (Nat.le_of_ble_eq_true rfl) rfl (fun p e s m below meth c X hr => gX3_repairAt_0 X hr T0 h)
/-! X3_breaksAt -/
abbrev rmX3_breaksAt : Room := { frames := 1, cells := 0, slots := 0, locals := 22 }
theorem dyX3_breaksAt : yX3_breaksAt.cls = RX3 ∧ yX3_breaksAt.cls ≠ "java/lang/invoke/MethodHandle" ∧ yX3_breaksAt.cls ≠ "java/lang/invoke/VarHandle" ∧ (parseMethodDescriptor yX3_breaksAt.desc).map (fun d => d.parameters.length) = some 1 := ⟨rfl, by decide +kernel, by decide +kernel, by decide +kernel⟩
theorem qX3_breaksAt_1 : Cond.fieldLink RX3 15 "ReelChanger$Reel" "strengths" "[I" ∈ wsX3_breaksAt := List.mem_of_getElem? (i := 1) (by decide +kernel)
theorem nX3_breaksAt_X3 : ∀ w ∈ wsX30, w ∈ wsX3_breaksAt := fun w h => List.mem_cons_of_mem _ (List.mem_append_right _ (h))
theorem qX3_breaksAt_2 : Cond.methodLink RX3 41 Lib.Math.max.name ∈ wsX3_breaksAt := List.mem_of_getElem? (i := 2) (by decide +kernel)
theorem qX3_breaksAt_3 : Cond.static Lib.Math.max.name ∈ wsX3_breaksAt := List.mem_of_getElem? (i := 3) (by decide +kernel)
theorem qX3_breaksAt_4 : Cond.initialized "java/lang/Math" ∈ wsX3_breaksAt := List.mem_of_getElem? (i := 4) (by decide +kernel)
theorem qX3_breaksAt_5 : Cond.code Lib.Math.max.name Lib.Math.max.code 2 (some .int) ∈ wsX3_breaksAt := List.mem_of_getElem? (i := 5) (by decide +kernel)
def wX3_breaksAt (G : rc_G) (a0 : Nat) (a1 : Int) (I : rc_M) (post : Int → rc_M → Prop) : Prop :=
  wX3_spliceOfFrame G a0 a1 I (fun r2 I1 => wX3_hasSplice G a0 r2 I1 (fun r4 I3 => rc_R r4 ∧ ((¬ r4 = 0 → (0 ≤ r2 ∧ r2 < 6) ∧ (rc_R ((I3 (a0 + 2) r2) - 1) ∧ ((0 ≤ r2 ∧ r2 < 6) ∧ (∀ I10, I10 = rc_s I3 (a0 + 2) r2 (max 0 ((I3 (a0 + 2) r2) - 1)) → (0 ≤ r2 ∧ r2 < 6) ∧ (rc_R (I10 (a0 + 2) r2) ∧ ((¬ (I10 (a0 + 2) r2) = 0 → post 0 I10) ∧ ((I10 (a0 + 2) r2) = 0 → post 1 I10))))))) ∧ (r4 = 0 → post 0 I3))))
set_option maxRecDepth 100000 in
set_option maxHeartbeats 4000000 in
theorem gX3_breaksAt_0 {p : Program} {l : Launch} {e : Env} {s : State} {m : MethodId} {below : List Frame} {meth : Method} {c : Code} {G : rc_G} {a0 : Nat} {a1 : Int} {I : rc_M} {post : Int → rc_M → Prop}  (X : rc_X p s m ([.ref a0, .int (rc_o a1)] : List Value).toArray meth c cX3_breaksAt 3 wsX3_breaksAt RX3 G (rc_A G)) (hr : meth.sig.returnType = some .boolean) (T0 : kX3 G a0)  (h : wX3_breaksAt G a0 a1 I post) : rc_g p l e rmX3_breaksAt s m ([.ref a0, .int (rc_o a1)] : List Value).toArray below meth c 0 0 (MQ below (rc_QI G post) ([.ref a0, .int (rc_o a1)] : List Value).toArray s 0 0 (rc_A G)) 3 G (rc_A G) 0 [(0, .ref a0), (1, .int (rc_o a1))] [] I := by
  unfold wX3_breaksAt at h
  refine rc_aload_n X dX3_breaksAt_0 rfl 0 rfl ?_
  refine rc_iload_n X dX3_breaksAt_1 rfl 1 rfl ?_
  refine rc_cVI (rest := []) X (mX3_spliceOfFrame T0 h) gX3_breaksAt_X3_spliceOfFrame rfl ⟨rfl, rfl⟩ dyX3_spliceOfFrame ⟨Nat.le_of_ble_eq_true rfl, Nat.le_of_ble_eq_true rfl⟩ (rc_recv X T0.1 rfl) rfl rfl (Nat.le_of_ble_eq_true rfl) dX3_breaksAt_2 ⟨Nat.zero_le _, Nat.zero_le _⟩ (fun r2 I1 h => ?_)
  refine rc_istore_n X [(2, .int (rc_o r2)), (0, .ref a0), (1, .int (rc_o a1))] dX3_breaksAt_5 rfl (by decide) rfl ?_
  refine rc_aload_n X dX3_breaksAt_6 rfl 1 rfl ?_
  refine rc_iload_n X dX3_breaksAt_7 rfl 0 rfl ?_
  refine rc_cVI (rest := []) X (mX3_hasSplice T0 h) gX3_breaksAt_X3_hasSplice rfl ⟨rfl, rfl⟩ dyX3_hasSplice ⟨Nat.le_of_ble_eq_true rfl, Nat.le_of_ble_eq_true rfl⟩ (rc_recv X T0.1 rfl) rfl rfl (Nat.le_of_ble_eq_true rfl) dX3_breaksAt_8 ⟨Nat.zero_le _, Nat.zero_le _⟩ (fun r4 I3 h => ?_)
  obtain ⟨c5, h⟩ := h
  refine rc_if_ne X 16 dX3_breaksAt_11 (by decide) c5 (fun c6 => ?_) (fun c6 => ?_)
  · have h := h.1 c6
    refine rc_aload_n X dX3_breaksAt_16 rfl 1 rfl ?_
    refine gfX3_strengths X T0.1 nX3_breaksAt_X3 qX3_breaksAt_1 dX3_breaksAt_17 ?_
    refine rc_iload_n X dX3_breaksAt_20 rfl 0 rfl ?_
    refine rc_iconst X dX3_breaksAt_21 ?_
    refine rc_aload_n X dX3_breaksAt_22 rfl 1 rfl ?_
    refine gfX3_strengths X T0.1 nX3_breaksAt_X3 qX3_breaksAt_1 dX3_breaksAt_23 ?_
    refine rc_iload_n X dX3_breaksAt_26 rfl 0 rfl ?_
    obtain ⟨c7, h⟩ := h
    refine rc_iald X T0.2.2 (by decide) dX3_breaksAt_27 c7 ?_
    refine rc_iconst X dX3_breaksAt_28 ?_
    refine rc_isub X dX3_breaksAt_29 ?_
    obtain ⟨c8, h⟩ := h
    refine rc_mmax X qX3_breaksAt_2 qX3_breaksAt_3 qX3_breaksAt_4 qX3_breaksAt_5 (Nat.le_of_ble_eq_true rfl) (Nat.le_of_ble_eq_true rfl) (Nat.zero_le _) (Nat.zero_le _) dX3_breaksAt_30 ⟨by decide, by decide⟩ c8 ?_
    obtain ⟨c9, h⟩ := h
    refine rc_iast X T0.2.2 (by decide) dX3_breaksAt_33 c9 (fun I10 e10 => ?_)
    have h := h I10 e10
    refine rc_aload_n X dX3_breaksAt_34 rfl 1 rfl ?_
    refine gfX3_strengths X T0.1 nX3_breaksAt_X3 qX3_breaksAt_1 dX3_breaksAt_35 ?_
    refine rc_iload_n X dX3_breaksAt_38 rfl 0 rfl ?_
    obtain ⟨c11, h⟩ := h
    refine rc_iald X T0.2.2 (by decide) dX3_breaksAt_39 c11 ?_
    obtain ⟨c12, h⟩ := h
    refine rc_if_ne X 47 dX3_breaksAt_40 (by decide) c12 (fun c13 => ?_) (fun c13 => ?_)
    · have h := h.1 c13
      refine rc_iconst X dX3_breaksAt_47 ?_
      exact rc_zret X hr dX3_breaksAt_48 (Or.inl rfl) h
    · have h := h.2 c13
      refine rc_iconst X dX3_breaksAt_43 ?_
      refine rc_goto X 48 dX3_breaksAt_44 (by decide) ?_
      exact rc_zret X hr dX3_breaksAt_48 (Or.inr rfl) h
  · have h := h.2 c6
    refine rc_iconst X dX3_breaksAt_14 ?_
    exact rc_zret X hr dX3_breaksAt_15 (Or.inl rfl) h
theorem mX3_breaksAt {l : Launch} {G : rc_G} {a0 : Nat} {a1 : Int} {I : rc_M} {post : Int → rc_M → Prop} (T0 : kX3 G a0) (h : wX3_breaksAt G a0 a1 I post) : rc_CI l yX3_breaksAt wsX3_breaksAt rmX3_breaksAt G [.ref a0, .int (rc_o a1)] I post :=
  rc_body (by decide +kernel) rfl rfl (Nat.le_of_ble_eq_true rfl) rfl (fun p e s m below meth c X hr => gX3_breaksAt_0 X hr T0 h)
/-! X3_copyFrom -/
abbrev rmX3_copyFrom : Room := { frames := 1, cells := 0, slots := 0, locals := 60 }
theorem dyX3_copyFrom : yX3_copyFrom.cls = RX3 ∧ yX3_copyFrom.cls ≠ "java/lang/invoke/MethodHandle" ∧ yX3_copyFrom.cls ≠ "java/lang/invoke/VarHandle" ∧ (parseMethodDescriptor yX3_copyFrom.desc).map (fun d => d.parameters.length) = some 1 := ⟨rfl, by decide +kernel, by decide +kernel, by decide +kernel⟩
theorem qX3_copyFrom_1 : Cond.fieldLink RX3 18 "ReelChanger$Reel" "length" "I" ∈ wsX3_copyFrom := List.mem_of_getElem? (i := 1) (by decide +kernel)
theorem nX3_copyFrom_X3 : ∀ w ∈ wsX30, w ∈ wsX3_copyFrom := fun w h => List.mem_cons_of_mem _ (List.mem_append_right _ (h))
theorem qX3_copyFrom_2 : Cond.fieldLink RX3 22 "ReelChanger$Reel" "spliceCount" "I" ∈ wsX3_copyFrom := List.mem_of_getElem? (i := 2) (by decide +kernel)
theorem qX3_copyFrom_3 : Cond.fieldLink RX3 11 "ReelChanger$Reel" "frames" "[I" ∈ wsX3_copyFrom := List.mem_of_getElem? (i := 3) (by decide +kernel)
theorem qX3_copyFrom_4 : Cond.methodLink RX3 25 arraycopyName ∈ wsX3_copyFrom := List.mem_of_getElem? (i := 4) (by decide +kernel)
theorem qX3_copyFrom_5 : Cond.native arraycopyName ∈ wsX3_copyFrom := List.mem_of_getElem? (i := 5) (by decide +kernel)
theorem qX3_copyFrom_6 : Cond.static arraycopyName ∈ wsX3_copyFrom := List.mem_of_getElem? (i := 6) (by decide +kernel)
theorem qX3_copyFrom_7 : Cond.initialized "java/lang/System" ∈ wsX3_copyFrom := List.mem_of_getElem? (i := 7) (by decide +kernel)
theorem qX3_copyFrom_8 : Cond.fieldLink RX3 15 "ReelChanger$Reel" "strengths" "[I" ∈ wsX3_copyFrom := List.mem_of_getElem? (i := 8) (by decide +kernel)
def wX3_copyFrom (G : rc_G) (a0 : Nat) (a1 : Nat) (I : rc_M) (post : rc_M → Prop) : Prop :=
  ∀ I1, I1 = rc_s I a0 0 (I a1 0) → ∀ I2, I2 = rc_s I1 a0 1 (I1 a1 1) → ((0 : Int) ≤ 0 ∧ (0 : Int) ≤ 0 ∧ (0 : Int) ≤ 6 ∧ (0 + 6 : Int) ≤ 6 ∧ (0 + 6 : Int) ≤ 6) ∧ (∀ I4, I4 = rc_cpy I2 (a1 + 1) (a0 + 1) 0 0 6 → ((0 : Int) ≤ 0 ∧ (0 : Int) ≤ 0 ∧ (0 : Int) ≤ 6 ∧ (0 + 6 : Int) ≤ 6 ∧ (0 + 6 : Int) ≤ 6) ∧ (∀ I6, I6 = rc_cpy I4 (a1 + 2) (a0 + 2) 0 0 6 → post I6))
set_option maxRecDepth 100000 in
set_option maxHeartbeats 4000000 in
theorem gX3_copyFrom_0 {p : Program} {l : Launch} {e : Env} {s : State} {m : MethodId} {below : List Frame} {meth : Method} {c : Code} {G : rc_G} {a0 : Nat} {a1 : Nat} {I : rc_M} {post : rc_M → Prop}  (X : rc_X p s m ([.ref a0, .ref a1] : List Value).toArray meth c cX3_copyFrom 2 wsX3_copyFrom RX3 G (rc_A G)) (hr : meth.sig.returnType = none) (T0 : kX3 G a0) (T1 : kX3 G a1)  (h : wX3_copyFrom G a0 a1 I post) : rc_g p l e rmX3_copyFrom s m ([.ref a0, .ref a1] : List Value).toArray below meth c 0 0 (MQ below (rc_QV G post) ([.ref a0, .ref a1] : List Value).toArray s 0 0 (rc_A G)) 2 G (rc_A G) 0 [(0, .ref a0), (1, .ref a1)] [] I := by
  unfold wX3_copyFrom at h
  refine rc_aload_n X dX3_copyFrom_0 rfl 0 rfl ?_
  refine rc_aload_n X dX3_copyFrom_1 rfl 1 rfl ?_
  refine gfX3_length X T1.1 nX3_copyFrom_X3 qX3_copyFrom_1 dX3_copyFrom_2 ?_
  refine pfX3_length X T0.1 nX3_copyFrom_X3 qX3_copyFrom_1 dX3_copyFrom_5 (fun I1 e1 => ?_)
  have h := h I1 e1
  refine rc_aload_n X dX3_copyFrom_8 rfl 0 rfl ?_
  refine rc_aload_n X dX3_copyFrom_9 rfl 1 rfl ?_
  refine gfX3_spliceCount X T1.1 nX3_copyFrom_X3 qX3_copyFrom_2 dX3_copyFrom_10 ?_
  refine pfX3_spliceCount X T0.1 nX3_copyFrom_X3 qX3_copyFrom_2 dX3_copyFrom_13 (fun I2 e2 => ?_)
  have h := h I2 e2
  refine rc_aload_n X dX3_copyFrom_16 rfl 1 rfl ?_
  refine gfX3_frames X T1.1 nX3_copyFrom_X3 qX3_copyFrom_3 dX3_copyFrom_17 ?_
  refine rc_iconst X dX3_copyFrom_20 ?_
  refine rc_aload_n X dX3_copyFrom_21 rfl 0 rfl ?_
  refine gfX3_frames X T0.1 nX3_copyFrom_X3 qX3_copyFrom_3 dX3_copyFrom_22 ?_
  refine rc_iconst X dX3_copyFrom_25 ?_
  refine rc_bipush X dX3_copyFrom_26 (rc_b8 _ ⟨by decide, by decide⟩) ?_
  obtain ⟨c3, h⟩ := h
  refine rc_acopy X T1.2.1 T0.2.1 (by decide) (by decide) qX3_copyFrom_4 qX3_copyFrom_5 qX3_copyFrom_6 qX3_copyFrom_7 (Nat.le_of_ble_eq_true rfl) (by decide +kernel) dX3_copyFrom_28 c3.1 c3.2.1 c3.2.2.1 c3.2.2.2.1 c3.2.2.2.2 (fun I4 e4 => ?_)
  have h := h I4 e4
  refine rc_aload_n X dX3_copyFrom_31 rfl 1 rfl ?_
  refine gfX3_strengths X T1.1 nX3_copyFrom_X3 qX3_copyFrom_8 dX3_copyFrom_32 ?_
  refine rc_iconst X dX3_copyFrom_35 ?_
  refine rc_aload_n X dX3_copyFrom_36 rfl 0 rfl ?_
  refine gfX3_strengths X T0.1 nX3_copyFrom_X3 qX3_copyFrom_8 dX3_copyFrom_37 ?_
  refine rc_iconst X dX3_copyFrom_40 ?_
  refine rc_bipush X dX3_copyFrom_41 (rc_b8 _ ⟨by decide, by decide⟩) ?_
  obtain ⟨c5, h⟩ := h
  refine rc_acopy X T1.2.2 T0.2.2 (by decide) (by decide) qX3_copyFrom_4 qX3_copyFrom_5 qX3_copyFrom_6 qX3_copyFrom_7 (Nat.le_of_ble_eq_true rfl) (by decide +kernel) dX3_copyFrom_43 c5.1 c5.2.1 c5.2.2.1 c5.2.2.2.1 c5.2.2.2.2 (fun I6 e6 => ?_)
  have h := h I6 e6
  exact rc_vret X hr dX3_copyFrom_46 h
theorem mX3_copyFrom {l : Launch} {G : rc_G} {a0 : Nat} {a1 : Nat} {I : rc_M} {post : rc_M → Prop} (T0 : kX3 G a0) (T1 : kX3 G a1) (h : wX3_copyFrom G a0 a1 I post) : rc_CV l yX3_copyFrom wsX3_copyFrom rmX3_copyFrom G [.ref a0, .ref a1] I post :=
  rc_body (by decide +kernel) rfl rfl (Nat.le_of_ble_eq_true rfl) rfl (fun p e s m below meth c X hr => gX3_copyFrom_0 X hr T0 T1 h)
