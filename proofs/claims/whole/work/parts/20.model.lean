/-! X8_in -/
abbrev rmX8_in : Room := { frames := 0, cells := 0, slots := 0, locals := 0 }
theorem dyX8_in : yX8_in.cls = RX8 ∧ yX8_in.cls ≠ "java/lang/invoke/MethodHandle" ∧ yX8_in.cls ≠ "java/lang/invoke/VarHandle" ∧ (parseMethodDescriptor yX8_in.desc).map (fun d => d.parameters.length) = some 3 := ⟨rfl, by decide +kernel, by decide +kernel, by decide +kernel⟩
def wX8_in (G : rc_G) (a0 : Int) (a1 : Int) (a2 : Int) (I : rc_M) (post : Int → rc_M → Prop) : Prop :=
  rc_R a0 ∧ (rc_R a1 ∧ ((a0 < a1 → post 0 I) ∧ (¬ a0 < a1 → rc_R a0 ∧ (rc_R a2 ∧ ((a2 < a0 → post 0 I) ∧ (¬ a2 < a0 → post 1 I))))))
set_option maxRecDepth 100000 in
set_option maxHeartbeats 4000000 in
theorem gX8_in_0 {p : Program} {l : Launch} {e : Env} {s : State} {m : MethodId} {below : List Frame} {meth : Method} {c : Code} {G : rc_G} {a0 : Int} {a1 : Int} {a2 : Int} {I : rc_M} {post : Int → rc_M → Prop}  (X : rc_X p s m ([.int (rc_o a0), .int (rc_o a1), .int (rc_o a2)] : List Value).toArray meth c cX8_in 3 wsX8_in RX8 G (rc_A G)) (hr : meth.sig.returnType = some .boolean)   (h : wX8_in G a0 a1 a2 I post) : rc_g p l e rmX8_in s m ([.int (rc_o a0), .int (rc_o a1), .int (rc_o a2)] : List Value).toArray below meth c 0 0 (MQ below (rc_QI G post) ([.int (rc_o a0), .int (rc_o a1), .int (rc_o a2)] : List Value).toArray s 0 0 (rc_A G)) 3 G (rc_A G) 0 [(0, .int (rc_o a0)), (1, .int (rc_o a1)), (2, .int (rc_o a2))] [] I := by
  unfold wX8_in at h
  refine rc_iload_n X dX8_in_0 rfl 0 rfl ?_
  refine rc_iload_n X dX8_in_1 rfl 1 rfl ?_
  obtain ⟨c1, h⟩ := h
  obtain ⟨c2, h⟩ := h
  refine rc_ic_lt X 14 dX8_in_2 (by decide) c1 c2 (fun c3 => ?_) (fun c3 => ?_)
  · have h := h.1 c3
    refine rc_iconst X dX8_in_14 ?_
    exact rc_zret X hr dX8_in_15 (Or.inl rfl) h
  · have h := h.2 c3
    refine rc_iload_n X dX8_in_5 rfl 0 rfl ?_
    refine rc_iload_n X dX8_in_6 rfl 2 rfl ?_
    obtain ⟨c4, h⟩ := h
    obtain ⟨c5, h⟩ := h
    refine rc_ic_gt X 14 dX8_in_7 (by decide) c4 c5 (fun c6 => ?_) (fun c6 => ?_)
    · have h := h.1 c6
      refine rc_iconst X dX8_in_14 ?_
      exact rc_zret X hr dX8_in_15 (Or.inl rfl) h
    · have h := h.2 c6
      refine rc_iconst X dX8_in_10 ?_
      refine rc_goto X 15 dX8_in_11 (by decide) ?_
      exact rc_zret X hr dX8_in_15 (Or.inr rfl) h
theorem mX8_in {l : Launch} {G : rc_G} {a0 : Int} {a1 : Int} {a2 : Int} {I : rc_M} {post : Int → rc_M → Prop}  (h : wX8_in G a0 a1 a2 I post) : rc_CI l yX8_in wsX8_in rmX8_in G [.int (rc_o a0), .int (rc_o a1), .int (rc_o a2)] I post :=
  rc_body (by decide +kernel) rfl rfl (Nat.le_of_ble_eq_true rfl) rfl (fun p e s m below meth c X hr => gX8_in_0 X hr  h)
/-! X8_at -/
abbrev rmX8_at : Room := { frames := 0, cells := 0, slots := 0, locals := 0 }
theorem dyX8_at : yX8_at.cls = RX8 ∧ yX8_at.cls ≠ "java/lang/invoke/MethodHandle" ∧ yX8_at.cls ≠ "java/lang/invoke/VarHandle" ∧ (parseMethodDescriptor yX8_at.desc).map (fun d => d.parameters.length) = some 2 := ⟨rfl, by decide +kernel, by decide +kernel, by decide +kernel⟩
def wX8_at (G : rc_G) (a0 : Int) (a1 : Int) (I : rc_M) (post : Int → rc_M → Prop) : Prop :=
  post ((1 + (14 * a0)) + a1) I
set_option maxRecDepth 100000 in
set_option maxHeartbeats 4000000 in
theorem gX8_at_0 {p : Program} {l : Launch} {e : Env} {s : State} {m : MethodId} {below : List Frame} {meth : Method} {c : Code} {G : rc_G} {a0 : Int} {a1 : Int} {I : rc_M} {post : Int → rc_M → Prop}  (X : rc_X p s m ([.int (rc_o a0), .int (rc_o a1)] : List Value).toArray meth c cX8_at 2 wsX8_at RX8 G (rc_A G)) (hr : meth.sig.returnType = some .int)   (h : wX8_at G a0 a1 I post) : rc_g p l e rmX8_at s m ([.int (rc_o a0), .int (rc_o a1)] : List Value).toArray below meth c 0 0 (MQ below (rc_QI G post) ([.int (rc_o a0), .int (rc_o a1)] : List Value).toArray s 0 0 (rc_A G)) 2 G (rc_A G) 0 [(0, .int (rc_o a0)), (1, .int (rc_o a1))] [] I := by
  unfold wX8_at at h
  refine rc_iconst X dX8_at_0 ?_
  refine rc_bipush X dX8_at_1 (rc_b8 _ ⟨by decide, by decide⟩) ?_
  refine rc_iload_n X dX8_at_3 rfl 0 rfl ?_
  refine rc_imul X dX8_at_4 ?_
  refine rc_iadd X dX8_at_5 ?_
  refine rc_iload_n X dX8_at_6 rfl 1 rfl ?_
  refine rc_iadd X dX8_at_7 ?_
  exact rc_iret X hr dX8_at_8 h
theorem mX8_at {l : Launch} {G : rc_G} {a0 : Int} {a1 : Int} {I : rc_M} {post : Int → rc_M → Prop}  (h : wX8_at G a0 a1 I post) : rc_CI l yX8_at wsX8_at rmX8_at G [.int (rc_o a0), .int (rc_o a1)] I post :=
  rc_body (by decide +kernel) rfl rfl (Nat.le_of_ble_eq_true rfl) rfl (fun p e s m below meth c X hr => gX8_at_0 X hr  h)
/-! X8_isReel -/
abbrev rmX8_isReel : Room := { frames := 1, cells := 0, slots := 0, locals := 22 }
theorem dyX8_isReel : yX8_isReel.cls = RX8 ∧ yX8_isReel.cls ≠ "java/lang/invoke/MethodHandle" ∧ yX8_isReel.cls ≠ "java/lang/invoke/VarHandle" ∧ (parseMethodDescriptor yX8_isReel.desc).map (fun d => d.parameters.length) = some 1 := ⟨rfl, by decide +kernel, by decide +kernel, by decide +kernel⟩
theorem qX8_isReel_1 : Cond.fieldLink RX8 7 "ReelChangerModel" "v" "[I" ∈ wsX8_isReel := List.mem_of_getElem? (i := 1) (by decide +kernel)
theorem nX8_isReel_X8 : ∀ w ∈ wsX80, w ∈ wsX8_isReel := fun w h => List.mem_cons_of_mem _ (List.mem_append_right _ (h))
def wX8_isReel (G : rc_G) (a0 : Nat) (a1 : Int) (I : rc_M) (post : Int → rc_M → Prop) : Prop :=
  wX8_in G a1 0 ((I (a0 + 1) 0) - 1) I (fun r2 I1 => (r2 = 0 ∨ r2 = 1) ∧ (post r2 I1))
set_option maxRecDepth 100000 in
set_option maxHeartbeats 4000000 in
theorem gX8_isReel_0 {p : Program} {l : Launch} {e : Env} {s : State} {m : MethodId} {below : List Frame} {meth : Method} {c : Code} {G : rc_G} {a0 : Nat} {a1 : Int} {I : rc_M} {post : Int → rc_M → Prop}  (X : rc_X p s m ([.ref a0, .int (rc_o a1)] : List Value).toArray meth c cX8_isReel 2 wsX8_isReel RX8 G (rc_A G)) (hr : meth.sig.returnType = some .boolean) (T0 : kX8 G a0)  (h : wX8_isReel G a0 a1 I post) : rc_g p l e rmX8_isReel s m ([.ref a0, .int (rc_o a1)] : List Value).toArray below meth c 0 0 (MQ below (rc_QI G post) ([.ref a0, .int (rc_o a1)] : List Value).toArray s 0 0 (rc_A G)) 2 G (rc_A G) 0 [(0, .ref a0), (1, .int (rc_o a1))] [] I := by
  unfold wX8_isReel at h
  refine rc_iload_n X dX8_isReel_0 rfl 1 rfl ?_
  refine rc_iconst X dX8_isReel_1 ?_
  refine rc_aload_n X dX8_isReel_2 rfl 0 rfl ?_
  refine gfX8_v X T0.1 nX8_isReel_X8 qX8_isReel_1 dX8_isReel_3 ?_
  refine rc_iconst X dX8_isReel_6 ?_
  refine rc_iald X T0.2.1 (by decide) dX8_isReel_7 ⟨by decide, by decide⟩ ?_
  refine rc_iconst X dX8_isReel_8 ?_
  refine rc_isub X dX8_isReel_9 ?_
  refine rc_cSI (rest := []) X (mX8_in  h) gX8_isReel_X8_in rfl ⟨rfl, rfl⟩ dyX8_in ⟨Nat.le_of_ble_eq_true rfl, Nat.le_of_ble_eq_true rfl⟩ rfl rfl (Nat.le_of_ble_eq_true rfl) dX8_isReel_10 ⟨Nat.zero_le _, Nat.zero_le _⟩ (fun r2 I1 h => ?_)
  obtain ⟨c3, h⟩ := h
  exact rc_zret X hr dX8_isReel_13 c3 h
theorem mX8_isReel {l : Launch} {G : rc_G} {a0 : Nat} {a1 : Int} {I : rc_M} {post : Int → rc_M → Prop} (T0 : kX8 G a0) (h : wX8_isReel G a0 a1 I post) : rc_CI l yX8_isReel wsX8_isReel rmX8_isReel G [.ref a0, .int (rc_o a1)] I post :=
  rc_body (by decide +kernel) rfl rfl (Nat.le_of_ble_eq_true rfl) rfl (fun p e s m below meth c X hr => gX8_isReel_0 X hr T0 h)
/-! X8_puts -/
abbrev rmX8_puts : Room := { frames := 0, cells := 0, slots := 0, locals := 0 }
theorem dyX8_puts : yX8_puts.cls = RX8 ∧ yX8_puts.cls ≠ "java/lang/invoke/MethodHandle" ∧ yX8_puts.cls ≠ "java/lang/invoke/VarHandle" ∧ (parseMethodDescriptor yX8_puts.desc).map (fun d => d.parameters.length) = some 2 := ⟨rfl, by decide +kernel, by decide +kernel, by decide +kernel⟩
theorem qX8_puts_1 : Cond.fieldLink RX8 7 "ReelChangerModel" "v" "[I" ∈ wsX8_puts := List.mem_of_getElem? (i := 1) (by decide +kernel)
theorem nX8_puts_X8 : ∀ w ∈ wsX80, w ∈ wsX8_puts := fun w h => List.mem_cons_of_mem _ (List.mem_append_right _ (h))
def wX8_puts (G : rc_G) (a0 : Nat) (a1 : Int) (a2 : Int) (I : rc_M) (post : Int → rc_M → Prop) : Prop :=
  (0 ≤ a1 ∧ a1 < 199) ∧ ((0 ≤ a1 ∧ a1 < 199) ∧ (∀ I3, I3 = rc_s I (a0 + 1) a1 a2 → post (I (a0 + 1) a1) I3))
set_option maxRecDepth 100000 in
set_option maxHeartbeats 4000000 in
theorem gX8_puts_0 {p : Program} {l : Launch} {e : Env} {s : State} {m : MethodId} {below : List Frame} {meth : Method} {c : Code} {G : rc_G} {a0 : Nat} {a1 : Int} {a2 : Int} {I : rc_M} {post : Int → rc_M → Prop}  (X : rc_X p s m ([.ref a0, .int (rc_o a1), .int (rc_o a2)] : List Value).toArray meth c cX8_puts 4 wsX8_puts RX8 G (rc_A G)) (hr : meth.sig.returnType = some .int) (T0 : kX8 G a0)  (h : wX8_puts G a0 a1 a2 I post) : rc_g p l e rmX8_puts s m ([.ref a0, .int (rc_o a1), .int (rc_o a2)] : List Value).toArray below meth c 0 0 (MQ below (rc_QI G post) ([.ref a0, .int (rc_o a1), .int (rc_o a2)] : List Value).toArray s 0 0 (rc_A G)) 4 G (rc_A G) 0 [(0, .ref a0), (1, .int (rc_o a1)), (2, .int (rc_o a2))] [] I := by
  unfold wX8_puts at h
  refine rc_aload_n X dX8_puts_0 rfl 0 rfl ?_
  refine gfX8_v X T0.1 nX8_puts_X8 qX8_puts_1 dX8_puts_1 ?_
  refine rc_iload_n X dX8_puts_4 rfl 1 rfl ?_
  obtain ⟨c1, h⟩ := h
  refine rc_iald X T0.2.1 (by decide) dX8_puts_5 c1 ?_
  refine rc_istore_n X [(3, .int (rc_o (I (a0 + 1) a1))), (0, .ref a0), (1, .int (rc_o a1)), (2, .int (rc_o a2))] dX8_puts_6 rfl (by decide) rfl ?_
  refine rc_aload_n X dX8_puts_7 rfl 1 rfl ?_
  refine gfX8_v X T0.1 nX8_puts_X8 qX8_puts_1 dX8_puts_8 ?_
  refine rc_iload_n X dX8_puts_11 rfl 2 rfl ?_
  refine rc_iload_n X dX8_puts_12 rfl 3 rfl ?_
  obtain ⟨c2, h⟩ := h
  refine rc_iast X T0.2.1 (by decide) dX8_puts_13 c2 (fun I3 e3 => ?_)
  have h := h I3 e3
  refine rc_iload_n X dX8_puts_14 rfl 0 rfl ?_
  exact rc_iret X hr dX8_puts_15 h
theorem mX8_puts {l : Launch} {G : rc_G} {a0 : Nat} {a1 : Int} {a2 : Int} {I : rc_M} {post : Int → rc_M → Prop} (T0 : kX8 G a0) (h : wX8_puts G a0 a1 a2 I post) : rc_CI l yX8_puts wsX8_puts rmX8_puts G [.ref a0, .int (rc_o a1), .int (rc_o a2)] I post :=
  rc_body (by decide +kernel) rfl rfl (Nat.le_of_ble_eq_true rfl) rfl (fun p e s m below meth c X hr => gX8_puts_0 X hr T0 h)
/-! X8_makeReel -/
abbrev rmX8_makeReel : Room := { frames := 1, cells := 0, slots := 0, locals := 22 }
theorem dyX8_makeReel : yX8_makeReel.cls = RX8 ∧ yX8_makeReel.cls ≠ "java/lang/invoke/MethodHandle" ∧ yX8_makeReel.cls ≠ "java/lang/invoke/VarHandle" ∧ (parseMethodDescriptor yX8_makeReel.desc).map (fun d => d.parameters.length) = some 1 := ⟨rfl, by decide +kernel, by decide +kernel, by decide +kernel⟩
theorem qX8_makeReel_2 : Cond.fieldLink RX8 7 "ReelChangerModel" "v" "[I" ∈ wsX8_makeReel := List.mem_of_getElem? (i := 2) (by decide +kernel)
theorem nX8_makeReel_X8 : ∀ w ∈ wsX80, w ∈ wsX8_makeReel := fun w h => List.mem_cons_of_mem _ (List.mem_append_right _ (h))
theorem qX8_makeReel_3 : Cond.constant RX8 52 (-100004) ∈ wsX8_makeReel := List.mem_of_getElem? (i := 3) (by decide +kernel)
theorem qX8_makeReel_1 : Cond.constant RX8 51 (-100002) ∈ wsX8_makeReel := List.mem_of_getElem? (i := 1) (by decide +kernel)
def wX8_makeReel (G : rc_G) (a0 : Nat) (a1 : Int) (I : rc_M) (post : Int → rc_M → Prop) : Prop :=
  wX8_in G a1 100 3000 I (fun r2 I1 => rc_R r2 ∧ ((¬ r2 = 0 → rc_R (I1 (a0 + 1) 0) ∧ ((¬ (I1 (a0 + 1) 0) = 10 → wX8_at G (I1 (a0 + 1) 0) 0 I1 (fun r8 I7 => (0 ≤ r8 ∧ r8 < 199) ∧ (∀ I10, I10 = rc_s I7 (a0 + 1) r8 a1 → wX8_at G (I1 (a0 + 1) 0) 1 I10 (fun r12 I11 => (0 ≤ r12 ∧ r12 < 199) ∧ (∀ I14, I14 = rc_s I11 (a0 + 1) r12 0 → ∀ I15, I15 = rc_s I14 (a0 + 1) 0 ((I14 (a0 + 1) 0) + 1) → post (I1 (a0 + 1) 0) I15))))) ∧ ((I1 (a0 + 1) 0) = 10 → post (-100004) I1))) ∧ (r2 = 0 → post (-100002) I1)))
set_option maxRecDepth 100000 in
set_option maxHeartbeats 4000000 in
theorem gX8_makeReel_0 {p : Program} {l : Launch} {e : Env} {s : State} {m : MethodId} {below : List Frame} {meth : Method} {c : Code} {G : rc_G} {a0 : Nat} {a1 : Int} {I : rc_M} {post : Int → rc_M → Prop}  (X : rc_X p s m ([.ref a0, .int (rc_o a1)] : List Value).toArray meth c cX8_makeReel 3 wsX8_makeReel RX8 G (rc_A G)) (hr : meth.sig.returnType = some .int) (T0 : kX8 G a0)  (h : wX8_makeReel G a0 a1 I post) : rc_g p l e rmX8_makeReel s m ([.ref a0, .int (rc_o a1)] : List Value).toArray below meth c 0 0 (MQ below (rc_QI G post) ([.ref a0, .int (rc_o a1)] : List Value).toArray s 0 0 (rc_A G)) 3 G (rc_A G) 0 [(0, .ref a0), (1, .int (rc_o a1))] [] I := by
  unfold wX8_makeReel at h
  refine rc_iload_n X dX8_makeReel_0 rfl 1 rfl ?_
  refine rc_bipush X dX8_makeReel_1 (rc_b8 _ ⟨by decide, by decide⟩) ?_
  refine rc_sipush X dX8_makeReel_3 (rc_b16 _ ⟨by decide, by decide⟩) ?_
  refine rc_cSI (rest := []) X (mX8_in  h) gX8_makeReel_X8_in rfl ⟨rfl, rfl⟩ dyX8_in ⟨Nat.le_of_ble_eq_true rfl, Nat.le_of_ble_eq_true rfl⟩ rfl rfl (Nat.le_of_ble_eq_true rfl) dX8_makeReel_6 ⟨Nat.zero_le _, Nat.zero_le _⟩ (fun r2 I1 h => ?_)
  obtain ⟨c3, h⟩ := h
  refine rc_if_ne X 15 dX8_makeReel_9 (by decide) c3 (fun c4 => ?_) (fun c4 => ?_)
  · have h := h.1 c4
    refine rc_aload_n X dX8_makeReel_15 rfl 0 rfl ?_
    refine gfX8_v X T0.1 nX8_makeReel_X8 qX8_makeReel_2 dX8_makeReel_16 ?_
    refine rc_iconst X dX8_makeReel_19 ?_
    refine rc_iald X T0.2.1 (by decide) dX8_makeReel_20 ⟨by decide, by decide⟩ ?_
    refine rc_bipush X dX8_makeReel_21 (rc_b8 _ ⟨by decide, by decide⟩) ?_
    obtain ⟨c5, h⟩ := h
    refine rc_ic_ne X 29 dX8_makeReel_23 (by decide) c5 ⟨by decide, by decide⟩ (fun c6 => ?_) (fun c6 => ?_)
    · have h := h.1 c6
      refine rc_aload_n X dX8_makeReel_29 rfl 0 rfl ?_
      refine gfX8_v X T0.1 nX8_makeReel_X8 qX8_makeReel_2 dX8_makeReel_30 ?_
      refine rc_iconst X dX8_makeReel_33 ?_
      refine rc_iald X T0.2.1 (by decide) dX8_makeReel_34 ⟨by decide, by decide⟩ ?_
      refine rc_istore_n X [(2, .int (rc_o (I1 (a0 + 1) 0))), (0, .ref a0), (1, .int (rc_o a1))] dX8_makeReel_35 rfl (by decide) rfl ?_
      refine rc_aload_n X dX8_makeReel_36 rfl 1 rfl ?_
      refine gfX8_v X T0.1 nX8_makeReel_X8 qX8_makeReel_2 dX8_makeReel_37 ?_
      refine rc_iload_n X dX8_makeReel_40 rfl 0 rfl ?_
      refine rc_iconst X dX8_makeReel_41 ?_
      refine rc_cSI (rest := [.ref (a0 + 1)]) X (mX8_at  h) gX8_makeReel_X8_at rfl ⟨rfl, rfl⟩ dyX8_at ⟨Nat.le_of_ble_eq_true rfl, Nat.le_of_ble_eq_true rfl⟩ rfl rfl (Nat.le_of_ble_eq_true rfl) dX8_makeReel_42 ⟨Nat.zero_le _, Nat.zero_le _⟩ (fun r8 I7 h => ?_)
      refine rc_iload_n X dX8_makeReel_45 rfl 2 rfl ?_
      obtain ⟨c9, h⟩ := h
      refine rc_iast X T0.2.1 (by decide) dX8_makeReel_46 c9 (fun I10 e10 => ?_)
      have h := h I10 e10
      refine rc_aload_n X dX8_makeReel_47 rfl 1 rfl ?_
      refine gfX8_v X T0.1 nX8_makeReel_X8 qX8_makeReel_2 dX8_makeReel_48 ?_
      refine rc_iload_n X dX8_makeReel_51 rfl 0 rfl ?_
      refine rc_iconst X dX8_makeReel_52 ?_
      refine rc_cSI (rest := [.ref (a0 + 1)]) X (mX8_at  h) gX8_makeReel_X8_at rfl ⟨rfl, rfl⟩ dyX8_at ⟨Nat.le_of_ble_eq_true rfl, Nat.le_of_ble_eq_true rfl⟩ rfl rfl (Nat.le_of_ble_eq_true rfl) dX8_makeReel_53 ⟨Nat.zero_le _, Nat.zero_le _⟩ (fun r12 I11 h => ?_)
      refine rc_iconst X dX8_makeReel_56 ?_
      obtain ⟨c13, h⟩ := h
      refine rc_iast X T0.2.1 (by decide) dX8_makeReel_57 c13 (fun I14 e14 => ?_)
      have h := h I14 e14
      refine rc_aload_n X dX8_makeReel_58 rfl 1 rfl ?_
      refine gfX8_v X T0.1 nX8_makeReel_X8 qX8_makeReel_2 dX8_makeReel_59 ?_
      refine rc_iconst X dX8_makeReel_62 ?_
      refine rc_dup2 X dX8_makeReel_63 rfl rfl ?_
      refine rc_iald X T0.2.1 (by decide) dX8_makeReel_64 ⟨by decide, by decide⟩ ?_
      refine rc_iconst X dX8_makeReel_65 ?_
      refine rc_iadd X dX8_makeReel_66 ?_
      refine rc_iast X T0.2.1 (by decide) dX8_makeReel_67 ⟨by decide, by decide⟩ (fun I15 e15 => ?_)
      have h := h I15 e15
      refine rc_iload_n X dX8_makeReel_68 rfl 0 rfl ?_
      exact rc_iret X hr dX8_makeReel_69 h
    · have h := h.2 c6
      refine rc_ldc (n := (-100004)) X qX8_makeReel_3 (by decide +kernel) dX8_makeReel_26 ?_
      exact rc_iret X hr dX8_makeReel_28 h
  · have h := h.2 c4
    refine rc_ldc (n := (-100002)) X qX8_makeReel_1 (by decide +kernel) dX8_makeReel_12 ?_
    exact rc_iret X hr dX8_makeReel_14 h
theorem mX8_makeReel {l : Launch} {G : rc_G} {a0 : Nat} {a1 : Int} {I : rc_M} {post : Int → rc_M → Prop} (T0 : kX8 G a0) (h : wX8_makeReel G a0 a1 I post) : rc_CI l yX8_makeReel wsX8_makeReel rmX8_makeReel G [.ref a0, .int (rc_o a1)] I post :=
  rc_body (by decide +kernel) rfl rfl (Nat.le_of_ble_eq_true rfl) rfl (fun p e s m below meth c X hr => gX8_makeReel_0 X hr T0 h)
/-! X8_spliceFrom -/
abbrev rmX8_spliceFrom : Room := { frames := 1, cells := 0, slots := 0, locals := 21 }
theorem dyX8_spliceFrom : yX8_spliceFrom.cls = RX8 ∧ yX8_spliceFrom.cls ≠ "java/lang/invoke/MethodHandle" ∧ yX8_spliceFrom.cls ≠ "java/lang/invoke/VarHandle" ∧ (parseMethodDescriptor yX8_spliceFrom.desc).map (fun d => d.parameters.length) = some 2 := ⟨rfl, by decide +kernel, by decide +kernel, by decide +kernel⟩
theorem qX8_spliceFrom_1 : Cond.fieldLink RX8 7 "ReelChangerModel" "v" "[I" ∈ wsX8_spliceFrom := List.mem_of_getElem? (i := 1) (by decide +kernel)
theorem nX8_spliceFrom_X8 : ∀ w ∈ wsX80, w ∈ wsX8_spliceFrom := fun w h => List.mem_cons_of_mem _ (List.mem_append_right _ (h))
def wX8_spliceFrom_2 (G : rc_G) (post : Int → rc_M → Prop) (a0 : Nat) (a1 : Int) (a2 : Int) (k2 : Int → rc_M → Prop) (x3 : Int) (I : rc_M) : Prop :=
  wX8_at G a1 1 I (fun r2 I1 => (0 ≤ r2 ∧ r2 < 199) ∧ (rc_R x3 ∧ (rc_R (I1 (a0 + 1) r2) ∧ (((I1 (a0 + 1) r2) ≤ x3 → post x3 I1) ∧ (¬ (I1 (a0 + 1) r2) ≤ x3 → wX8_at G a1 (2 + (2 * x3)) I1 (fun r8 I7 => (0 ≤ r8 ∧ r8 < 199) ∧ (rc_R (I7 (a0 + 1) r8) ∧ (rc_R a2 ∧ ((a2 ≤ (I7 (a0 + 1) r8) → post x3 I7) ∧ (¬ a2 ≤ (I7 (a0 + 1) r8) → k2 (x3 + 1) I7))))))))))
set_option maxRecDepth 100000 in
set_option maxHeartbeats 4000000 in
theorem gX8_spliceFrom_2 {p : Program} {l : Launch} {e : Env} {s : State} {m : MethodId} {below : List Frame} {meth : Method} {c : Code} {G : rc_G} {a0 : Nat} {a1 : Int} {a2 : Int} {I : rc_M} {post : Int → rc_M → Prop} {k2 : Int → rc_M → Prop} {x3 : Int} (X : rc_X p s m ([.ref a0, .int (rc_o a1), .int (rc_o a2)] : List Value).toArray meth c cX8_spliceFrom 4 wsX8_spliceFrom RX8 G (rc_A G)) (hr : meth.sig.returnType = some .int) (T0 : kX8 G a0) (hk2 : ∀ (x3 : Int) (J : rc_M), k2 x3 J → rc_g p l e rmX8_spliceFrom s m ([.ref a0, .int (rc_o a1), .int (rc_o a2)] : List Value).toArray below meth c 0 0 (MQ below (rc_QI G post) ([.ref a0, .int (rc_o a1), .int (rc_o a2)] : List Value).toArray s 0 0 (rc_A G)) 4 G (rc_A G) 2 [(0, .ref a0), (1, .int (rc_o a1)), (2, .int (rc_o a2)), (3, .int (rc_o x3))] [] J)  (h : wX8_spliceFrom_2 G post a0 a1 a2 k2 x3 I) : rc_g p l e rmX8_spliceFrom s m ([.ref a0, .int (rc_o a1), .int (rc_o a2)] : List Value).toArray below meth c 0 0 (MQ below (rc_QI G post) ([.ref a0, .int (rc_o a1), .int (rc_o a2)] : List Value).toArray s 0 0 (rc_A G)) 4 G (rc_A G) 2 [(0, .ref a0), (1, .int (rc_o a1)), (2, .int (rc_o a2)), (3, .int (rc_o x3))] [] I := by
  unfold wX8_spliceFrom_2 at h
  refine rc_iload_n X dX8_spliceFrom_2 rfl 3 rfl ?_
  refine rc_aload_n X dX8_spliceFrom_3 rfl 0 rfl ?_
  refine gfX8_v X T0.1 nX8_spliceFrom_X8 qX8_spliceFrom_1 dX8_spliceFrom_4 ?_
  refine rc_iload_n X dX8_spliceFrom_7 rfl 1 rfl ?_
  refine rc_iconst X dX8_spliceFrom_8 ?_
  refine rc_cSI (rest := [.ref (a0 + 1), .int (rc_o x3)]) X (mX8_at  h) gX8_spliceFrom_X8_at rfl ⟨rfl, rfl⟩ dyX8_at ⟨Nat.le_of_ble_eq_true rfl, Nat.le_of_ble_eq_true rfl⟩ rfl rfl (Nat.le_of_ble_eq_true rfl) dX8_spliceFrom_9 ⟨Nat.zero_le _, Nat.zero_le _⟩ (fun r2 I1 h => ?_)
  obtain ⟨c3, h⟩ := h
  refine rc_iald X T0.2.1 (by decide) dX8_spliceFrom_12 c3 ?_
  obtain ⟨c4, h⟩ := h
  obtain ⟨c5, h⟩ := h
  refine rc_ic_ge X 40 dX8_spliceFrom_13 (by decide) c4 c5 (fun c6 => ?_) (fun c6 => ?_)
  · have h := h.1 c6
    refine rc_iload_n X dX8_spliceFrom_40 rfl 3 rfl ?_
    exact rc_iret X hr dX8_spliceFrom_41 h
  · have h := h.2 c6
    refine rc_aload_n X dX8_spliceFrom_16 rfl 0 rfl ?_
    refine gfX8_v X T0.1 nX8_spliceFrom_X8 qX8_spliceFrom_1 dX8_spliceFrom_17 ?_
    refine rc_iload_n X dX8_spliceFrom_20 rfl 1 rfl ?_
    refine rc_iconst X dX8_spliceFrom_21 ?_
    refine rc_iconst X dX8_spliceFrom_22 ?_
    refine rc_iload_n X dX8_spliceFrom_23 rfl 3 rfl ?_
    refine rc_imul X dX8_spliceFrom_24 ?_
    refine rc_iadd X dX8_spliceFrom_25 ?_
    refine rc_cSI (rest := [.ref (a0 + 1)]) X (mX8_at  h) gX8_spliceFrom_X8_at rfl ⟨rfl, rfl⟩ dyX8_at ⟨Nat.le_of_ble_eq_true rfl, Nat.le_of_ble_eq_true rfl⟩ rfl rfl (Nat.le_of_ble_eq_true rfl) dX8_spliceFrom_26 ⟨Nat.zero_le _, Nat.zero_le _⟩ (fun r8 I7 h => ?_)
    obtain ⟨c9, h⟩ := h
    refine rc_iald X T0.2.1 (by decide) dX8_spliceFrom_29 c9 ?_
    refine rc_iload_n X dX8_spliceFrom_30 rfl 2 rfl ?_
    obtain ⟨c10, h⟩ := h
    obtain ⟨c11, h⟩ := h
    refine rc_ic_ge X 40 dX8_spliceFrom_31 (by decide) c10 c11 (fun c12 => ?_) (fun c12 => ?_)
    · have h := h.1 c12
      refine rc_iload_n X dX8_spliceFrom_40 rfl 3 rfl ?_
      exact rc_iret X hr dX8_spliceFrom_41 h
    · have h := h.2 c12
      refine rc_iinc X [(3, .int (rc_o (x3 + 1))), (0, .ref a0), (1, .int (rc_o a1)), (2, .int (rc_o a2))] dX8_spliceFrom_34 3 rfl (by decide) rfl ?_
      refine rc_goto X 2 dX8_spliceFrom_37 (by decide) ?_
      refine rc_subl [(0, .ref a0), (1, .int (rc_o a1)), (2, .int (rc_o a2)), (3, .int (rc_o (x3 + 1)))] [1, 2, 3, 0] rfl ?_
      exact hk2 _ _ h
noncomputable def rX8_spliceFrom_2 (G : rc_G) (post : Int → rc_M → Prop) (a0 : Nat) (a1 : Int) (a2 : Int)  (n : Nat) : Int → rc_M → Prop :=
  Nat.rec (motive := fun _ => Int → rc_M → Prop) (fun _ _ => False) (fun _ ih => wX8_spliceFrom_2 G post a0 a1 a2  ih) n
set_option maxRecDepth 100000 in
set_option maxHeartbeats 4000000 in
theorem sX8_spliceFrom_2 {p : Program} {l : Launch} {e : Env} {s : State} {m : MethodId} {below : List Frame} {meth : Method} {c : Code} {G : rc_G} {a0 : Nat} {a1 : Int} {a2 : Int} {I : rc_M} {post : Int → rc_M → Prop}  {n : Nat} {x3 : Int} (X : rc_X p s m ([.ref a0, .int (rc_o a1), .int (rc_o a2)] : List Value).toArray meth c cX8_spliceFrom 4 wsX8_spliceFrom RX8 G (rc_A G)) (hr : meth.sig.returnType = some .int) (T0 : kX8 G a0)  (h : rX8_spliceFrom_2 G post a0 a1 a2  n x3 I) : rc_g p l e rmX8_spliceFrom s m ([.ref a0, .int (rc_o a1), .int (rc_o a2)] : List Value).toArray below meth c 0 0 (MQ below (rc_QI G post) ([.ref a0, .int (rc_o a1), .int (rc_o a2)] : List Value).toArray s 0 0 (rc_A G)) 4 G (rc_A G) 2 [(0, .ref a0), (1, .int (rc_o a1)), (2, .int (rc_o a2)), (3, .int (rc_o x3))] [] I := by
  induction n generalizing x3 I with
  | zero => exact h.elim
  | succ n ih => exact gX8_spliceFrom_2 (k2 := rX8_spliceFrom_2 G post a0 a1 a2  n) X hr T0  (fun x3 J h2 => ih h2) h
def wX8_spliceFrom (G : rc_G) (a0 : Nat) (a1 : Int) (a2 : Int) (I : rc_M) (post : Int → rc_M → Prop) : Prop :=
  ∃ n, rX8_spliceFrom_2 G post a0 a1 a2  n 0 I
set_option maxRecDepth 100000 in
set_option maxHeartbeats 4000000 in
theorem gX8_spliceFrom_0 {p : Program} {l : Launch} {e : Env} {s : State} {m : MethodId} {below : List Frame} {meth : Method} {c : Code} {G : rc_G} {a0 : Nat} {a1 : Int} {a2 : Int} {I : rc_M} {post : Int → rc_M → Prop}  (X : rc_X p s m ([.ref a0, .int (rc_o a1), .int (rc_o a2)] : List Value).toArray meth c cX8_spliceFrom 4 wsX8_spliceFrom RX8 G (rc_A G)) (hr : meth.sig.returnType = some .int) (T0 : kX8 G a0)  (h : wX8_spliceFrom G a0 a1 a2 I post) : rc_g p l e rmX8_spliceFrom s m ([.ref a0, .int (rc_o a1), .int (rc_o a2)] : List Value).toArray below meth c 0 0 (MQ below (rc_QI G post) ([.ref a0, .int (rc_o a1), .int (rc_o a2)] : List Value).toArray s 0 0 (rc_A G)) 4 G (rc_A G) 0 [(0, .ref a0), (1, .int (rc_o a1)), (2, .int (rc_o a2))] [] I := by
  unfold wX8_spliceFrom at h
  refine rc_iconst X dX8_spliceFrom_0 ?_
  refine rc_istore_n X [(3, .int (rc_o 0)), (0, .ref a0), (1, .int (rc_o a1)), (2, .int (rc_o a2))] dX8_spliceFrom_1 rfl (by decide) rfl ?_
  refine rc_subl [(0, .ref a0), (1, .int (rc_o a1)), (2, .int (rc_o a2)), (3, .int (rc_o 0))] [1, 2, 3, 0] rfl ?_
  obtain ⟨n, h⟩ := h
  exact sX8_spliceFrom_2 X hr T0  h
theorem mX8_spliceFrom {l : Launch} {G : rc_G} {a0 : Nat} {a1 : Int} {a2 : Int} {I : rc_M} {post : Int → rc_M → Prop} (T0 : kX8 G a0) (h : wX8_spliceFrom G a0 a1 a2 I post) : rc_CI l yX8_spliceFrom wsX8_spliceFrom rmX8_spliceFrom G [.ref a0, .int (rc_o a1), .int (rc_o a2)] I post :=
  rc_body (by decide +kernel) rfl rfl (Nat.le_of_ble_eq_true rfl) rfl (fun p e s m below meth c X hr => gX8_spliceFrom_0 X hr T0 h)
/-! X8_strengthAt -/
abbrev rmX8_strengthAt : Room := { frames := 2, cells := 0, slots := 0, locals := 44 }
theorem dyX8_strengthAt : yX8_strengthAt.cls = RX8 ∧ yX8_strengthAt.cls ≠ "java/lang/invoke/MethodHandle" ∧ yX8_strengthAt.cls ≠ "java/lang/invoke/VarHandle" ∧ (parseMethodDescriptor yX8_strengthAt.desc).map (fun d => d.parameters.length) = some 2 := ⟨rfl, by decide +kernel, by decide +kernel, by decide +kernel⟩
theorem qX8_strengthAt_1 : Cond.fieldLink RX8 7 "ReelChangerModel" "v" "[I" ∈ wsX8_strengthAt := List.mem_of_getElem? (i := 1) (by decide +kernel)
theorem nX8_strengthAt_X8 : ∀ w ∈ wsX80, w ∈ wsX8_strengthAt := fun w h => List.mem_cons_of_mem _ (List.mem_append_right _ (h))
def wX8_strengthAt (G : rc_G) (a0 : Nat) (a1 : Int) (a2 : Int) (I : rc_M) (post : Int → rc_M → Prop) : Prop :=
  wX8_spliceFrom G a0 a1 a2 I (fun r2 I1 => wX8_at G a1 1 I1 (fun r4 I3 => (0 ≤ r4 ∧ r4 < 199) ∧ (rc_R r2 ∧ (rc_R (I3 (a0 + 1) r4) ∧ (((I3 (a0 + 1) r4) ≤ r2 → post (-1) I3) ∧ (¬ (I3 (a0 + 1) r4) ≤ r2 → wX8_at G a1 (2 + (2 * r2)) I3 (fun r10 I9 => (0 ≤ r10 ∧ r10 < 199) ∧ (rc_R (I9 (a0 + 1) r10) ∧ (rc_R a2 ∧ ((¬ (I9 (a0 + 1) r10) = a2 → post (-1) I9) ∧ ((I9 (a0 + 1) r10) = a2 → wX8_at G a1 (3 + (2 * r2)) I9 (fun r16 I15 => post r16 I15))))))))))))
set_option maxRecDepth 100000 in
set_option maxHeartbeats 4000000 in
theorem gX8_strengthAt_0 {p : Program} {l : Launch} {e : Env} {s : State} {m : MethodId} {below : List Frame} {meth : Method} {c : Code} {G : rc_G} {a0 : Nat} {a1 : Int} {a2 : Int} {I : rc_M} {post : Int → rc_M → Prop}  (X : rc_X p s m ([.ref a0, .int (rc_o a1), .int (rc_o a2)] : List Value).toArray meth c cX8_strengthAt 4 wsX8_strengthAt RX8 G (rc_A G)) (hr : meth.sig.returnType = some .int) (T0 : kX8 G a0)  (h : wX8_strengthAt G a0 a1 a2 I post) : rc_g p l e rmX8_strengthAt s m ([.ref a0, .int (rc_o a1), .int (rc_o a2)] : List Value).toArray below meth c 0 0 (MQ below (rc_QI G post) ([.ref a0, .int (rc_o a1), .int (rc_o a2)] : List Value).toArray s 0 0 (rc_A G)) 4 G (rc_A G) 0 [(0, .ref a0), (1, .int (rc_o a1)), (2, .int (rc_o a2))] [] I := by
  unfold wX8_strengthAt at h
  refine rc_aload_n X dX8_strengthAt_0 rfl 0 rfl ?_
  refine rc_iload_n X dX8_strengthAt_1 rfl 1 rfl ?_
  refine rc_iload_n X dX8_strengthAt_2 rfl 2 rfl ?_
  refine rc_cVI (rest := []) X (mX8_spliceFrom T0 h) gX8_strengthAt_X8_spliceFrom rfl ⟨rfl, rfl⟩ dyX8_spliceFrom ⟨Nat.le_of_ble_eq_true rfl, Nat.le_of_ble_eq_true rfl⟩ (rc_recv X T0.1 rfl) rfl rfl (Nat.le_of_ble_eq_true rfl) dX8_strengthAt_3 ⟨Nat.zero_le _, Nat.zero_le _⟩ (fun r2 I1 h => ?_)
  refine rc_istore_n X [(3, .int (rc_o r2)), (0, .ref a0), (1, .int (rc_o a1)), (2, .int (rc_o a2))] dX8_strengthAt_6 rfl (by decide) rfl ?_
  refine rc_iload_n X dX8_strengthAt_7 rfl 0 rfl ?_
  refine rc_aload_n X dX8_strengthAt_8 rfl 1 rfl ?_
  refine gfX8_v X T0.1 nX8_strengthAt_X8 qX8_strengthAt_1 dX8_strengthAt_9 ?_
  refine rc_iload_n X dX8_strengthAt_12 rfl 2 rfl ?_
  refine rc_iconst X dX8_strengthAt_13 ?_
  refine rc_cSI (rest := [.ref (a0 + 1), .int (rc_o r2)]) X (mX8_at  h) gX8_strengthAt_X8_at rfl ⟨rfl, rfl⟩ dyX8_at ⟨Nat.le_of_ble_eq_true rfl, Nat.le_of_ble_eq_true rfl⟩ rfl rfl (Nat.le_of_ble_eq_true rfl) dX8_strengthAt_14 ⟨Nat.zero_le _, Nat.zero_le _⟩ (fun r4 I3 h => ?_)
  obtain ⟨c5, h⟩ := h
  refine rc_iald X T0.2.1 (by decide) dX8_strengthAt_17 c5 ?_
  obtain ⟨c6, h⟩ := h
  obtain ⟨c7, h⟩ := h
  refine rc_ic_ge X 51 dX8_strengthAt_18 (by decide) c6 c7 (fun c8 => ?_) (fun c8 => ?_)
  · have h := h.1 c8
    refine rc_iconst X dX8_strengthAt_51 ?_
    exact rc_iret X hr dX8_strengthAt_52 h
  · have h := h.2 c8
    refine rc_aload_n X dX8_strengthAt_21 rfl 1 rfl ?_
    refine gfX8_v X T0.1 nX8_strengthAt_X8 qX8_strengthAt_1 dX8_strengthAt_22 ?_
    refine rc_iload_n X dX8_strengthAt_25 rfl 2 rfl ?_
    refine rc_iconst X dX8_strengthAt_26 ?_
    refine rc_iconst X dX8_strengthAt_27 ?_
    refine rc_iload_n X dX8_strengthAt_28 rfl 0 rfl ?_
    refine rc_imul X dX8_strengthAt_29 ?_
    refine rc_iadd X dX8_strengthAt_30 ?_
    refine rc_cSI (rest := [.ref (a0 + 1)]) X (mX8_at  h) gX8_strengthAt_X8_at rfl ⟨rfl, rfl⟩ dyX8_at ⟨Nat.le_of_ble_eq_true rfl, Nat.le_of_ble_eq_true rfl⟩ rfl rfl (Nat.le_of_ble_eq_true rfl) dX8_strengthAt_31 ⟨Nat.zero_le _, Nat.zero_le _⟩ (fun r10 I9 h => ?_)
    obtain ⟨c11, h⟩ := h
    refine rc_iald X T0.2.1 (by decide) dX8_strengthAt_34 c11 ?_
    refine rc_iload_n X dX8_strengthAt_35 rfl 3 rfl ?_
    obtain ⟨c12, h⟩ := h
    obtain ⟨c13, h⟩ := h
    refine rc_ic_ne X 51 dX8_strengthAt_36 (by decide) c12 c13 (fun c14 => ?_) (fun c14 => ?_)
    · have h := h.1 c14
      refine rc_iconst X dX8_strengthAt_51 ?_
      exact rc_iret X hr dX8_strengthAt_52 h
    · have h := h.2 c14
      refine rc_iload_n X dX8_strengthAt_39 rfl 2 rfl ?_
      refine rc_iconst X dX8_strengthAt_40 ?_
      refine rc_iconst X dX8_strengthAt_41 ?_
      refine rc_iload_n X dX8_strengthAt_42 rfl 0 rfl ?_
      refine rc_imul X dX8_strengthAt_43 ?_
      refine rc_iadd X dX8_strengthAt_44 ?_
      refine rc_cSI (rest := []) X (mX8_at  h) gX8_strengthAt_X8_at rfl ⟨rfl, rfl⟩ dyX8_at ⟨Nat.le_of_ble_eq_true rfl, Nat.le_of_ble_eq_true rfl⟩ rfl rfl (Nat.le_of_ble_eq_true rfl) dX8_strengthAt_45 ⟨Nat.zero_le _, Nat.zero_le _⟩ (fun r16 I15 h => ?_)
      refine rc_goto X 52 dX8_strengthAt_48 (by decide) ?_
      exact rc_iret X hr dX8_strengthAt_52 h
theorem mX8_strengthAt {l : Launch} {G : rc_G} {a0 : Nat} {a1 : Int} {a2 : Int} {I : rc_M} {post : Int → rc_M → Prop} (T0 : kX8 G a0) (h : wX8_strengthAt G a0 a1 a2 I post) : rc_CI l yX8_strengthAt wsX8_strengthAt rmX8_strengthAt G [.ref a0, .int (rc_o a1), .int (rc_o a2)] I post :=
  rc_body (by decide +kernel) rfl rfl (Nat.le_of_ble_eq_true rfl) rfl (fun p e s m below meth c X hr => gX8_strengthAt_0 X hr T0 h)
/-! X8_splice -/
abbrev rmX8_splice : Room := { frames := 3, cells := 0, slots := 0, locals := 67 }
theorem dyX8_splice : yX8_splice.cls = RX8 ∧ yX8_splice.cls ≠ "java/lang/invoke/MethodHandle" ∧ yX8_splice.cls ≠ "java/lang/invoke/VarHandle" ∧ (parseMethodDescriptor yX8_splice.desc).map (fun d => d.parameters.length) = some 3 := ⟨rfl, by decide +kernel, by decide +kernel, by decide +kernel⟩
theorem qX8_splice_2 : Cond.fieldLink RX8 7 "ReelChangerModel" "v" "[I" ∈ wsX8_splice := List.mem_of_getElem? (i := 2) (by decide +kernel)
theorem nX8_splice_X8 : ∀ w ∈ wsX80, w ∈ wsX8_splice := fun w h => List.mem_cons_of_mem _ (List.mem_append_right _ (h))
theorem qX8_splice_3 : Cond.constant RX8 51 (-100002) ∈ wsX8_splice := List.mem_of_getElem? (i := 3) (by decide +kernel)
theorem qX8_splice_4 : Cond.constant RX8 52 (-100004) ∈ wsX8_splice := List.mem_of_getElem? (i := 4) (by decide +kernel)
theorem qX8_splice_1 : Cond.constant RX8 64 (-100001) ∈ wsX8_splice := List.mem_of_getElem? (i := 1) (by decide +kernel)
def wX8_splice_146 (G : rc_G) (post : Int → rc_M → Prop) (a0 : Nat) (a1 : Int) (a2 : Int) (a3 : Int)  (x5 : Int) (I : rc_M) : Prop :=
  wX8_at G a1 (2 + (2 * x5)) I (fun r26 I25 => (0 ≤ r26 ∧ r26 < 199) ∧ (∀ I28, I28 = rc_s I25 (a0 + 1) r26 a2 → wX8_at G a1 (3 + (2 * x5)) I28 (fun r30 I29 => (0 ≤ r30 ∧ r30 < 199) ∧ (∀ I32, I32 = rc_s I29 (a0 + 1) r30 a3 → wX8_at G a1 1 I32 (fun r34 I33 => (0 ≤ r34 ∧ r34 < 199) ∧ (post (I33 (a0 + 1) r34) I33))))))
set_option maxRecDepth 100000 in
set_option maxHeartbeats 4000000 in
theorem gX8_splice_146 {p : Program} {l : Launch} {e : Env} {s : State} {m : MethodId} {below : List Frame} {meth : Method} {c : Code} {G : rc_G} {a0 : Nat} {a1 : Int} {a2 : Int} {a3 : Int} {I : rc_M} {post : Int → rc_M → Prop}  {x5 : Int} (X : rc_X p s m ([.ref a0, .int (rc_o a1), .int (rc_o a2), .int (rc_o a3)] : List Value).toArray meth c cX8_splice 7 wsX8_splice RX8 G (rc_A G)) (hr : meth.sig.returnType = some .int) (T0 : kX8 G a0)   (h : wX8_splice_146 G post a0 a1 a2 a3  x5 I) : rc_g p l e rmX8_splice s m ([.ref a0, .int (rc_o a1), .int (rc_o a2), .int (rc_o a3)] : List Value).toArray below meth c 0 0 (MQ below (rc_QI G post) ([.ref a0, .int (rc_o a1), .int (rc_o a2), .int (rc_o a3)] : List Value).toArray s 0 0 (rc_A G)) 7 G (rc_A G) 146 [(0, .ref a0), (1, .int (rc_o a1)), (2, .int (rc_o a2)), (3, .int (rc_o a3)), (5, .int (rc_o x5))] [] I := by
  unfold wX8_splice_146 at h
  refine rc_aload_n X dX8_splice_146 rfl 0 rfl ?_
  refine gfX8_v X T0.1 nX8_splice_X8 qX8_splice_2 dX8_splice_147 ?_
  refine rc_iload_n X dX8_splice_150 rfl 1 rfl ?_
  refine rc_iconst X dX8_splice_151 ?_
  refine rc_iconst X dX8_splice_152 ?_
  refine rc_iload X dX8_splice_153 4 rfl ?_
  refine rc_imul X dX8_splice_155 ?_
  refine rc_iadd X dX8_splice_156 ?_
  refine rc_cSI (rest := [.ref (a0 + 1)]) X (mX8_at  h) gX8_splice_X8_at rfl ⟨rfl, rfl⟩ dyX8_at ⟨Nat.le_of_ble_eq_true rfl, Nat.le_of_ble_eq_true rfl⟩ rfl rfl (Nat.le_of_ble_eq_true rfl) dX8_splice_157 ⟨Nat.zero_le _, Nat.zero_le _⟩ (fun r26 I25 h => ?_)
  refine rc_iload_n X dX8_splice_160 rfl 2 rfl ?_
  obtain ⟨c27, h⟩ := h
  refine rc_iast X T0.2.1 (by decide) dX8_splice_161 c27 (fun I28 e28 => ?_)
  have h := h I28 e28
  refine rc_aload_n X dX8_splice_162 rfl 0 rfl ?_
  refine gfX8_v X T0.1 nX8_splice_X8 qX8_splice_2 dX8_splice_163 ?_
  refine rc_iload_n X dX8_splice_166 rfl 1 rfl ?_
  refine rc_iconst X dX8_splice_167 ?_
  refine rc_iconst X dX8_splice_168 ?_
  refine rc_iload X dX8_splice_169 4 rfl ?_
  refine rc_imul X dX8_splice_171 ?_
  refine rc_iadd X dX8_splice_172 ?_
  refine rc_cSI (rest := [.ref (a0 + 1)]) X (mX8_at  h) gX8_splice_X8_at rfl ⟨rfl, rfl⟩ dyX8_at ⟨Nat.le_of_ble_eq_true rfl, Nat.le_of_ble_eq_true rfl⟩ rfl rfl (Nat.le_of_ble_eq_true rfl) dX8_splice_173 ⟨Nat.zero_le _, Nat.zero_le _⟩ (fun r30 I29 h => ?_)
  refine rc_iload_n X dX8_splice_176 rfl 3 rfl ?_
  obtain ⟨c31, h⟩ := h
  refine rc_iast X T0.2.1 (by decide) dX8_splice_177 c31 (fun I32 e32 => ?_)
  have h := h I32 e32
  refine rc_aload_n X dX8_splice_178 rfl 0 rfl ?_
  refine gfX8_v X T0.1 nX8_splice_X8 qX8_splice_2 dX8_splice_179 ?_
  refine rc_iload_n X dX8_splice_182 rfl 1 rfl ?_
  refine rc_iconst X dX8_splice_183 ?_
  refine rc_cSI (rest := [.ref (a0 + 1)]) X (mX8_at  h) gX8_splice_X8_at rfl ⟨rfl, rfl⟩ dyX8_at ⟨Nat.le_of_ble_eq_true rfl, Nat.le_of_ble_eq_true rfl⟩ rfl rfl (Nat.le_of_ble_eq_true rfl) dX8_splice_184 ⟨Nat.zero_le _, Nat.zero_le _⟩ (fun r34 I33 h => ?_)
  obtain ⟨c35, h⟩ := h
  refine rc_iald X T0.2.1 (by decide) dX8_splice_187 c35 ?_
  exact rc_iret X hr dX8_splice_188 h
def wX8_splice_91 (G : rc_G) (post : Int → rc_M → Prop) (a0 : Nat) (a1 : Int) (a2 : Int) (a3 : Int) (k91 : Int → Int → rc_M → Prop) (x5 : Int) (x6 : Int) (I : rc_M) : Prop :=
  rc_R x6 ∧ (rc_R (2 * x5) ∧ ((x6 < (2 * x5) → wX8_at G a1 1 I (fun r42 I41 => (0 ≤ r42 ∧ r42 < 199) ∧ ((0 ≤ r42 ∧ r42 < 199) ∧ (∀ I45, I45 = rc_s I41 (a0 + 1) r42 ((I41 (a0 + 1) r42) + 1) → wX8_splice_146 G post a0 a1 a2 a3  x5 I45)))) ∧ (¬ x6 < (2 * x5) → wX8_at G a1 (4 + x6) I (fun r47 I46 => wX8_at G a1 (2 + x6) I46 (fun r49 I48 => (0 ≤ r49 ∧ r49 < 199) ∧ ((0 ≤ r47 ∧ r47 < 199) ∧ (∀ I52, I52 = rc_s I48 (a0 + 1) r47 (I48 (a0 + 1) r49) → k91 x5 (x6 + (-1)) I52)))))))
set_option maxRecDepth 100000 in
set_option maxHeartbeats 4000000 in
theorem gX8_splice_91 {p : Program} {l : Launch} {e : Env} {s : State} {m : MethodId} {below : List Frame} {meth : Method} {c : Code} {G : rc_G} {a0 : Nat} {a1 : Int} {a2 : Int} {a3 : Int} {I : rc_M} {post : Int → rc_M → Prop} {k91 : Int → Int → rc_M → Prop} {x5 : Int} {x6 : Int} (X : rc_X p s m ([.ref a0, .int (rc_o a1), .int (rc_o a2), .int (rc_o a3)] : List Value).toArray meth c cX8_splice 7 wsX8_splice RX8 G (rc_A G)) (hr : meth.sig.returnType = some .int) (T0 : kX8 G a0) (hk91 : ∀ (x5 : Int) (x6 : Int) (J : rc_M), k91 x5 x6 J → rc_g p l e rmX8_splice s m ([.ref a0, .int (rc_o a1), .int (rc_o a2), .int (rc_o a3)] : List Value).toArray below meth c 0 0 (MQ below (rc_QI G post) ([.ref a0, .int (rc_o a1), .int (rc_o a2), .int (rc_o a3)] : List Value).toArray s 0 0 (rc_A G)) 7 G (rc_A G) 91 [(0, .ref a0), (1, .int (rc_o a1)), (2, .int (rc_o a2)), (3, .int (rc_o a3)), (5, .int (rc_o x5)), (6, .int (rc_o x6))] [] J)  (h : wX8_splice_91 G post a0 a1 a2 a3 k91 x5 x6 I) : rc_g p l e rmX8_splice s m ([.ref a0, .int (rc_o a1), .int (rc_o a2), .int (rc_o a3)] : List Value).toArray below meth c 0 0 (MQ below (rc_QI G post) ([.ref a0, .int (rc_o a1), .int (rc_o a2), .int (rc_o a3)] : List Value).toArray s 0 0 (rc_A G)) 7 G (rc_A G) 91 [(0, .ref a0), (1, .int (rc_o a1)), (2, .int (rc_o a2)), (3, .int (rc_o a3)), (5, .int (rc_o x5)), (6, .int (rc_o x6))] [] I := by
  unfold wX8_splice_91 at h
  refine rc_iload X dX8_splice_91 5 rfl ?_
  refine rc_iconst X dX8_splice_93 ?_
  refine rc_iload X dX8_splice_94 4 rfl ?_
  refine rc_imul X dX8_splice_96 ?_
  obtain ⟨c38, h⟩ := h
  obtain ⟨c39, h⟩ := h
  refine rc_ic_lt X 132 dX8_splice_97 (by decide) c38 c39 (fun c40 => ?_) (fun c40 => ?_)
  · have h := h.1 c40
    refine rc_aload_n X dX8_splice_132 rfl 0 rfl ?_
    refine gfX8_v X T0.1 nX8_splice_X8 qX8_splice_2 dX8_splice_133 ?_
    refine rc_iload_n X dX8_splice_136 rfl 1 rfl ?_
    refine rc_iconst X dX8_splice_137 ?_
    refine rc_cSI (rest := [.ref (a0 + 1)]) X (mX8_at  h) gX8_splice_X8_at rfl ⟨rfl, rfl⟩ dyX8_at ⟨Nat.le_of_ble_eq_true rfl, Nat.le_of_ble_eq_true rfl⟩ rfl rfl (Nat.le_of_ble_eq_true rfl) dX8_splice_138 ⟨Nat.zero_le _, Nat.zero_le _⟩ (fun r42 I41 h => ?_)
    refine rc_dup2 X dX8_splice_141 rfl rfl ?_
    obtain ⟨c43, h⟩ := h
    refine rc_iald X T0.2.1 (by decide) dX8_splice_142 c43 ?_
    refine rc_iconst X dX8_splice_143 ?_
    refine rc_iadd X dX8_splice_144 ?_
    obtain ⟨c44, h⟩ := h
    refine rc_iast X T0.2.1 (by decide) dX8_splice_145 c44 (fun I45 e45 => ?_)
    have h := h I45 e45
    refine rc_subl [(0, .ref a0), (1, .int (rc_o a1)), (2, .int (rc_o a2)), (3, .int (rc_o a3)), (5, .int (rc_o x5))] [0, 1, 2, 3, 4] rfl ?_
    exact gX8_splice_146 X hr T0   h
  · have h := h.2 c40
    refine rc_aload_n X dX8_splice_100 rfl 0 rfl ?_
    refine gfX8_v X T0.1 nX8_splice_X8 qX8_splice_2 dX8_splice_101 ?_
    refine rc_iload_n X dX8_splice_104 rfl 1 rfl ?_
    refine rc_iconst X dX8_splice_105 ?_
    refine rc_iload X dX8_splice_106 5 rfl ?_
    refine rc_iadd X dX8_splice_108 ?_
    refine rc_cSI (rest := [.ref (a0 + 1)]) X (mX8_at  h) gX8_splice_X8_at rfl ⟨rfl, rfl⟩ dyX8_at ⟨Nat.le_of_ble_eq_true rfl, Nat.le_of_ble_eq_true rfl⟩ rfl rfl (Nat.le_of_ble_eq_true rfl) dX8_splice_109 ⟨Nat.zero_le _, Nat.zero_le _⟩ (fun r47 I46 h => ?_)
    refine rc_aload_n X dX8_splice_112 rfl 0 rfl ?_
    refine gfX8_v X T0.1 nX8_splice_X8 qX8_splice_2 dX8_splice_113 ?_
    refine rc_iload_n X dX8_splice_116 rfl 1 rfl ?_
    refine rc_iconst X dX8_splice_117 ?_
    refine rc_iload X dX8_splice_118 5 rfl ?_
    refine rc_iadd X dX8_splice_120 ?_
    refine rc_cSI (rest := [.ref (a0 + 1), .int (rc_o r47), .ref (a0 + 1)]) X (mX8_at  h) gX8_splice_X8_at rfl ⟨rfl, rfl⟩ dyX8_at ⟨Nat.le_of_ble_eq_true rfl, Nat.le_of_ble_eq_true rfl⟩ rfl rfl (Nat.le_of_ble_eq_true rfl) dX8_splice_121 ⟨Nat.zero_le _, Nat.zero_le _⟩ (fun r49 I48 h => ?_)
    obtain ⟨c50, h⟩ := h
    refine rc_iald X T0.2.1 (by decide) dX8_splice_124 c50 ?_
    obtain ⟨c51, h⟩ := h
    refine rc_iast X T0.2.1 (by decide) dX8_splice_125 c51 (fun I52 e52 => ?_)
    have h := h I52 e52
    refine rc_iinc X [(6, .int (rc_o (x6 + (-1)))), (0, .ref a0), (1, .int (rc_o a1)), (2, .int (rc_o a2)), (3, .int (rc_o a3)), (5, .int (rc_o x5))] dX8_splice_126 5 rfl (by decide) rfl ?_
    refine rc_goto X 91 dX8_splice_129 (by decide) ?_
    refine rc_subl [(0, .ref a0), (1, .int (rc_o a1)), (2, .int (rc_o a2)), (3, .int (rc_o a3)), (5, .int (rc_o x5)), (6, .int (rc_o (x6 + (-1))))] [1, 2, 3, 4, 5, 0] rfl ?_
    exact hk91 _ _ _ h
noncomputable def rX8_splice_91 (G : rc_G) (post : Int → rc_M → Prop) (a0 : Nat) (a1 : Int) (a2 : Int) (a3 : Int)  (n : Nat) : Int → Int → rc_M → Prop :=
  Nat.rec (motive := fun _ => Int → Int → rc_M → Prop) (fun _ _ _ => False) (fun _ ih => wX8_splice_91 G post a0 a1 a2 a3  ih) n
set_option maxRecDepth 100000 in
set_option maxHeartbeats 4000000 in
theorem sX8_splice_91 {p : Program} {l : Launch} {e : Env} {s : State} {m : MethodId} {below : List Frame} {meth : Method} {c : Code} {G : rc_G} {a0 : Nat} {a1 : Int} {a2 : Int} {a3 : Int} {I : rc_M} {post : Int → rc_M → Prop}  {n : Nat} {x5 : Int} {x6 : Int} (X : rc_X p s m ([.ref a0, .int (rc_o a1), .int (rc_o a2), .int (rc_o a3)] : List Value).toArray meth c cX8_splice 7 wsX8_splice RX8 G (rc_A G)) (hr : meth.sig.returnType = some .int) (T0 : kX8 G a0)  (h : rX8_splice_91 G post a0 a1 a2 a3  n x5 x6 I) : rc_g p l e rmX8_splice s m ([.ref a0, .int (rc_o a1), .int (rc_o a2), .int (rc_o a3)] : List Value).toArray below meth c 0 0 (MQ below (rc_QI G post) ([.ref a0, .int (rc_o a1), .int (rc_o a2), .int (rc_o a3)] : List Value).toArray s 0 0 (rc_A G)) 7 G (rc_A G) 91 [(0, .ref a0), (1, .int (rc_o a1)), (2, .int (rc_o a2)), (3, .int (rc_o a3)), (5, .int (rc_o x5)), (6, .int (rc_o x6))] [] I := by
  induction n generalizing x5 x6 I with
  | zero => exact h.elim
  | succ n ih => exact gX8_splice_91 (k91 := rX8_splice_91 G post a0 a1 a2 a3  n) X hr T0  (fun x5 x6 J h2 => ih h2) h
def wX8_splice (G : rc_G) (a0 : Nat) (a1 : Int) (a2 : Int) (a3 : Int) (I : rc_M) (post : Int → rc_M → Prop) : Prop :=
  wX8_isReel G a0 a1 I (fun r2 I1 => rc_R r2 ∧ ((¬ r2 = 0 → wX8_at G a1 0 I1 (fun r6 I5 => (0 ≤ r6 ∧ r6 < 199) ∧ (wX8_in G a2 1 ((I5 (a0 + 1) r6) - 1) I5 (fun r9 I8 => rc_R r9 ∧ ((r9 = 0 → post (-100002) I8) ∧ (¬ r9 = 0 → wX8_in G a3 1 9 I8 (fun r13 I12 => rc_R r13 ∧ ((¬ r13 = 0 → wX8_at G a1 1 I12 (fun r17 I16 => (0 ≤ r17 ∧ r17 < 199) ∧ (wX8_spliceFrom G a0 a1 a2 I16 (fun r20 I19 => wX8_strengthAt G a0 a1 a2 I19 (fun r22 I21 => rc_R r22 ∧ ((0 ≤ r22 → wX8_splice_146 G post a0 a1 a2 a3  r20 I21) ∧ (¬ 0 ≤ r22 → rc_R (I16 (a0 + 1) r17) ∧ ((¬ (I16 (a0 + 1) r17) = 6 → ∃ n, rX8_splice_91 G post a0 a1 a2 a3  n r20 ((2 * (I16 (a0 + 1) r17)) - 1) I21) ∧ ((I16 (a0 + 1) r17) = 6 → post (-100004) I21))))))))) ∧ (r13 = 0 → post (-100002) I12))))))))) ∧ (r2 = 0 → post (-100001) I1)))
set_option maxRecDepth 100000 in
set_option maxHeartbeats 4000000 in
theorem gX8_splice_0 {p : Program} {l : Launch} {e : Env} {s : State} {m : MethodId} {below : List Frame} {meth : Method} {c : Code} {G : rc_G} {a0 : Nat} {a1 : Int} {a2 : Int} {a3 : Int} {I : rc_M} {post : Int → rc_M → Prop}  (X : rc_X p s m ([.ref a0, .int (rc_o a1), .int (rc_o a2), .int (rc_o a3)] : List Value).toArray meth c cX8_splice 7 wsX8_splice RX8 G (rc_A G)) (hr : meth.sig.returnType = some .int) (T0 : kX8 G a0)  (h : wX8_splice G a0 a1 a2 a3 I post) : rc_g p l e rmX8_splice s m ([.ref a0, .int (rc_o a1), .int (rc_o a2), .int (rc_o a3)] : List Value).toArray below meth c 0 0 (MQ below (rc_QI G post) ([.ref a0, .int (rc_o a1), .int (rc_o a2), .int (rc_o a3)] : List Value).toArray s 0 0 (rc_A G)) 7 G (rc_A G) 0 [(0, .ref a0), (1, .int (rc_o a1)), (2, .int (rc_o a2)), (3, .int (rc_o a3))] [] I := by
  unfold wX8_splice at h
  refine rc_aload_n X dX8_splice_0 rfl 0 rfl ?_
  refine rc_iload_n X dX8_splice_1 rfl 1 rfl ?_
  refine rc_cVI (rest := []) X (mX8_isReel T0 h) gX8_splice_X8_isReel rfl ⟨rfl, rfl⟩ dyX8_isReel ⟨Nat.le_of_ble_eq_true rfl, Nat.le_of_ble_eq_true rfl⟩ (rc_recv X T0.1 rfl) rfl rfl (Nat.le_of_ble_eq_true rfl) dX8_splice_2 ⟨Nat.zero_le _, Nat.zero_le _⟩ (fun r2 I1 h => ?_)
  obtain ⟨c3, h⟩ := h
  refine rc_if_ne X 11 dX8_splice_5 (by decide) c3 (fun c4 => ?_) (fun c4 => ?_)
  · have h := h.1 c4
    refine rc_iload_n X dX8_splice_11 rfl 2 rfl ?_
    refine rc_iconst X dX8_splice_12 ?_
    refine rc_aload_n X dX8_splice_13 rfl 0 rfl ?_
    refine gfX8_v X T0.1 nX8_splice_X8 qX8_splice_2 dX8_splice_14 ?_
    refine rc_iload_n X dX8_splice_17 rfl 1 rfl ?_
    refine rc_iconst X dX8_splice_18 ?_
    refine rc_cSI (rest := [.ref (a0 + 1), .int (rc_o 1), .int (rc_o a2)]) X (mX8_at  h) gX8_splice_X8_at rfl ⟨rfl, rfl⟩ dyX8_at ⟨Nat.le_of_ble_eq_true rfl, Nat.le_of_ble_eq_true rfl⟩ rfl rfl (Nat.le_of_ble_eq_true rfl) dX8_splice_19 ⟨Nat.zero_le _, Nat.zero_le _⟩ (fun r6 I5 h => ?_)
    obtain ⟨c7, h⟩ := h
    refine rc_iald X T0.2.1 (by decide) dX8_splice_22 c7 ?_
    refine rc_iconst X dX8_splice_23 ?_
    refine rc_isub X dX8_splice_24 ?_
    refine rc_cSI (rest := []) X (mX8_in  h) gX8_splice_X8_in rfl ⟨rfl, rfl⟩ dyX8_in ⟨Nat.le_of_ble_eq_true rfl, Nat.le_of_ble_eq_true rfl⟩ rfl rfl (Nat.le_of_ble_eq_true rfl) dX8_splice_25 ⟨Nat.zero_le _, Nat.zero_le _⟩ (fun r9 I8 h => ?_)
    obtain ⟨c10, h⟩ := h
    refine rc_if_eq X 41 dX8_splice_28 (by decide) c10 (fun c11 => ?_) (fun c11 => ?_)
    · have h := h.1 c11
      refine rc_ldc (n := (-100002)) X qX8_splice_3 (by decide +kernel) dX8_splice_41 ?_
      exact rc_iret X hr dX8_splice_43 h
    · have h := h.2 c11
      refine rc_iload_n X dX8_splice_31 rfl 3 rfl ?_
      refine rc_iconst X dX8_splice_32 ?_
      refine rc_bipush X dX8_splice_33 (rc_b8 _ ⟨by decide, by decide⟩) ?_
      refine rc_cSI (rest := []) X (mX8_in  h) gX8_splice_X8_in rfl ⟨rfl, rfl⟩ dyX8_in ⟨Nat.le_of_ble_eq_true rfl, Nat.le_of_ble_eq_true rfl⟩ rfl rfl (Nat.le_of_ble_eq_true rfl) dX8_splice_35 ⟨Nat.zero_le _, Nat.zero_le _⟩ (fun r13 I12 h => ?_)
      obtain ⟨c14, h⟩ := h
      refine rc_if_ne X 44 dX8_splice_38 (by decide) c14 (fun c15 => ?_) (fun c15 => ?_)
      · have h := h.1 c15
        refine rc_aload_n X dX8_splice_44 rfl 0 rfl ?_
        refine gfX8_v X T0.1 nX8_splice_X8 qX8_splice_2 dX8_splice_45 ?_
        refine rc_iload_n X dX8_splice_48 rfl 1 rfl ?_
        refine rc_iconst X dX8_splice_49 ?_
        refine rc_cSI (rest := [.ref (a0 + 1)]) X (mX8_at  h) gX8_splice_X8_at rfl ⟨rfl, rfl⟩ dyX8_at ⟨Nat.le_of_ble_eq_true rfl, Nat.le_of_ble_eq_true rfl⟩ rfl rfl (Nat.le_of_ble_eq_true rfl) dX8_splice_50 ⟨Nat.zero_le _, Nat.zero_le _⟩ (fun r17 I16 h => ?_)
        obtain ⟨c18, h⟩ := h
        refine rc_iald X T0.2.1 (by decide) dX8_splice_53 c18 ?_
        refine rc_istore X [(4, .int (rc_o (I16 (a0 + 1) r17))), (0, .ref a0), (1, .int (rc_o a1)), (2, .int (rc_o a2)), (3, .int (rc_o a3))] dX8_splice_54 (by decide) rfl ?_
        refine rc_aload_n X dX8_splice_56 rfl 1 rfl ?_
        refine rc_iload_n X dX8_splice_57 rfl 2 rfl ?_
        refine rc_iload_n X dX8_splice_58 rfl 3 rfl ?_
        refine rc_cVI (rest := []) X (mX8_spliceFrom T0 h) gX8_splice_X8_spliceFrom rfl ⟨rfl, rfl⟩ dyX8_spliceFrom ⟨Nat.le_of_ble_eq_true rfl, Nat.le_of_ble_eq_true rfl⟩ (rc_recv X T0.1 rfl) rfl rfl (Nat.le_of_ble_eq_true rfl) dX8_splice_59 ⟨Nat.zero_le _, Nat.zero_le _⟩ (fun r20 I19 h => ?_)
        refine rc_istore X [(5, .int (rc_o r20)), (4, .int (rc_o (I16 (a0 + 1) r17))), (0, .ref a0), (1, .int (rc_o a1)), (2, .int (rc_o a2)), (3, .int (rc_o a3))] dX8_splice_62 (by decide) rfl ?_
        refine rc_aload_n X dX8_splice_64 rfl 2 rfl ?_
        refine rc_iload_n X dX8_splice_65 rfl 3 rfl ?_
        refine rc_iload_n X dX8_splice_66 rfl 4 rfl ?_
        refine rc_cVI (rest := []) X (mX8_strengthAt T0 h) gX8_splice_X8_strengthAt rfl ⟨rfl, rfl⟩ dyX8_strengthAt ⟨Nat.le_of_ble_eq_true rfl, Nat.le_of_ble_eq_true rfl⟩ (rc_recv X T0.1 rfl) rfl rfl (Nat.le_of_ble_eq_true rfl) dX8_splice_67 ⟨Nat.zero_le _, Nat.zero_le _⟩ (fun r22 I21 h => ?_)
        obtain ⟨c23, h⟩ := h
        refine rc_if_ge X 146 dX8_splice_70 (by decide) c23 (fun c24 => ?_) (fun c24 => ?_)
        · have h := h.1 c24
          refine rc_subl [(0, .ref a0), (1, .int (rc_o a1)), (2, .int (rc_o a2)), (3, .int (rc_o a3)), (5, .int (rc_o r20))] [2, 3, 4, 5, 0] rfl ?_
          exact gX8_splice_146 X hr T0   h
        · have h := h.2 c24
          refine rc_iload X dX8_splice_73 1 rfl ?_
          refine rc_bipush X dX8_splice_75 (rc_b8 _ ⟨by decide, by decide⟩) ?_
          obtain ⟨c36, h⟩ := h
          refine rc_ic_ne X 83 dX8_splice_77 (by decide) c36 ⟨by decide, by decide⟩ (fun c37 => ?_) (fun c37 => ?_)
          · have h := h.1 c37
            refine rc_iconst X dX8_splice_83 ?_
            refine rc_iload X dX8_splice_84 1 rfl ?_
            refine rc_imul X dX8_splice_86 ?_
            refine rc_iconst X dX8_splice_87 ?_
            refine rc_isub X dX8_splice_88 ?_
            refine rc_istore X [(6, .int (rc_o ((2 * (I16 (a0 + 1) r17)) - 1))), (5, .int (rc_o r20)), (4, .int (rc_o (I16 (a0 + 1) r17))), (0, .ref a0), (1, .int (rc_o a1)), (2, .int (rc_o a2)), (3, .int (rc_o a3))] dX8_splice_89 (by decide) rfl ?_
            refine rc_subl [(0, .ref a0), (1, .int (rc_o a1)), (2, .int (rc_o a2)), (3, .int (rc_o a3)), (5, .int (rc_o r20)), (6, .int (rc_o ((2 * (I16 (a0 + 1) r17)) - 1)))] [3, 4, 5, 6, 1, 0] rfl ?_
            obtain ⟨n, h⟩ := h
            exact sX8_splice_91 X hr T0  h
          · have h := h.2 c37
            refine rc_ldc (n := (-100004)) X qX8_splice_4 (by decide +kernel) dX8_splice_80 ?_
            exact rc_iret X hr dX8_splice_82 h
      · have h := h.2 c15
        refine rc_ldc (n := (-100002)) X qX8_splice_3 (by decide +kernel) dX8_splice_41 ?_
        exact rc_iret X hr dX8_splice_43 h
  · have h := h.2 c4
    refine rc_ldc (n := (-100001)) X qX8_splice_1 (by decide +kernel) dX8_splice_8 ?_
    exact rc_iret X hr dX8_splice_10 h
theorem mX8_splice {l : Launch} {G : rc_G} {a0 : Nat} {a1 : Int} {a2 : Int} {a3 : Int} {I : rc_M} {post : Int → rc_M → Prop} (T0 : kX8 G a0) (h : wX8_splice G a0 a1 a2 a3 I post) : rc_CI l yX8_splice wsX8_splice rmX8_splice G [.ref a0, .int (rc_o a1), .int (rc_o a2), .int (rc_o a3)] I post :=
  rc_body (by decide +kernel) rfl rfl (Nat.le_of_ble_eq_true rfl) rfl (fun p e s m below meth c X hr => gX8_splice_0 X hr T0 h)
/-! X8_mend -/
abbrev rmX8_mend : Room := { frames := 2, cells := 0, slots := 0, locals := 43 }
theorem dyX8_mend : yX8_mend.cls = RX8 ∧ yX8_mend.cls ≠ "java/lang/invoke/MethodHandle" ∧ yX8_mend.cls ≠ "java/lang/invoke/VarHandle" ∧ (parseMethodDescriptor yX8_mend.desc).map (fun d => d.parameters.length) = some 2 := ⟨rfl, by decide +kernel, by decide +kernel, by decide +kernel⟩
theorem qX8_mend_3 : Cond.fieldLink RX8 7 "ReelChangerModel" "v" "[I" ∈ wsX8_mend := List.mem_of_getElem? (i := 3) (by decide +kernel)
theorem nX8_mend_X8 : ∀ w ∈ wsX80, w ∈ wsX8_mend := fun w h => List.mem_cons_of_mem _ (List.mem_append_right _ (h))
theorem qX8_mend_2 : Cond.constant RX8 51 (-100002) ∈ wsX8_mend := List.mem_of_getElem? (i := 2) (by decide +kernel)
theorem qX8_mend_1 : Cond.constant RX8 64 (-100001) ∈ wsX8_mend := List.mem_of_getElem? (i := 1) (by decide +kernel)
def wX8_mend_129 (G : rc_G) (post : Int → rc_M → Prop) (a0 : Nat) (a1 : Int) (a2 : Int) (k41 : Int → Int → Int → rc_M → Prop) (x3 : Int) (x4 : Int) (x5 : Int) (I : rc_M) : Prop :=
  k41 x3 x4 (x5 + 1) I
set_option maxRecDepth 100000 in
set_option maxHeartbeats 4000000 in
theorem gX8_mend_129 {p : Program} {l : Launch} {e : Env} {s : State} {m : MethodId} {below : List Frame} {meth : Method} {c : Code} {G : rc_G} {a0 : Nat} {a1 : Int} {a2 : Int} {I : rc_M} {post : Int → rc_M → Prop} {k41 : Int → Int → Int → rc_M → Prop} {x3 : Int} {x4 : Int} {x5 : Int} (X : rc_X p s m ([.ref a0, .int (rc_o a1), .int (rc_o a2)] : List Value).toArray meth c cX8_mend 6 wsX8_mend RX8 G (rc_A G)) (hr : meth.sig.returnType = some .int) (T0 : kX8 G a0) (hk41 : ∀ (x3 : Int) (x4 : Int) (x5 : Int) (J : rc_M), k41 x3 x4 x5 J → rc_g p l e rmX8_mend s m ([.ref a0, .int (rc_o a1), .int (rc_o a2)] : List Value).toArray below meth c 0 0 (MQ below (rc_QI G post) ([.ref a0, .int (rc_o a1), .int (rc_o a2)] : List Value).toArray s 0 0 (rc_A G)) 6 G (rc_A G) 41 [(0, .ref a0), (1, .int (rc_o a1)), (2, .int (rc_o a2)), (3, .int (rc_o x3)), (4, .int (rc_o x4)), (5, .int (rc_o x5))] [] J)  (h : wX8_mend_129 G post a0 a1 a2 k41 x3 x4 x5 I) : rc_g p l e rmX8_mend s m ([.ref a0, .int (rc_o a1), .int (rc_o a2)] : List Value).toArray below meth c 0 0 (MQ below (rc_QI G post) ([.ref a0, .int (rc_o a1), .int (rc_o a2)] : List Value).toArray s 0 0 (rc_A G)) 6 G (rc_A G) 129 [(0, .ref a0), (1, .int (rc_o a1)), (2, .int (rc_o a2)), (3, .int (rc_o x3)), (4, .int (rc_o x4)), (5, .int (rc_o x5))] [] I := by
  unfold wX8_mend_129 at h
  refine rc_iinc X [(5, .int (rc_o (x5 + 1))), (0, .ref a0), (1, .int (rc_o a1)), (2, .int (rc_o a2)), (3, .int (rc_o x3)), (4, .int (rc_o x4))] dX8_mend_129 5 rfl (by decide) rfl ?_
  refine rc_goto X 41 dX8_mend_132 (by decide) ?_
  refine rc_subl [(0, .ref a0), (1, .int (rc_o a1)), (2, .int (rc_o a2)), (3, .int (rc_o x3)), (4, .int (rc_o x4)), (5, .int (rc_o (x5 + 1)))] [1, 2, 3, 4, 5, 0] rfl ?_
  exact hk41 _ _ _ _ h
def wX8_mend_41 (G : rc_G) (post : Int → rc_M → Prop) (a0 : Nat) (a1 : Int) (a2 : Int) (k41 : Int → Int → Int → rc_M → Prop) (x3 : Int) (x4 : Int) (x5 : Int) (I : rc_M) : Prop :=
  rc_R x5 ∧ (rc_R x3 ∧ ((x3 ≤ x5 → wX8_at G a1 1 I (fun r16 I15 => (0 ≤ r16 ∧ r16 < 199) ∧ (∀ I18, I18 = rc_s I15 (a0 + 1) r16 x4 → post (x3 - x4) I18))) ∧ (¬ x3 ≤ x5 → wX8_at G a1 (3 + (2 * x5)) I (fun r20 I19 => (0 ≤ r20 ∧ r20 < 199) ∧ (rc_R (I19 (a0 + 1) r20) ∧ (rc_R a2 ∧ (((I19 (a0 + 1) r20) < a2 → wX8_mend_129 G post a0 a1 a2 k41 x3 x4 x5 I19) ∧ (¬ (I19 (a0 + 1) r20) < a2 → wX8_at G a1 (2 + (2 * x4)) I19 (fun r26 I25 => wX8_at G a1 (2 + (2 * x5)) I25 (fun r28 I27 => (0 ≤ r28 ∧ r28 < 199) ∧ ((0 ≤ r26 ∧ r26 < 199) ∧ (∀ I31, I31 = rc_s I27 (a0 + 1) r26 (I27 (a0 + 1) r28) → wX8_at G a1 (3 + (2 * x4)) I31 (fun r33 I32 => wX8_at G a1 (3 + (2 * x5)) I32 (fun r35 I34 => (0 ≤ r35 ∧ r35 < 199) ∧ ((0 ≤ r33 ∧ r33 < 199) ∧ (∀ I38, I38 = rc_s I34 (a0 + 1) r33 (I34 (a0 + 1) r35) → wX8_mend_129 G post a0 a1 a2 k41 x3 (x4 + 1) x5 I38))))))))))))))))
set_option maxRecDepth 100000 in
set_option maxHeartbeats 4000000 in
theorem gX8_mend_41 {p : Program} {l : Launch} {e : Env} {s : State} {m : MethodId} {below : List Frame} {meth : Method} {c : Code} {G : rc_G} {a0 : Nat} {a1 : Int} {a2 : Int} {I : rc_M} {post : Int → rc_M → Prop} {k41 : Int → Int → Int → rc_M → Prop} {x3 : Int} {x4 : Int} {x5 : Int} (X : rc_X p s m ([.ref a0, .int (rc_o a1), .int (rc_o a2)] : List Value).toArray meth c cX8_mend 6 wsX8_mend RX8 G (rc_A G)) (hr : meth.sig.returnType = some .int) (T0 : kX8 G a0) (hk41 : ∀ (x3 : Int) (x4 : Int) (x5 : Int) (J : rc_M), k41 x3 x4 x5 J → rc_g p l e rmX8_mend s m ([.ref a0, .int (rc_o a1), .int (rc_o a2)] : List Value).toArray below meth c 0 0 (MQ below (rc_QI G post) ([.ref a0, .int (rc_o a1), .int (rc_o a2)] : List Value).toArray s 0 0 (rc_A G)) 6 G (rc_A G) 41 [(0, .ref a0), (1, .int (rc_o a1)), (2, .int (rc_o a2)), (3, .int (rc_o x3)), (4, .int (rc_o x4)), (5, .int (rc_o x5))] [] J)  (h : wX8_mend_41 G post a0 a1 a2 k41 x3 x4 x5 I) : rc_g p l e rmX8_mend s m ([.ref a0, .int (rc_o a1), .int (rc_o a2)] : List Value).toArray below meth c 0 0 (MQ below (rc_QI G post) ([.ref a0, .int (rc_o a1), .int (rc_o a2)] : List Value).toArray s 0 0 (rc_A G)) 6 G (rc_A G) 41 [(0, .ref a0), (1, .int (rc_o a1)), (2, .int (rc_o a2)), (3, .int (rc_o x3)), (4, .int (rc_o x4)), (5, .int (rc_o x5))] [] I := by
  unfold wX8_mend_41 at h
  refine rc_iload X dX8_mend_41 5 rfl ?_
  refine rc_iload_n X dX8_mend_43 rfl 3 rfl ?_
  obtain ⟨c12, h⟩ := h
  obtain ⟨c13, h⟩ := h
  refine rc_ic_ge X 135 dX8_mend_44 (by decide) c12 c13 (fun c14 => ?_) (fun c14 => ?_)
  · have h := h.1 c14
    refine rc_aload_n X dX8_mend_135 rfl 0 rfl ?_
    refine gfX8_v X T0.1 nX8_mend_X8 qX8_mend_3 dX8_mend_136 ?_
    refine rc_iload_n X dX8_mend_139 rfl 1 rfl ?_
    refine rc_iconst X dX8_mend_140 ?_
    refine rc_cSI (rest := [.ref (a0 + 1)]) X (mX8_at  h) gX8_mend_X8_at rfl ⟨rfl, rfl⟩ dyX8_at ⟨Nat.le_of_ble_eq_true rfl, Nat.le_of_ble_eq_true rfl⟩ rfl rfl (Nat.le_of_ble_eq_true rfl) dX8_mend_141 ⟨Nat.zero_le _, Nat.zero_le _⟩ (fun r16 I15 h => ?_)
    refine rc_iload X dX8_mend_144 4 rfl ?_
    obtain ⟨c17, h⟩ := h
    refine rc_iast X T0.2.1 (by decide) dX8_mend_146 c17 (fun I18 e18 => ?_)
    have h := h I18 e18
    refine rc_iload_n X dX8_mend_147 rfl 3 rfl ?_
    refine rc_iload X dX8_mend_148 4 rfl ?_
    refine rc_isub X dX8_mend_150 ?_
    exact rc_iret X hr dX8_mend_151 h
  · have h := h.2 c14
    refine rc_aload_n X dX8_mend_47 rfl 0 rfl ?_
    refine gfX8_v X T0.1 nX8_mend_X8 qX8_mend_3 dX8_mend_48 ?_
    refine rc_iload_n X dX8_mend_51 rfl 1 rfl ?_
    refine rc_iconst X dX8_mend_52 ?_
    refine rc_iconst X dX8_mend_53 ?_
    refine rc_iload X dX8_mend_54 5 rfl ?_
    refine rc_imul X dX8_mend_56 ?_
    refine rc_iadd X dX8_mend_57 ?_
    refine rc_cSI (rest := [.ref (a0 + 1)]) X (mX8_at  h) gX8_mend_X8_at rfl ⟨rfl, rfl⟩ dyX8_at ⟨Nat.le_of_ble_eq_true rfl, Nat.le_of_ble_eq_true rfl⟩ rfl rfl (Nat.le_of_ble_eq_true rfl) dX8_mend_58 ⟨Nat.zero_le _, Nat.zero_le _⟩ (fun r20 I19 h => ?_)
    obtain ⟨c21, h⟩ := h
    refine rc_iald X T0.2.1 (by decide) dX8_mend_61 c21 ?_
    refine rc_iload_n X dX8_mend_62 rfl 2 rfl ?_
    obtain ⟨c22, h⟩ := h
    obtain ⟨c23, h⟩ := h
    refine rc_ic_lt X 129 dX8_mend_63 (by decide) c22 c23 (fun c24 => ?_) (fun c24 => ?_)
    · have h := h.1 c24
      refine rc_subl [(0, .ref a0), (1, .int (rc_o a1)), (2, .int (rc_o a2)), (3, .int (rc_o x3)), (4, .int (rc_o x4)), (5, .int (rc_o x5))] [0, 1, 2, 3, 4, 5] rfl ?_
      exact gX8_mend_129 X hr T0 hk41  h
    · have h := h.2 c24
      refine rc_aload_n X dX8_mend_66 rfl 0 rfl ?_
      refine gfX8_v X T0.1 nX8_mend_X8 qX8_mend_3 dX8_mend_67 ?_
      refine rc_iload_n X dX8_mend_70 rfl 1 rfl ?_
      refine rc_iconst X dX8_mend_71 ?_
      refine rc_iconst X dX8_mend_72 ?_
      refine rc_iload X dX8_mend_73 4 rfl ?_
      refine rc_imul X dX8_mend_75 ?_
      refine rc_iadd X dX8_mend_76 ?_
      refine rc_cSI (rest := [.ref (a0 + 1)]) X (mX8_at  h) gX8_mend_X8_at rfl ⟨rfl, rfl⟩ dyX8_at ⟨Nat.le_of_ble_eq_true rfl, Nat.le_of_ble_eq_true rfl⟩ rfl rfl (Nat.le_of_ble_eq_true rfl) dX8_mend_77 ⟨Nat.zero_le _, Nat.zero_le _⟩ (fun r26 I25 h => ?_)
      refine rc_aload_n X dX8_mend_80 rfl 0 rfl ?_
      refine gfX8_v X T0.1 nX8_mend_X8 qX8_mend_3 dX8_mend_81 ?_
      refine rc_iload_n X dX8_mend_84 rfl 1 rfl ?_
      refine rc_iconst X dX8_mend_85 ?_
      refine rc_iconst X dX8_mend_86 ?_
      refine rc_iload X dX8_mend_87 5 rfl ?_
      refine rc_imul X dX8_mend_89 ?_
      refine rc_iadd X dX8_mend_90 ?_
      refine rc_cSI (rest := [.ref (a0 + 1), .int (rc_o r26), .ref (a0 + 1)]) X (mX8_at  h) gX8_mend_X8_at rfl ⟨rfl, rfl⟩ dyX8_at ⟨Nat.le_of_ble_eq_true rfl, Nat.le_of_ble_eq_true rfl⟩ rfl rfl (Nat.le_of_ble_eq_true rfl) dX8_mend_91 ⟨Nat.zero_le _, Nat.zero_le _⟩ (fun r28 I27 h => ?_)
      obtain ⟨c29, h⟩ := h
      refine rc_iald X T0.2.1 (by decide) dX8_mend_94 c29 ?_
      obtain ⟨c30, h⟩ := h
      refine rc_iast X T0.2.1 (by decide) dX8_mend_95 c30 (fun I31 e31 => ?_)
      have h := h I31 e31
      refine rc_aload_n X dX8_mend_96 rfl 0 rfl ?_
      refine gfX8_v X T0.1 nX8_mend_X8 qX8_mend_3 dX8_mend_97 ?_
      refine rc_iload_n X dX8_mend_100 rfl 1 rfl ?_
      refine rc_iconst X dX8_mend_101 ?_
      refine rc_iconst X dX8_mend_102 ?_
      refine rc_iload X dX8_mend_103 4 rfl ?_
      refine rc_imul X dX8_mend_105 ?_
      refine rc_iadd X dX8_mend_106 ?_
      refine rc_cSI (rest := [.ref (a0 + 1)]) X (mX8_at  h) gX8_mend_X8_at rfl ⟨rfl, rfl⟩ dyX8_at ⟨Nat.le_of_ble_eq_true rfl, Nat.le_of_ble_eq_true rfl⟩ rfl rfl (Nat.le_of_ble_eq_true rfl) dX8_mend_107 ⟨Nat.zero_le _, Nat.zero_le _⟩ (fun r33 I32 h => ?_)
      refine rc_aload_n X dX8_mend_110 rfl 0 rfl ?_
      refine gfX8_v X T0.1 nX8_mend_X8 qX8_mend_3 dX8_mend_111 ?_
      refine rc_iload_n X dX8_mend_114 rfl 1 rfl ?_
      refine rc_iconst X dX8_mend_115 ?_
      refine rc_iconst X dX8_mend_116 ?_
      refine rc_iload X dX8_mend_117 5 rfl ?_
      refine rc_imul X dX8_mend_119 ?_
      refine rc_iadd X dX8_mend_120 ?_
      refine rc_cSI (rest := [.ref (a0 + 1), .int (rc_o r33), .ref (a0 + 1)]) X (mX8_at  h) gX8_mend_X8_at rfl ⟨rfl, rfl⟩ dyX8_at ⟨Nat.le_of_ble_eq_true rfl, Nat.le_of_ble_eq_true rfl⟩ rfl rfl (Nat.le_of_ble_eq_true rfl) dX8_mend_121 ⟨Nat.zero_le _, Nat.zero_le _⟩ (fun r35 I34 h => ?_)
      obtain ⟨c36, h⟩ := h
      refine rc_iald X T0.2.1 (by decide) dX8_mend_124 c36 ?_
      obtain ⟨c37, h⟩ := h
      refine rc_iast X T0.2.1 (by decide) dX8_mend_125 c37 (fun I38 e38 => ?_)
      have h := h I38 e38
      refine rc_iinc X [(4, .int (rc_o (x4 + 1))), (0, .ref a0), (1, .int (rc_o a1)), (2, .int (rc_o a2)), (3, .int (rc_o x3)), (5, .int (rc_o x5))] dX8_mend_126 4 rfl (by decide) rfl ?_
      refine rc_subl [(0, .ref a0), (1, .int (rc_o a1)), (2, .int (rc_o a2)), (3, .int (rc_o x3)), (4, .int (rc_o (x4 + 1))), (5, .int (rc_o x5))] [1, 2, 3, 4, 0, 5] rfl ?_
      exact gX8_mend_129 X hr T0 hk41  h
noncomputable def rX8_mend_41 (G : rc_G) (post : Int → rc_M → Prop) (a0 : Nat) (a1 : Int) (a2 : Int)  (n : Nat) : Int → Int → Int → rc_M → Prop :=
  Nat.rec (motive := fun _ => Int → Int → Int → rc_M → Prop) (fun _ _ _ _ => False) (fun _ ih => wX8_mend_41 G post a0 a1 a2  ih) n
set_option maxRecDepth 100000 in
set_option maxHeartbeats 4000000 in
theorem sX8_mend_41 {p : Program} {l : Launch} {e : Env} {s : State} {m : MethodId} {below : List Frame} {meth : Method} {c : Code} {G : rc_G} {a0 : Nat} {a1 : Int} {a2 : Int} {I : rc_M} {post : Int → rc_M → Prop}  {n : Nat} {x3 : Int} {x4 : Int} {x5 : Int} (X : rc_X p s m ([.ref a0, .int (rc_o a1), .int (rc_o a2)] : List Value).toArray meth c cX8_mend 6 wsX8_mend RX8 G (rc_A G)) (hr : meth.sig.returnType = some .int) (T0 : kX8 G a0)  (h : rX8_mend_41 G post a0 a1 a2  n x3 x4 x5 I) : rc_g p l e rmX8_mend s m ([.ref a0, .int (rc_o a1), .int (rc_o a2)] : List Value).toArray below meth c 0 0 (MQ below (rc_QI G post) ([.ref a0, .int (rc_o a1), .int (rc_o a2)] : List Value).toArray s 0 0 (rc_A G)) 6 G (rc_A G) 41 [(0, .ref a0), (1, .int (rc_o a1)), (2, .int (rc_o a2)), (3, .int (rc_o x3)), (4, .int (rc_o x4)), (5, .int (rc_o x5))] [] I := by
  induction n generalizing x3 x4 x5 I with
  | zero => exact h.elim
  | succ n ih => exact gX8_mend_41 (k41 := rX8_mend_41 G post a0 a1 a2  n) X hr T0  (fun x3 x4 x5 J h2 => ih h2) h
def wX8_mend (G : rc_G) (a0 : Nat) (a1 : Int) (a2 : Int) (I : rc_M) (post : Int → rc_M → Prop) : Prop :=
  wX8_isReel G a0 a1 I (fun r2 I1 => rc_R r2 ∧ ((¬ r2 = 0 → wX8_in G a2 1 10 I1 (fun r6 I5 => rc_R r6 ∧ ((¬ r6 = 0 → wX8_at G a1 1 I5 (fun r10 I9 => (0 ≤ r10 ∧ r10 < 199) ∧ (∃ n, rX8_mend_41 G post a0 a1 a2  n (I9 (a0 + 1) r10) 0 0 I9))) ∧ (r6 = 0 → post (-100002) I5)))) ∧ (r2 = 0 → post (-100001) I1)))
set_option maxRecDepth 100000 in
set_option maxHeartbeats 4000000 in
theorem gX8_mend_0 {p : Program} {l : Launch} {e : Env} {s : State} {m : MethodId} {below : List Frame} {meth : Method} {c : Code} {G : rc_G} {a0 : Nat} {a1 : Int} {a2 : Int} {I : rc_M} {post : Int → rc_M → Prop}  (X : rc_X p s m ([.ref a0, .int (rc_o a1), .int (rc_o a2)] : List Value).toArray meth c cX8_mend 6 wsX8_mend RX8 G (rc_A G)) (hr : meth.sig.returnType = some .int) (T0 : kX8 G a0)  (h : wX8_mend G a0 a1 a2 I post) : rc_g p l e rmX8_mend s m ([.ref a0, .int (rc_o a1), .int (rc_o a2)] : List Value).toArray below meth c 0 0 (MQ below (rc_QI G post) ([.ref a0, .int (rc_o a1), .int (rc_o a2)] : List Value).toArray s 0 0 (rc_A G)) 6 G (rc_A G) 0 [(0, .ref a0), (1, .int (rc_o a1)), (2, .int (rc_o a2))] [] I := by
  unfold wX8_mend at h
  refine rc_aload_n X dX8_mend_0 rfl 0 rfl ?_
  refine rc_iload_n X dX8_mend_1 rfl 1 rfl ?_
  refine rc_cVI (rest := []) X (mX8_isReel T0 h) gX8_mend_X8_isReel rfl ⟨rfl, rfl⟩ dyX8_isReel ⟨Nat.le_of_ble_eq_true rfl, Nat.le_of_ble_eq_true rfl⟩ (rc_recv X T0.1 rfl) rfl rfl (Nat.le_of_ble_eq_true rfl) dX8_mend_2 ⟨Nat.zero_le _, Nat.zero_le _⟩ (fun r2 I1 h => ?_)
  obtain ⟨c3, h⟩ := h
  refine rc_if_ne X 11 dX8_mend_5 (by decide) c3 (fun c4 => ?_) (fun c4 => ?_)
  · have h := h.1 c4
    refine rc_iload_n X dX8_mend_11 rfl 2 rfl ?_
    refine rc_iconst X dX8_mend_12 ?_
    refine rc_bipush X dX8_mend_13 (rc_b8 _ ⟨by decide, by decide⟩) ?_
    refine rc_cSI (rest := []) X (mX8_in  h) gX8_mend_X8_in rfl ⟨rfl, rfl⟩ dyX8_in ⟨Nat.le_of_ble_eq_true rfl, Nat.le_of_ble_eq_true rfl⟩ rfl rfl (Nat.le_of_ble_eq_true rfl) dX8_mend_15 ⟨Nat.zero_le _, Nat.zero_le _⟩ (fun r6 I5 h => ?_)
    obtain ⟨c7, h⟩ := h
    refine rc_if_ne X 24 dX8_mend_18 (by decide) c7 (fun c8 => ?_) (fun c8 => ?_)
    · have h := h.1 c8
      refine rc_aload_n X dX8_mend_24 rfl 0 rfl ?_
      refine gfX8_v X T0.1 nX8_mend_X8 qX8_mend_3 dX8_mend_25 ?_
      refine rc_iload_n X dX8_mend_28 rfl 1 rfl ?_
      refine rc_iconst X dX8_mend_29 ?_
      refine rc_cSI (rest := [.ref (a0 + 1)]) X (mX8_at  h) gX8_mend_X8_at rfl ⟨rfl, rfl⟩ dyX8_at ⟨Nat.le_of_ble_eq_true rfl, Nat.le_of_ble_eq_true rfl⟩ rfl rfl (Nat.le_of_ble_eq_true rfl) dX8_mend_30 ⟨Nat.zero_le _, Nat.zero_le _⟩ (fun r10 I9 h => ?_)
      obtain ⟨c11, h⟩ := h
      refine rc_iald X T0.2.1 (by decide) dX8_mend_33 c11 ?_
      refine rc_istore_n X [(3, .int (rc_o (I9 (a0 + 1) r10))), (0, .ref a0), (1, .int (rc_o a1)), (2, .int (rc_o a2))] dX8_mend_34 rfl (by decide) rfl ?_
      refine rc_iconst X dX8_mend_35 ?_
      refine rc_istore X [(4, .int (rc_o 0)), (3, .int (rc_o (I9 (a0 + 1) r10))), (0, .ref a0), (1, .int (rc_o a1)), (2, .int (rc_o a2))] dX8_mend_36 (by decide) rfl ?_
      refine rc_iconst X dX8_mend_38 ?_
      refine rc_istore X [(5, .int (rc_o 0)), (4, .int (rc_o 0)), (3, .int (rc_o (I9 (a0 + 1) r10))), (0, .ref a0), (1, .int (rc_o a1)), (2, .int (rc_o a2))] dX8_mend_39 (by decide) rfl ?_
      refine rc_subl [(0, .ref a0), (1, .int (rc_o a1)), (2, .int (rc_o a2)), (3, .int (rc_o (I9 (a0 + 1) r10))), (4, .int (rc_o 0)), (5, .int (rc_o 0))] [3, 4, 5, 2, 1, 0] rfl ?_
      obtain ⟨n, h⟩ := h
      exact sX8_mend_41 X hr T0  h
    · have h := h.2 c8
      refine rc_ldc (n := (-100002)) X qX8_mend_2 (by decide +kernel) dX8_mend_21 ?_
      exact rc_iret X hr dX8_mend_23 h
  · have h := h.2 c4
    refine rc_ldc (n := (-100001)) X qX8_mend_1 (by decide +kernel) dX8_mend_8 ?_
    exact rc_iret X hr dX8_mend_10 h
theorem mX8_mend {l : Launch} {G : rc_G} {a0 : Nat} {a1 : Int} {a2 : Int} {I : rc_M} {post : Int → rc_M → Prop} (T0 : kX8 G a0) (h : wX8_mend G a0 a1 a2 I post) : rc_CI l yX8_mend wsX8_mend rmX8_mend G [.ref a0, .int (rc_o a1), .int (rc_o a2)] I post :=
  rc_body (by decide +kernel) rfl rfl (Nat.le_of_ble_eq_true rfl) rfl (fun p e s m below meth c X hr => gX8_mend_0 X hr T0 h)
/-! X8_weakest -/
abbrev rmX8_weakest : Room := { frames := 1, cells := 0, slots := 0, locals := 21 }
theorem dyX8_weakest : yX8_weakest.cls = RX8 ∧ yX8_weakest.cls ≠ "java/lang/invoke/MethodHandle" ∧ yX8_weakest.cls ≠ "java/lang/invoke/VarHandle" ∧ (parseMethodDescriptor yX8_weakest.desc).map (fun d => d.parameters.length) = some 1 := ⟨rfl, by decide +kernel, by decide +kernel, by decide +kernel⟩
theorem qX8_weakest_1 : Cond.constant RX8 68 (-100005) ∈ wsX8_weakest := List.mem_of_getElem? (i := 1) (by decide +kernel)
theorem qX8_weakest_2 : Cond.fieldLink RX8 7 "ReelChangerModel" "v" "[I" ∈ wsX8_weakest := List.mem_of_getElem? (i := 2) (by decide +kernel)
theorem nX8_weakest_X8 : ∀ w ∈ wsX80, w ∈ wsX8_weakest := fun w h => List.mem_cons_of_mem _ (List.mem_append_right _ (h))
def wX8_weakest_53 (G : rc_G) (post : Int → rc_M → Prop) (a0 : Nat) (a1 : Int) (k5 : Int → Int → rc_M → Prop) (x3 : Int) (y0 : Int) (I : rc_M) : Prop :=
  k5 y0 (x3 + 1) I
set_option maxRecDepth 100000 in
set_option maxHeartbeats 4000000 in
theorem gX8_weakest_53 {p : Program} {l : Launch} {e : Env} {s : State} {m : MethodId} {below : List Frame} {meth : Method} {c : Code} {G : rc_G} {a0 : Nat} {a1 : Int} {I : rc_M} {post : Int → rc_M → Prop} {k5 : Int → Int → rc_M → Prop} {x3 : Int} {y0 : Int} (X : rc_X p s m ([.ref a0, .int (rc_o a1)] : List Value).toArray meth c cX8_weakest 5 wsX8_weakest RX8 G (rc_A G)) (hr : meth.sig.returnType = some .int) (T0 : kX8 G a0) (hk5 : ∀ (x2 : Int) (x3 : Int) (J : rc_M), k5 x2 x3 J → rc_g p l e rmX8_weakest s m ([.ref a0, .int (rc_o a1)] : List Value).toArray below meth c 0 0 (MQ below (rc_QI G post) ([.ref a0, .int (rc_o a1)] : List Value).toArray s 0 0 (rc_A G)) 5 G (rc_A G) 5 [(0, .ref a0), (1, .int (rc_o a1)), (2, .int (rc_o x2)), (3, .int (rc_o x3))] [] J)  (h : wX8_weakest_53 G post a0 a1 k5 x3 y0 I) : rc_g p l e rmX8_weakest s m ([.ref a0, .int (rc_o a1)] : List Value).toArray below meth c 0 0 (MQ below (rc_QI G post) ([.ref a0, .int (rc_o a1)] : List Value).toArray s 0 0 (rc_A G)) 5 G (rc_A G) 53 [(0, .ref a0), (1, .int (rc_o a1)), (3, .int (rc_o x3))] [.int (rc_o y0)] I := by
  unfold wX8_weakest_53 at h
  refine rc_istore_n X [(2, .int (rc_o y0)), (0, .ref a0), (1, .int (rc_o a1)), (3, .int (rc_o x3))] dX8_weakest_53 rfl (by decide) rfl ?_
  refine rc_iinc X [(3, .int (rc_o (x3 + 1))), (2, .int (rc_o y0)), (0, .ref a0), (1, .int (rc_o a1))] dX8_weakest_54 3 rfl (by decide) rfl ?_
  refine rc_goto X 5 dX8_weakest_57 (by decide) ?_
  refine rc_subl [(0, .ref a0), (1, .int (rc_o a1)), (2, .int (rc_o y0)), (3, .int (rc_o (x3 + 1)))] [2, 3, 1, 0] rfl ?_
  exact hk5 _ _ _ h
def wX8_weakest_47 (G : rc_G) (post : Int → rc_M → Prop) (a0 : Nat) (a1 : Int) (k5 : Int → Int → rc_M → Prop) (x3 : Int) (x4 : Int) (I : rc_M) : Prop :=
  wX8_weakest_53 G post a0 a1 k5 x3 x4 I
set_option maxRecDepth 100000 in
set_option maxHeartbeats 4000000 in
theorem gX8_weakest_47 {p : Program} {l : Launch} {e : Env} {s : State} {m : MethodId} {below : List Frame} {meth : Method} {c : Code} {G : rc_G} {a0 : Nat} {a1 : Int} {I : rc_M} {post : Int → rc_M → Prop} {k5 : Int → Int → rc_M → Prop} {x3 : Int} {x4 : Int} (X : rc_X p s m ([.ref a0, .int (rc_o a1)] : List Value).toArray meth c cX8_weakest 5 wsX8_weakest RX8 G (rc_A G)) (hr : meth.sig.returnType = some .int) (T0 : kX8 G a0) (hk5 : ∀ (x2 : Int) (x3 : Int) (J : rc_M), k5 x2 x3 J → rc_g p l e rmX8_weakest s m ([.ref a0, .int (rc_o a1)] : List Value).toArray below meth c 0 0 (MQ below (rc_QI G post) ([.ref a0, .int (rc_o a1)] : List Value).toArray s 0 0 (rc_A G)) 5 G (rc_A G) 5 [(0, .ref a0), (1, .int (rc_o a1)), (2, .int (rc_o x2)), (3, .int (rc_o x3))] [] J)  (h : wX8_weakest_47 G post a0 a1 k5 x3 x4 I) : rc_g p l e rmX8_weakest s m ([.ref a0, .int (rc_o a1)] : List Value).toArray below meth c 0 0 (MQ below (rc_QI G post) ([.ref a0, .int (rc_o a1)] : List Value).toArray s 0 0 (rc_A G)) 5 G (rc_A G) 47 [(0, .ref a0), (1, .int (rc_o a1)), (3, .int (rc_o x3)), (4, .int (rc_o x4))] [] I := by
  unfold wX8_weakest_47 at h
  refine rc_iload X dX8_weakest_47 3 rfl ?_
  refine rc_goto X 53 dX8_weakest_49 (by decide) ?_
  refine rc_subl [(0, .ref a0), (1, .int (rc_o a1)), (3, .int (rc_o x3))] [0, 1, 2] rfl ?_
  exact gX8_weakest_53 X hr T0 hk5  h
def wX8_weakest_5 (G : rc_G) (post : Int → rc_M → Prop) (a0 : Nat) (a1 : Int) (k5 : Int → Int → rc_M → Prop) (x2 : Int) (x3 : Int) (I : rc_M) : Prop :=
  wX8_at G a1 1 I (fun r2 I1 => (0 ≤ r2 ∧ r2 < 199) ∧ (rc_R x3 ∧ (rc_R (I1 (a0 + 1) r2) ∧ (((I1 (a0 + 1) r2) ≤ x3 → post x2 I1) ∧ (¬ (I1 (a0 + 1) r2) ≤ x3 → wX8_at G a1 (3 + (2 * x3)) I1 (fun r8 I7 => (0 ≤ r8 ∧ r8 < 199) ∧ (rc_R x2 ∧ ((x2 = (-100005) → wX8_weakest_47 G post a0 a1 k5 x3 (I7 (a0 + 1) r8) I7) ∧ (¬ x2 = (-100005) → rc_R (I7 (a0 + 1) r8) ∧ (rc_R x2 ∧ ((x2 ≤ (I7 (a0 + 1) r8) → wX8_weakest_53 G post a0 a1 k5 x3 x2 I7) ∧ (¬ x2 ≤ (I7 (a0 + 1) r8) → wX8_weakest_47 G post a0 a1 k5 x3 (I7 (a0 + 1) r8) I7))))))))))))
set_option maxRecDepth 100000 in
set_option maxHeartbeats 4000000 in
theorem gX8_weakest_5 {p : Program} {l : Launch} {e : Env} {s : State} {m : MethodId} {below : List Frame} {meth : Method} {c : Code} {G : rc_G} {a0 : Nat} {a1 : Int} {I : rc_M} {post : Int → rc_M → Prop} {k5 : Int → Int → rc_M → Prop} {x2 : Int} {x3 : Int} (X : rc_X p s m ([.ref a0, .int (rc_o a1)] : List Value).toArray meth c cX8_weakest 5 wsX8_weakest RX8 G (rc_A G)) (hr : meth.sig.returnType = some .int) (T0 : kX8 G a0) (hk5 : ∀ (x2 : Int) (x3 : Int) (J : rc_M), k5 x2 x3 J → rc_g p l e rmX8_weakest s m ([.ref a0, .int (rc_o a1)] : List Value).toArray below meth c 0 0 (MQ below (rc_QI G post) ([.ref a0, .int (rc_o a1)] : List Value).toArray s 0 0 (rc_A G)) 5 G (rc_A G) 5 [(0, .ref a0), (1, .int (rc_o a1)), (2, .int (rc_o x2)), (3, .int (rc_o x3))] [] J)  (h : wX8_weakest_5 G post a0 a1 k5 x2 x3 I) : rc_g p l e rmX8_weakest s m ([.ref a0, .int (rc_o a1)] : List Value).toArray below meth c 0 0 (MQ below (rc_QI G post) ([.ref a0, .int (rc_o a1)] : List Value).toArray s 0 0 (rc_A G)) 5 G (rc_A G) 5 [(0, .ref a0), (1, .int (rc_o a1)), (2, .int (rc_o x2)), (3, .int (rc_o x3))] [] I := by
  unfold wX8_weakest_5 at h
  refine rc_iload_n X dX8_weakest_5 rfl 3 rfl ?_
  refine rc_aload_n X dX8_weakest_6 rfl 0 rfl ?_
  refine gfX8_v X T0.1 nX8_weakest_X8 qX8_weakest_2 dX8_weakest_7 ?_
  refine rc_iload_n X dX8_weakest_10 rfl 1 rfl ?_
  refine rc_iconst X dX8_weakest_11 ?_
  refine rc_cSI (rest := [.ref (a0 + 1), .int (rc_o x3)]) X (mX8_at  h) gX8_weakest_X8_at rfl ⟨rfl, rfl⟩ dyX8_at ⟨Nat.le_of_ble_eq_true rfl, Nat.le_of_ble_eq_true rfl⟩ rfl rfl (Nat.le_of_ble_eq_true rfl) dX8_weakest_12 ⟨Nat.zero_le _, Nat.zero_le _⟩ (fun r2 I1 h => ?_)
  obtain ⟨c3, h⟩ := h
  refine rc_iald X T0.2.1 (by decide) dX8_weakest_15 c3 ?_
  obtain ⟨c4, h⟩ := h
  obtain ⟨c5, h⟩ := h
  refine rc_ic_ge X 60 dX8_weakest_16 (by decide) c4 c5 (fun c6 => ?_) (fun c6 => ?_)
  · have h := h.1 c6
    refine rc_iload_n X dX8_weakest_60 rfl 2 rfl ?_
    exact rc_iret X hr dX8_weakest_61 h
  · have h := h.2 c6
    refine rc_aload_n X dX8_weakest_19 rfl 0 rfl ?_
    refine gfX8_v X T0.1 nX8_weakest_X8 qX8_weakest_2 dX8_weakest_20 ?_
    refine rc_iload_n X dX8_weakest_23 rfl 1 rfl ?_
    refine rc_iconst X dX8_weakest_24 ?_
    refine rc_iconst X dX8_weakest_25 ?_
    refine rc_iload_n X dX8_weakest_26 rfl 3 rfl ?_
    refine rc_imul X dX8_weakest_27 ?_
    refine rc_iadd X dX8_weakest_28 ?_
    refine rc_cSI (rest := [.ref (a0 + 1)]) X (mX8_at  h) gX8_weakest_X8_at rfl ⟨rfl, rfl⟩ dyX8_at ⟨Nat.le_of_ble_eq_true rfl, Nat.le_of_ble_eq_true rfl⟩ rfl rfl (Nat.le_of_ble_eq_true rfl) dX8_weakest_29 ⟨Nat.zero_le _, Nat.zero_le _⟩ (fun r8 I7 h => ?_)
    obtain ⟨c9, h⟩ := h
    refine rc_iald X T0.2.1 (by decide) dX8_weakest_32 c9 ?_
    refine rc_istore X [(4, .int (rc_o (I7 (a0 + 1) r8))), (0, .ref a0), (1, .int (rc_o a1)), (2, .int (rc_o x2)), (3, .int (rc_o x3))] dX8_weakest_33 (by decide) rfl ?_
    refine rc_iload_n X dX8_weakest_35 rfl 3 rfl ?_
    refine rc_ldc (n := (-100005)) X qX8_weakest_1 (by decide +kernel) dX8_weakest_36 ?_
    obtain ⟨c10, h⟩ := h
    refine rc_ic_eq X 47 dX8_weakest_38 (by decide) c10 ⟨by decide, by decide⟩ (fun c11 => ?_) (fun c11 => ?_)
    · have h := h.1 c11
      refine rc_subl [(0, .ref a0), (1, .int (rc_o a1)), (3, .int (rc_o x3)), (4, .int (rc_o (I7 (a0 + 1) r8)))] [1, 2, 4, 0] rfl ?_
      exact gX8_weakest_47 X hr T0 hk5  h
    · have h := h.2 c11
      refine rc_iload X dX8_weakest_41 0 rfl ?_
      refine rc_iload_n X dX8_weakest_43 rfl 3 rfl ?_
      obtain ⟨c12, h⟩ := h
      obtain ⟨c13, h⟩ := h
      refine rc_ic_ge X 52 dX8_weakest_44 (by decide) c12 c13 (fun c14 => ?_) (fun c14 => ?_)
      · have h := h.1 c14
        refine rc_iload_n X dX8_weakest_52 rfl 3 rfl ?_
        refine rc_subl [(0, .ref a0), (1, .int (rc_o a1)), (3, .int (rc_o x3))] [1, 2, 4] rfl ?_
        exact gX8_weakest_53 X hr T0 hk5  h
      · have h := h.2 c14
        refine rc_subl [(0, .ref a0), (1, .int (rc_o a1)), (3, .int (rc_o x3)), (4, .int (rc_o (I7 (a0 + 1) r8)))] [1, 2, 4, 0] rfl ?_
        exact gX8_weakest_47 X hr T0 hk5  h
noncomputable def rX8_weakest_5 (G : rc_G) (post : Int → rc_M → Prop) (a0 : Nat) (a1 : Int)  (n : Nat) : Int → Int → rc_M → Prop :=
  Nat.rec (motive := fun _ => Int → Int → rc_M → Prop) (fun _ _ _ => False) (fun _ ih => wX8_weakest_5 G post a0 a1  ih) n
set_option maxRecDepth 100000 in
set_option maxHeartbeats 4000000 in
theorem sX8_weakest_5 {p : Program} {l : Launch} {e : Env} {s : State} {m : MethodId} {below : List Frame} {meth : Method} {c : Code} {G : rc_G} {a0 : Nat} {a1 : Int} {I : rc_M} {post : Int → rc_M → Prop}  {n : Nat} {x2 : Int} {x3 : Int} (X : rc_X p s m ([.ref a0, .int (rc_o a1)] : List Value).toArray meth c cX8_weakest 5 wsX8_weakest RX8 G (rc_A G)) (hr : meth.sig.returnType = some .int) (T0 : kX8 G a0)  (h : rX8_weakest_5 G post a0 a1  n x2 x3 I) : rc_g p l e rmX8_weakest s m ([.ref a0, .int (rc_o a1)] : List Value).toArray below meth c 0 0 (MQ below (rc_QI G post) ([.ref a0, .int (rc_o a1)] : List Value).toArray s 0 0 (rc_A G)) 5 G (rc_A G) 5 [(0, .ref a0), (1, .int (rc_o a1)), (2, .int (rc_o x2)), (3, .int (rc_o x3))] [] I := by
  induction n generalizing x2 x3 I with
  | zero => exact h.elim
  | succ n ih => exact gX8_weakest_5 (k5 := rX8_weakest_5 G post a0 a1  n) X hr T0  (fun x2 x3 J h2 => ih h2) h
def wX8_weakest (G : rc_G) (a0 : Nat) (a1 : Int) (I : rc_M) (post : Int → rc_M → Prop) : Prop :=
  ∃ n, rX8_weakest_5 G post a0 a1  n (-100005) 0 I
set_option maxRecDepth 100000 in
set_option maxHeartbeats 4000000 in
theorem gX8_weakest_0 {p : Program} {l : Launch} {e : Env} {s : State} {m : MethodId} {below : List Frame} {meth : Method} {c : Code} {G : rc_G} {a0 : Nat} {a1 : Int} {I : rc_M} {post : Int → rc_M → Prop}  (X : rc_X p s m ([.ref a0, .int (rc_o a1)] : List Value).toArray meth c cX8_weakest 5 wsX8_weakest RX8 G (rc_A G)) (hr : meth.sig.returnType = some .int) (T0 : kX8 G a0)  (h : wX8_weakest G a0 a1 I post) : rc_g p l e rmX8_weakest s m ([.ref a0, .int (rc_o a1)] : List Value).toArray below meth c 0 0 (MQ below (rc_QI G post) ([.ref a0, .int (rc_o a1)] : List Value).toArray s 0 0 (rc_A G)) 5 G (rc_A G) 0 [(0, .ref a0), (1, .int (rc_o a1))] [] I := by
  unfold wX8_weakest at h
  refine rc_ldc (n := (-100005)) X qX8_weakest_1 (by decide +kernel) dX8_weakest_0 ?_
  refine rc_istore_n X [(2, .int (rc_o (-100005))), (0, .ref a0), (1, .int (rc_o a1))] dX8_weakest_2 rfl (by decide) rfl ?_
  refine rc_iconst X dX8_weakest_3 ?_
  refine rc_istore_n X [(3, .int (rc_o 0)), (2, .int (rc_o (-100005))), (0, .ref a0), (1, .int (rc_o a1))] dX8_weakest_4 rfl (by decide) rfl ?_
  refine rc_subl [(0, .ref a0), (1, .int (rc_o a1)), (2, .int (rc_o (-100005))), (3, .int (rc_o 0))] [2, 3, 1, 0] rfl ?_
  obtain ⟨n, h⟩ := h
  exact sX8_weakest_5 X hr T0  h
theorem mX8_weakest {l : Launch} {G : rc_G} {a0 : Nat} {a1 : Int} {I : rc_M} {post : Int → rc_M → Prop} (T0 : kX8 G a0) (h : wX8_weakest G a0 a1 I post) : rc_CI l yX8_weakest wsX8_weakest rmX8_weakest G [.ref a0, .int (rc_o a1)] I post :=
  rc_body (by decide +kernel) rfl rfl (Nat.le_of_ble_eq_true rfl) rfl (fun p e s m below meth c X hr => gX8_weakest_0 X hr T0 h)
/-! X8_reel -/
abbrev rmX8_reel : Room := { frames := 2, cells := 0, slots := 0, locals := 45 }
theorem dyX8_reel : yX8_reel.cls = RX8 ∧ yX8_reel.cls ≠ "java/lang/invoke/MethodHandle" ∧ yX8_reel.cls ≠ "java/lang/invoke/VarHandle" ∧ (parseMethodDescriptor yX8_reel.desc).map (fun d => d.parameters.length) = some 2 := ⟨rfl, by decide +kernel, by decide +kernel, by decide +kernel⟩
theorem qX8_reel_3 : Cond.fieldLink RX8 7 "ReelChangerModel" "v" "[I" ∈ wsX8_reel := List.mem_of_getElem? (i := 3) (by decide +kernel)
theorem nX8_reel_X8 : ∀ w ∈ wsX80, w ∈ wsX8_reel := fun w h => List.mem_cons_of_mem _ (List.mem_append_right _ (h))
theorem qX8_reel_2 : Cond.constant RX8 51 (-100002) ∈ wsX8_reel := List.mem_of_getElem? (i := 2) (by decide +kernel)
theorem qX8_reel_1 : Cond.constant RX8 64 (-100001) ∈ wsX8_reel := List.mem_of_getElem? (i := 1) (by decide +kernel)
def wX8_reel (G : rc_G) (a0 : Nat) (a1 : Int) (a2 : Int) (I : rc_M) (post : Int → rc_M → Prop) : Prop :=
  wX8_isReel G a0 a1 I (fun r2 I1 => rc_R r2 ∧ ((¬ r2 = 0 → wX8_in G a2 0 2 I1 (fun r6 I5 => rc_R r6 ∧ ((¬ r6 = 0 → rc_R a2 ∧ ((2 ≤ a2 → wX8_weakest G a0 a1 I5 (fun r12 I11 => post r12 I11)) ∧ (¬ 2 ≤ a2 → wX8_at G a1 a2 I5 (fun r14 I13 => (0 ≤ r14 ∧ r14 < 199) ∧ (post (I13 (a0 + 1) r14) I13))))) ∧ (r6 = 0 → post (-100002) I5)))) ∧ (r2 = 0 → post (-100001) I1)))
set_option maxRecDepth 100000 in
set_option maxHeartbeats 4000000 in
theorem gX8_reel_0 {p : Program} {l : Launch} {e : Env} {s : State} {m : MethodId} {below : List Frame} {meth : Method} {c : Code} {G : rc_G} {a0 : Nat} {a1 : Int} {a2 : Int} {I : rc_M} {post : Int → rc_M → Prop}  (X : rc_X p s m ([.ref a0, .int (rc_o a1), .int (rc_o a2)] : List Value).toArray meth c cX8_reel 3 wsX8_reel RX8 G (rc_A G)) (hr : meth.sig.returnType = some .int) (T0 : kX8 G a0)  (h : wX8_reel G a0 a1 a2 I post) : rc_g p l e rmX8_reel s m ([.ref a0, .int (rc_o a1), .int (rc_o a2)] : List Value).toArray below meth c 0 0 (MQ below (rc_QI G post) ([.ref a0, .int (rc_o a1), .int (rc_o a2)] : List Value).toArray s 0 0 (rc_A G)) 3 G (rc_A G) 0 [(0, .ref a0), (1, .int (rc_o a1)), (2, .int (rc_o a2))] [] I := by
  unfold wX8_reel at h
  refine rc_aload_n X dX8_reel_0 rfl 0 rfl ?_
  refine rc_iload_n X dX8_reel_1 rfl 1 rfl ?_
  refine rc_cVI (rest := []) X (mX8_isReel T0 h) gX8_reel_X8_isReel rfl ⟨rfl, rfl⟩ dyX8_isReel ⟨Nat.le_of_ble_eq_true rfl, Nat.le_of_ble_eq_true rfl⟩ (rc_recv X T0.1 rfl) rfl rfl (Nat.le_of_ble_eq_true rfl) dX8_reel_2 ⟨Nat.zero_le _, Nat.zero_le _⟩ (fun r2 I1 h => ?_)
  obtain ⟨c3, h⟩ := h
  refine rc_if_ne X 11 dX8_reel_5 (by decide) c3 (fun c4 => ?_) (fun c4 => ?_)
  · have h := h.1 c4
    refine rc_iload_n X dX8_reel_11 rfl 2 rfl ?_
    refine rc_iconst X dX8_reel_12 ?_
    refine rc_iconst X dX8_reel_13 ?_
    refine rc_cSI (rest := []) X (mX8_in  h) gX8_reel_X8_in rfl ⟨rfl, rfl⟩ dyX8_in ⟨Nat.le_of_ble_eq_true rfl, Nat.le_of_ble_eq_true rfl⟩ rfl rfl (Nat.le_of_ble_eq_true rfl) dX8_reel_14 ⟨Nat.zero_le _, Nat.zero_le _⟩ (fun r6 I5 h => ?_)
    obtain ⟨c7, h⟩ := h
    refine rc_if_ne X 25 dX8_reel_17 (by decide) c7 (fun c8 => ?_) (fun c8 => ?_)
    · have h := h.1 c8
      refine rc_iload_n X dX8_reel_25 rfl 2 rfl ?_
      refine rc_iconst X dX8_reel_26 ?_
      obtain ⟨c9, h⟩ := h
      refine rc_ic_ge X 43 dX8_reel_27 (by decide) c9 ⟨by decide, by decide⟩ (fun c10 => ?_) (fun c10 => ?_)
      · have h := h.1 c10
        refine rc_aload_n X dX8_reel_43 rfl 0 rfl ?_
        refine rc_iload_n X dX8_reel_44 rfl 1 rfl ?_
        refine rc_cVI (rest := []) X (mX8_weakest T0 h) gX8_reel_X8_weakest rfl ⟨rfl, rfl⟩ dyX8_weakest ⟨Nat.le_of_ble_eq_true rfl, Nat.le_of_ble_eq_true rfl⟩ (rc_recv X T0.1 rfl) rfl rfl (Nat.le_of_ble_eq_true rfl) dX8_reel_45 ⟨Nat.zero_le _, Nat.zero_le _⟩ (fun r12 I11 h => ?_)
        exact rc_iret X hr dX8_reel_48 h
      · have h := h.2 c10
        refine rc_aload_n X dX8_reel_30 rfl 0 rfl ?_
        refine gfX8_v X T0.1 nX8_reel_X8 qX8_reel_3 dX8_reel_31 ?_
        refine rc_iload_n X dX8_reel_34 rfl 1 rfl ?_
        refine rc_iload_n X dX8_reel_35 rfl 2 rfl ?_
        refine rc_cSI (rest := [.ref (a0 + 1)]) X (mX8_at  h) gX8_reel_X8_at rfl ⟨rfl, rfl⟩ dyX8_at ⟨Nat.le_of_ble_eq_true rfl, Nat.le_of_ble_eq_true rfl⟩ rfl rfl (Nat.le_of_ble_eq_true rfl) dX8_reel_36 ⟨Nat.zero_le _, Nat.zero_le _⟩ (fun r14 I13 h => ?_)
        obtain ⟨c15, h⟩ := h
        refine rc_iald X T0.2.1 (by decide) dX8_reel_39 c15 ?_
        refine rc_goto X 48 dX8_reel_40 (by decide) ?_
        exact rc_iret X hr dX8_reel_48 h
    · have h := h.2 c8
      refine rc_ldc (n := (-100002)) X qX8_reel_2 (by decide +kernel) dX8_reel_20 ?_
      refine rc_goto X 48 dX8_reel_22 (by decide) ?_
      exact rc_iret X hr dX8_reel_48 h
  · have h := h.2 c4
    refine rc_ldc (n := (-100001)) X qX8_reel_1 (by decide +kernel) dX8_reel_8 ?_
    exact rc_iret X hr dX8_reel_10 h
theorem mX8_reel {l : Launch} {G : rc_G} {a0 : Nat} {a1 : Int} {a2 : Int} {I : rc_M} {post : Int → rc_M → Prop} (T0 : kX8 G a0) (h : wX8_reel G a0 a1 a2 I post) : rc_CI l yX8_reel wsX8_reel rmX8_reel G [.ref a0, .int (rc_o a1), .int (rc_o a2)] I post :=
  rc_body (by decide +kernel) rfl rfl (Nat.le_of_ble_eq_true rfl) rfl (fun p e s m below meth c X hr => gX8_reel_0 X hr T0 h)
/-! X8_spliceAt -/
abbrev rmX8_spliceAt : Room := { frames := 2, cells := 0, slots := 0, locals := 43 }
theorem dyX8_spliceAt : yX8_spliceAt.cls = RX8 ∧ yX8_spliceAt.cls ≠ "java/lang/invoke/MethodHandle" ∧ yX8_spliceAt.cls ≠ "java/lang/invoke/VarHandle" ∧ (parseMethodDescriptor yX8_spliceAt.desc).map (fun d => d.parameters.length) = some 3 := ⟨rfl, by decide +kernel, by decide +kernel, by decide +kernel⟩
theorem qX8_spliceAt_2 : Cond.constant RX8 64 (-100001) ∈ wsX8_spliceAt := List.mem_of_getElem? (i := 2) (by decide +kernel)
theorem qX8_spliceAt_1 : Cond.fieldLink RX8 7 "ReelChangerModel" "v" "[I" ∈ wsX8_spliceAt := List.mem_of_getElem? (i := 1) (by decide +kernel)
theorem nX8_spliceAt_X8 : ∀ w ∈ wsX80, w ∈ wsX8_spliceAt := fun w h => List.mem_cons_of_mem _ (List.mem_append_right _ (h))
def wX8_spliceAt_50 (G : rc_G) (post : Int → rc_M → Prop) (a0 : Nat) (a1 : Int) (a2 : Int) (a3 : Int)  (y0 : Int) (y1 : Int) (y2 : Int) (I : rc_M) : Prop :=
  wX8_at G y2 (y1 + y0) I (fun r15 I14 => (0 ≤ r15 ∧ r15 < 199) ∧ (post (I14 (a0 + 1) r15) I14))
set_option maxRecDepth 100000 in
set_option maxHeartbeats 4000000 in
theorem gX8_spliceAt_50 {p : Program} {l : Launch} {e : Env} {s : State} {m : MethodId} {below : List Frame} {meth : Method} {c : Code} {G : rc_G} {a0 : Nat} {a1 : Int} {a2 : Int} {a3 : Int} {I : rc_M} {post : Int → rc_M → Prop}  {y0 : Int} {y1 : Int} {y2 : Int} (X : rc_X p s m ([.ref a0, .int (rc_o a1), .int (rc_o a2), .int (rc_o a3)] : List Value).toArray meth c cX8_spliceAt 4 wsX8_spliceAt RX8 G (rc_A G)) (hr : meth.sig.returnType = some .int) (T0 : kX8 G a0)   (h : wX8_spliceAt_50 G post a0 a1 a2 a3  y0 y1 y2 I) : rc_g p l e rmX8_spliceAt s m ([.ref a0, .int (rc_o a1), .int (rc_o a2), .int (rc_o a3)] : List Value).toArray below meth c 0 0 (MQ below (rc_QI G post) ([.ref a0, .int (rc_o a1), .int (rc_o a2), .int (rc_o a3)] : List Value).toArray s 0 0 (rc_A G)) 4 G (rc_A G) 50 [] [.int (rc_o y0), .int (rc_o y1), .int (rc_o y2), .ref (a0 + 1)] I := by
  unfold wX8_spliceAt_50 at h
  refine rc_iadd X dX8_spliceAt_50 ?_
  refine rc_cSI (rest := [.ref (a0 + 1)]) X (mX8_at  h) gX8_spliceAt_X8_at rfl ⟨rfl, rfl⟩ dyX8_at ⟨Nat.le_of_ble_eq_true rfl, Nat.le_of_ble_eq_true rfl⟩ rfl rfl (Nat.le_of_ble_eq_true rfl) dX8_spliceAt_51 ⟨Nat.zero_le _, Nat.zero_le _⟩ (fun r15 I14 h => ?_)
  obtain ⟨c16, h⟩ := h
  refine rc_iald X T0.2.1 (by decide) dX8_spliceAt_54 c16 ?_
  exact rc_iret X hr dX8_spliceAt_55 h
def wX8_spliceAt (G : rc_G) (a0 : Nat) (a1 : Int) (a2 : Int) (a3 : Int) (I : rc_M) (post : Int → rc_M → Prop) : Prop :=
  wX8_isReel G a0 a1 I (fun r2 I1 => rc_R r2 ∧ ((r2 = 0 → post (-100001) I1) ∧ (¬ r2 = 0 → wX8_at G a1 1 I1 (fun r6 I5 => (0 ≤ r6 ∧ r6 < 199) ∧ (wX8_in G a2 0 ((I5 (a0 + 1) r6) - 1) I5 (fun r9 I8 => rc_R r9 ∧ ((¬ r9 = 0 → rc_R a3 ∧ ((a3 = 0 → wX8_spliceAt_50 G post a0 a1 a2 a3  0 (2 + (2 * a2)) a1 I8) ∧ (¬ a3 = 0 → wX8_spliceAt_50 G post a0 a1 a2 a3  1 (2 + (2 * a2)) a1 I8))) ∧ (r9 = 0 → post (-100001) I8))))))))
set_option maxRecDepth 100000 in
set_option maxHeartbeats 4000000 in
theorem gX8_spliceAt_0 {p : Program} {l : Launch} {e : Env} {s : State} {m : MethodId} {below : List Frame} {meth : Method} {c : Code} {G : rc_G} {a0 : Nat} {a1 : Int} {a2 : Int} {a3 : Int} {I : rc_M} {post : Int → rc_M → Prop}  (X : rc_X p s m ([.ref a0, .int (rc_o a1), .int (rc_o a2), .int (rc_o a3)] : List Value).toArray meth c cX8_spliceAt 4 wsX8_spliceAt RX8 G (rc_A G)) (hr : meth.sig.returnType = some .int) (T0 : kX8 G a0)  (h : wX8_spliceAt G a0 a1 a2 a3 I post) : rc_g p l e rmX8_spliceAt s m ([.ref a0, .int (rc_o a1), .int (rc_o a2), .int (rc_o a3)] : List Value).toArray below meth c 0 0 (MQ below (rc_QI G post) ([.ref a0, .int (rc_o a1), .int (rc_o a2), .int (rc_o a3)] : List Value).toArray s 0 0 (rc_A G)) 4 G (rc_A G) 0 [(0, .ref a0), (1, .int (rc_o a1)), (2, .int (rc_o a2)), (3, .int (rc_o a3))] [] I := by
  unfold wX8_spliceAt at h
  refine rc_aload_n X dX8_spliceAt_0 rfl 0 rfl ?_
  refine rc_iload_n X dX8_spliceAt_1 rfl 1 rfl ?_
  refine rc_cVI (rest := []) X (mX8_isReel T0 h) gX8_spliceAt_X8_isReel rfl ⟨rfl, rfl⟩ dyX8_isReel ⟨Nat.le_of_ble_eq_true rfl, Nat.le_of_ble_eq_true rfl⟩ (rc_recv X T0.1 rfl) rfl rfl (Nat.le_of_ble_eq_true rfl) dX8_spliceAt_2 ⟨Nat.zero_le _, Nat.zero_le _⟩ (fun r2 I1 h => ?_)
  obtain ⟨c3, h⟩ := h
  refine rc_if_eq X 28 dX8_spliceAt_5 (by decide) c3 (fun c4 => ?_) (fun c4 => ?_)
  · have h := h.1 c4
    refine rc_ldc (n := (-100001)) X qX8_spliceAt_2 (by decide +kernel) dX8_spliceAt_28 ?_
    exact rc_iret X hr dX8_spliceAt_30 h
  · have h := h.2 c4
    refine rc_iload_n X dX8_spliceAt_8 rfl 2 rfl ?_
    refine rc_iconst X dX8_spliceAt_9 ?_
    refine rc_aload_n X dX8_spliceAt_10 rfl 0 rfl ?_
    refine gfX8_v X T0.1 nX8_spliceAt_X8 qX8_spliceAt_1 dX8_spliceAt_11 ?_
    refine rc_iload_n X dX8_spliceAt_14 rfl 1 rfl ?_
    refine rc_iconst X dX8_spliceAt_15 ?_
    refine rc_cSI (rest := [.ref (a0 + 1), .int (rc_o 0), .int (rc_o a2)]) X (mX8_at  h) gX8_spliceAt_X8_at rfl ⟨rfl, rfl⟩ dyX8_at ⟨Nat.le_of_ble_eq_true rfl, Nat.le_of_ble_eq_true rfl⟩ rfl rfl (Nat.le_of_ble_eq_true rfl) dX8_spliceAt_16 ⟨Nat.zero_le _, Nat.zero_le _⟩ (fun r6 I5 h => ?_)
    obtain ⟨c7, h⟩ := h
    refine rc_iald X T0.2.1 (by decide) dX8_spliceAt_19 c7 ?_
    refine rc_iconst X dX8_spliceAt_20 ?_
    refine rc_isub X dX8_spliceAt_21 ?_
    refine rc_cSI (rest := []) X (mX8_in  h) gX8_spliceAt_X8_in rfl ⟨rfl, rfl⟩ dyX8_in ⟨Nat.le_of_ble_eq_true rfl, Nat.le_of_ble_eq_true rfl⟩ rfl rfl (Nat.le_of_ble_eq_true rfl) dX8_spliceAt_22 ⟨Nat.zero_le _, Nat.zero_le _⟩ (fun r9 I8 h => ?_)
    obtain ⟨c10, h⟩ := h
    refine rc_if_ne X 31 dX8_spliceAt_25 (by decide) c10 (fun c11 => ?_) (fun c11 => ?_)
    · have h := h.1 c11
      refine rc_aload_n X dX8_spliceAt_31 rfl 0 rfl ?_
      refine gfX8_v X T0.1 nX8_spliceAt_X8 qX8_spliceAt_1 dX8_spliceAt_32 ?_
      refine rc_iload_n X dX8_spliceAt_35 rfl 1 rfl ?_
      refine rc_iconst X dX8_spliceAt_36 ?_
      refine rc_iconst X dX8_spliceAt_37 ?_
      refine rc_iload_n X dX8_spliceAt_38 rfl 2 rfl ?_
      refine rc_imul X dX8_spliceAt_39 ?_
      refine rc_iadd X dX8_spliceAt_40 ?_
      refine rc_iload_n X dX8_spliceAt_41 rfl 3 rfl ?_
      obtain ⟨c12, h⟩ := h
      refine rc_if_eq X 49 dX8_spliceAt_42 (by decide) c12 (fun c13 => ?_) (fun c13 => ?_)
      · have h := h.1 c13
        refine rc_iconst X dX8_spliceAt_49 ?_
        refine rc_subl [] [] rfl ?_
        exact gX8_spliceAt_50 X hr T0   h
      · have h := h.2 c13
        refine rc_iconst X dX8_spliceAt_45 ?_
        refine rc_goto X 50 dX8_spliceAt_46 (by decide) ?_
        refine rc_subl [] [] rfl ?_
        exact gX8_spliceAt_50 X hr T0   h
    · have h := h.2 c11
      refine rc_ldc (n := (-100001)) X qX8_spliceAt_2 (by decide +kernel) dX8_spliceAt_28 ?_
      exact rc_iret X hr dX8_spliceAt_30 h
theorem mX8_spliceAt {l : Launch} {G : rc_G} {a0 : Nat} {a1 : Int} {a2 : Int} {a3 : Int} {I : rc_M} {post : Int → rc_M → Prop} (T0 : kX8 G a0) (h : wX8_spliceAt G a0 a1 a2 a3 I post) : rc_CI l yX8_spliceAt wsX8_spliceAt rmX8_spliceAt G [.ref a0, .int (rc_o a1), .int (rc_o a2), .int (rc_o a3)] I post :=
  rc_body (by decide +kernel) rfl rfl (Nat.le_of_ble_eq_true rfl) rfl (fun p e s m below meth c X hr => gX8_spliceAt_0 X hr T0 h)
/-! X8_set -/
abbrev rmX8_set : Room := { frames := 1, cells := 0, slots := 0, locals := 23 }
theorem dyX8_set : yX8_set.cls = RX8 ∧ yX8_set.cls ≠ "java/lang/invoke/MethodHandle" ∧ yX8_set.cls ≠ "java/lang/invoke/VarHandle" ∧ (parseMethodDescriptor yX8_set.desc).map (fun d => d.parameters.length) = some 2 := ⟨rfl, by decide +kernel, by decide +kernel, by decide +kernel⟩
theorem qX8_set_2 : Cond.fieldLink RX8 23 "ReelChangerModel" "lows" "[I" ∈ wsX8_set := List.mem_of_getElem? (i := 2) (by decide +kernel)
theorem nX8_set_X8 : ∀ w ∈ wsX80, w ∈ wsX8_set := fun w h => List.mem_cons_of_mem _ (List.mem_append_right _ (h))
theorem qX8_set_3 : Cond.fieldLink RX8 26 "ReelChangerModel" "highs" "[I" ∈ wsX8_set := List.mem_of_getElem? (i := 3) (by decide +kernel)
theorem qX8_set_4 : Cond.constant RX8 51 (-100002) ∈ wsX8_set := List.mem_of_getElem? (i := 4) (by decide +kernel)
theorem qX8_set_1 : Cond.constant RX8 64 (-100001) ∈ wsX8_set := List.mem_of_getElem? (i := 1) (by decide +kernel)
def wX8_set (G : rc_G) (a0 : Nat) (a1 : Int) (a2 : Int) (I : rc_M) (post : Int → rc_M → Prop) : Prop :=
  wX8_in G a1 0 7 I (fun r2 I1 => rc_R r2 ∧ ((¬ r2 = 0 → (0 ≤ a1 ∧ a1 < 8) ∧ ((0 ≤ a1 ∧ a1 < 8) ∧ (wX8_in G a2 (I1 (a0 + 5) a1) (I1 (a0 + 6) a1) I1 (fun r8 I7 => rc_R r8 ∧ ((r8 = 0 → post (-100002) I7) ∧ (¬ r8 = 0 → wX8_puts G a0 (141 + a1) a2 I7 (fun r12 I11 => post r12 I11))))))) ∧ (r2 = 0 → post (-100001) I1)))
set_option maxRecDepth 100000 in
set_option maxHeartbeats 4000000 in
theorem gX8_set_0 {p : Program} {l : Launch} {e : Env} {s : State} {m : MethodId} {below : List Frame} {meth : Method} {c : Code} {G : rc_G} {a0 : Nat} {a1 : Int} {a2 : Int} {I : rc_M} {post : Int → rc_M → Prop}  (X : rc_X p s m ([.ref a0, .int (rc_o a1), .int (rc_o a2)] : List Value).toArray meth c cX8_set 3 wsX8_set RX8 G (rc_A G)) (hr : meth.sig.returnType = some .int) (T0 : kX8 G a0)  (h : wX8_set G a0 a1 a2 I post) : rc_g p l e rmX8_set s m ([.ref a0, .int (rc_o a1), .int (rc_o a2)] : List Value).toArray below meth c 0 0 (MQ below (rc_QI G post) ([.ref a0, .int (rc_o a1), .int (rc_o a2)] : List Value).toArray s 0 0 (rc_A G)) 3 G (rc_A G) 0 [(0, .ref a0), (1, .int (rc_o a1)), (2, .int (rc_o a2))] [] I := by
  unfold wX8_set at h
  refine rc_iload_n X dX8_set_0 rfl 1 rfl ?_
  refine rc_iconst X dX8_set_1 ?_
  refine rc_bipush X dX8_set_2 (rc_b8 _ ⟨by decide, by decide⟩) ?_
  refine rc_cSI (rest := []) X (mX8_in  h) gX8_set_X8_in rfl ⟨rfl, rfl⟩ dyX8_in ⟨Nat.le_of_ble_eq_true rfl, Nat.le_of_ble_eq_true rfl⟩ rfl rfl (Nat.le_of_ble_eq_true rfl) dX8_set_4 ⟨Nat.zero_le _, Nat.zero_le _⟩ (fun r2 I1 h => ?_)
  obtain ⟨c3, h⟩ := h
  refine rc_if_ne X 13 dX8_set_7 (by decide) c3 (fun c4 => ?_) (fun c4 => ?_)
  · have h := h.1 c4
    refine rc_iload_n X dX8_set_13 rfl 2 rfl ?_
    refine rc_aload_n X dX8_set_14 rfl 0 rfl ?_
    refine gfX8_lows X T0.1 nX8_set_X8 qX8_set_2 dX8_set_15 ?_
    refine rc_iload_n X dX8_set_18 rfl 1 rfl ?_
    obtain ⟨c5, h⟩ := h
    refine rc_iald X T0.2.2.2.2.2.1 (by decide) dX8_set_19 c5 ?_
    refine rc_aload_n X dX8_set_20 rfl 0 rfl ?_
    refine gfX8_highs X T0.1 nX8_set_X8 qX8_set_3 dX8_set_21 ?_
    refine rc_iload_n X dX8_set_24 rfl 1 rfl ?_
    obtain ⟨c6, h⟩ := h
    refine rc_iald X T0.2.2.2.2.2.2.1 (by decide) dX8_set_25 c6 ?_
    refine rc_cSI (rest := []) X (mX8_in  h) gX8_set_X8_in rfl ⟨rfl, rfl⟩ dyX8_in ⟨Nat.le_of_ble_eq_true rfl, Nat.le_of_ble_eq_true rfl⟩ rfl rfl (Nat.le_of_ble_eq_true rfl) dX8_set_26 ⟨Nat.zero_le _, Nat.zero_le _⟩ (fun r8 I7 h => ?_)
    obtain ⟨c9, h⟩ := h
    refine rc_if_eq X 45 dX8_set_29 (by decide) c9 (fun c10 => ?_) (fun c10 => ?_)
    · have h := h.1 c10
      refine rc_ldc (n := (-100002)) X qX8_set_4 (by decide +kernel) dX8_set_45 ?_
      exact rc_iret X hr dX8_set_47 h
    · have h := h.2 c10
      refine rc_aload_n X dX8_set_32 rfl 0 rfl ?_
      refine rc_sipush X dX8_set_33 (rc_b16 _ ⟨by decide, by decide⟩) ?_
      refine rc_iload_n X dX8_set_36 rfl 1 rfl ?_
      refine rc_iadd X dX8_set_37 ?_
      refine rc_iload_n X dX8_set_38 rfl 2 rfl ?_
      refine rc_cVI (rest := []) X (mX8_puts T0 h) gX8_set_X8_puts rfl ⟨rfl, rfl⟩ dyX8_puts ⟨Nat.le_of_ble_eq_true rfl, Nat.le_of_ble_eq_true rfl⟩ (rc_recv X T0.1 rfl) rfl rfl (Nat.le_of_ble_eq_true rfl) dX8_set_39 ⟨Nat.zero_le _, Nat.zero_le _⟩ (fun r12 I11 h => ?_)
      refine rc_goto X 47 dX8_set_42 (by decide) ?_
      exact rc_iret X hr dX8_set_47 h
  · have h := h.2 c4
    refine rc_ldc (n := (-100001)) X qX8_set_1 (by decide +kernel) dX8_set_10 ?_
    exact rc_iret X hr dX8_set_12 h
theorem mX8_set {l : Launch} {G : rc_G} {a0 : Nat} {a1 : Int} {a2 : Int} {I : rc_M} {post : Int → rc_M → Prop} (T0 : kX8 G a0) (h : wX8_set G a0 a1 a2 I post) : rc_CI l yX8_set wsX8_set rmX8_set G [.ref a0, .int (rc_o a1), .int (rc_o a2)] I post :=
  rc_body (by decide +kernel) rfl rfl (Nat.le_of_ble_eq_true rfl) rfl (fun p e s m below meth c X hr => gX8_set_0 X hr T0 h)
/-! X8_append -/
abbrev rmX8_append : Room := { frames := 1, cells := 0, slots := 0, locals := 22 }
theorem dyX8_append : yX8_append.cls = RX8 ∧ yX8_append.cls ≠ "java/lang/invoke/MethodHandle" ∧ yX8_append.cls ≠ "java/lang/invoke/VarHandle" ∧ (parseMethodDescriptor yX8_append.desc).map (fun d => d.parameters.length) = some 1 := ⟨rfl, by decide +kernel, by decide +kernel, by decide +kernel⟩
theorem qX8_append_2 : Cond.fieldLink RX8 76 "ReelChangerModel" "length" "I" ∈ wsX8_append := List.mem_of_getElem? (i := 2) (by decide +kernel)
theorem nX8_append_X8 : ∀ w ∈ wsX80, w ∈ wsX8_append := fun w h => List.mem_cons_of_mem _ (List.mem_append_right _ (h))
theorem qX8_append_4 : Cond.fieldLink RX8 32 "ReelChangerModel" "text" "[I" ∈ wsX8_append := List.mem_of_getElem? (i := 4) (by decide +kernel)
theorem qX8_append_3 : Cond.constant RX8 52 (-100004) ∈ wsX8_append := List.mem_of_getElem? (i := 3) (by decide +kernel)
theorem qX8_append_1 : Cond.constant RX8 51 (-100002) ∈ wsX8_append := List.mem_of_getElem? (i := 1) (by decide +kernel)
def wX8_append (G : rc_G) (a0 : Nat) (a1 : Int) (I : rc_M) (post : Int → rc_M → Prop) : Prop :=
  wX8_in G a1 0 127 I (fun r2 I1 => rc_R r2 ∧ ((¬ r2 = 0 → rc_R (I1 a0 8) ∧ ((¬ (I1 a0 8) = 60 → (0 ≤ I1 a0 8 ∧ I1 a0 8 < 60) ∧ (∀ I8, I8 = rc_s I1 (a0 + 8) (I1 a0 8) a1 → ∀ I9, I9 = rc_s I8 a0 8 ((I8 a0 8) + 1) → post (I9 a0 8) I9)) ∧ ((I1 a0 8) = 60 → post (-100004) I1))) ∧ (r2 = 0 → post (-100002) I1)))
set_option maxRecDepth 100000 in
set_option maxHeartbeats 4000000 in
theorem gX8_append_0 {p : Program} {l : Launch} {e : Env} {s : State} {m : MethodId} {below : List Frame} {meth : Method} {c : Code} {G : rc_G} {a0 : Nat} {a1 : Int} {I : rc_M} {post : Int → rc_M → Prop}  (X : rc_X p s m ([.ref a0, .int (rc_o a1)] : List Value).toArray meth c cX8_append 2 wsX8_append RX8 G (rc_A G)) (hr : meth.sig.returnType = some .int) (T0 : kX8 G a0)  (h : wX8_append G a0 a1 I post) : rc_g p l e rmX8_append s m ([.ref a0, .int (rc_o a1)] : List Value).toArray below meth c 0 0 (MQ below (rc_QI G post) ([.ref a0, .int (rc_o a1)] : List Value).toArray s 0 0 (rc_A G)) 2 G (rc_A G) 0 [(0, .ref a0), (1, .int (rc_o a1))] [] I := by
  unfold wX8_append at h
  refine rc_iload_n X dX8_append_0 rfl 1 rfl ?_
  refine rc_iconst X dX8_append_1 ?_
  refine rc_bipush X dX8_append_2 (rc_b8 _ ⟨by decide, by decide⟩) ?_
  refine rc_cSI (rest := []) X (mX8_in  h) gX8_append_X8_in rfl ⟨rfl, rfl⟩ dyX8_in ⟨Nat.le_of_ble_eq_true rfl, Nat.le_of_ble_eq_true rfl⟩ rfl rfl (Nat.le_of_ble_eq_true rfl) dX8_append_4 ⟨Nat.zero_le _, Nat.zero_le _⟩ (fun r2 I1 h => ?_)
  obtain ⟨c3, h⟩ := h
  refine rc_if_ne X 13 dX8_append_7 (by decide) c3 (fun c4 => ?_) (fun c4 => ?_)
  · have h := h.1 c4
    refine rc_aload_n X dX8_append_13 rfl 0 rfl ?_
    refine gfX8_length X T0.1 nX8_append_X8 qX8_append_2 dX8_append_14 ?_
    refine rc_bipush X dX8_append_17 (rc_b8 _ ⟨by decide, by decide⟩) ?_
    obtain ⟨c5, h⟩ := h
    refine rc_ic_ne X 25 dX8_append_19 (by decide) c5 ⟨by decide, by decide⟩ (fun c6 => ?_) (fun c6 => ?_)
    · have h := h.1 c6
      refine rc_aload_n X dX8_append_25 rfl 0 rfl ?_
      refine gfX8_text X T0.1 nX8_append_X8 qX8_append_4 dX8_append_26 ?_
      refine rc_aload_n X dX8_append_29 rfl 0 rfl ?_
      refine gfX8_length X T0.1 nX8_append_X8 qX8_append_2 dX8_append_30 ?_
      refine rc_iload_n X dX8_append_33 rfl 1 rfl ?_
      obtain ⟨c7, h⟩ := h
      refine rc_iast X T0.2.2.2.2.2.2.2.2.1 (by decide) dX8_append_34 c7 (fun I8 e8 => ?_)
      have h := h I8 e8
      refine rc_aload_n X dX8_append_35 rfl 0 rfl ?_
      refine rc_dup X dX8_append_36 rfl ?_
      refine gfX8_length X T0.1 nX8_append_X8 qX8_append_2 dX8_append_37 ?_
      refine rc_iconst X dX8_append_40 ?_
      refine rc_iadd X dX8_append_41 ?_
      refine pfX8_length X T0.1 nX8_append_X8 qX8_append_2 dX8_append_42 (fun I9 e9 => ?_)
      have h := h I9 e9
      refine rc_aload_n X dX8_append_45 rfl 0 rfl ?_
      refine gfX8_length X T0.1 nX8_append_X8 qX8_append_2 dX8_append_46 ?_
      exact rc_iret X hr dX8_append_49 h
    · have h := h.2 c6
      refine rc_ldc (n := (-100004)) X qX8_append_3 (by decide +kernel) dX8_append_22 ?_
      exact rc_iret X hr dX8_append_24 h
  · have h := h.2 c4
    refine rc_ldc (n := (-100002)) X qX8_append_1 (by decide +kernel) dX8_append_10 ?_
    exact rc_iret X hr dX8_append_12 h
theorem mX8_append {l : Launch} {G : rc_G} {a0 : Nat} {a1 : Int} {I : rc_M} {post : Int → rc_M → Prop} (T0 : kX8 G a0) (h : wX8_append G a0 a1 I post) : rc_CI l yX8_append wsX8_append rmX8_append G [.ref a0, .int (rc_o a1)] I post :=
  rc_body (by decide +kernel) rfl rfl (Nat.le_of_ble_eq_true rfl) rfl (fun p e s m below meth c X hr => gX8_append_0 X hr T0 h)
/-! X8_clearText -/
abbrev rmX8_clearText : Room := { frames := 0, cells := 0, slots := 0, locals := 0 }
theorem dyX8_clearText : yX8_clearText.cls = RX8 ∧ yX8_clearText.cls ≠ "java/lang/invoke/MethodHandle" ∧ yX8_clearText.cls ≠ "java/lang/invoke/VarHandle" ∧ (parseMethodDescriptor yX8_clearText.desc).map (fun d => d.parameters.length) = some 0 := ⟨rfl, by decide +kernel, by decide +kernel, by decide +kernel⟩
theorem qX8_clearText_1 : Cond.fieldLink RX8 76 "ReelChangerModel" "length" "I" ∈ wsX8_clearText := List.mem_of_getElem? (i := 1) (by decide +kernel)
theorem nX8_clearText_X8 : ∀ w ∈ wsX80, w ∈ wsX8_clearText := fun w h => List.mem_cons_of_mem _ (List.mem_append_right _ (h))
def wX8_clearText (G : rc_G) (a0 : Nat) (I : rc_M) (post : Int → rc_M → Prop) : Prop :=
  ∀ I1, I1 = rc_s I a0 8 0 → post (I a0 8) I1
set_option maxRecDepth 100000 in
set_option maxHeartbeats 4000000 in
theorem gX8_clearText_0 {p : Program} {l : Launch} {e : Env} {s : State} {m : MethodId} {below : List Frame} {meth : Method} {c : Code} {G : rc_G} {a0 : Nat} {I : rc_M} {post : Int → rc_M → Prop}  (X : rc_X p s m ([.ref a0] : List Value).toArray meth c cX8_clearText 2 wsX8_clearText RX8 G (rc_A G)) (hr : meth.sig.returnType = some .int) (T0 : kX8 G a0)  (h : wX8_clearText G a0 I post) : rc_g p l e rmX8_clearText s m ([.ref a0] : List Value).toArray below meth c 0 0 (MQ below (rc_QI G post) ([.ref a0] : List Value).toArray s 0 0 (rc_A G)) 2 G (rc_A G) 0 [(0, .ref a0)] [] I := by
  unfold wX8_clearText at h
  refine rc_aload_n X dX8_clearText_0 rfl 0 rfl ?_
  refine gfX8_length X T0.1 nX8_clearText_X8 qX8_clearText_1 dX8_clearText_1 ?_
  refine rc_istore_n X [(1, .int (rc_o (I a0 8))), (0, .ref a0)] dX8_clearText_4 rfl (by decide) rfl ?_
  refine rc_aload_n X dX8_clearText_5 rfl 1 rfl ?_
  refine rc_iconst X dX8_clearText_6 ?_
  refine pfX8_length X T0.1 nX8_clearText_X8 qX8_clearText_1 dX8_clearText_7 (fun I1 e1 => ?_)
  have h := h I1 e1
  refine rc_iload_n X dX8_clearText_10 rfl 0 rfl ?_
  exact rc_iret X hr dX8_clearText_11 h
theorem mX8_clearText {l : Launch} {G : rc_G} {a0 : Nat} {I : rc_M} {post : Int → rc_M → Prop} (T0 : kX8 G a0) (h : wX8_clearText G a0 I post) : rc_CI l yX8_clearText wsX8_clearText rmX8_clearText G [.ref a0] I post :=
  rc_body (by decide +kernel) rfl rfl (Nat.le_of_ble_eq_true rfl) rfl (fun p e s m below meth c X hr => gX8_clearText_0 X hr T0 h)
/-! X8_here -/
abbrev rmX8_here : Room := { frames := 0, cells := 0, slots := 0, locals := 0 }
theorem dyX8_here : yX8_here.cls = RX8 ∧ yX8_here.cls ≠ "java/lang/invoke/MethodHandle" ∧ yX8_here.cls ≠ "java/lang/invoke/VarHandle" ∧ (parseMethodDescriptor yX8_here.desc).map (fun d => d.parameters.length) = some 0 := ⟨rfl, by decide +kernel, by decide +kernel, by decide +kernel⟩
theorem qX8_here_1 : Cond.fieldLink RX8 80 "ReelChangerModel" "place" "I" ∈ wsX8_here := List.mem_of_getElem? (i := 1) (by decide +kernel)
theorem nX8_here_X8 : ∀ w ∈ wsX80, w ∈ wsX8_here := fun w h => List.mem_cons_of_mem _ (List.mem_append_right _ (h))
theorem qX8_here_2 : Cond.fieldLink RX8 76 "ReelChangerModel" "length" "I" ∈ wsX8_here := List.mem_of_getElem? (i := 2) (by decide +kernel)
theorem qX8_here_3 : Cond.fieldLink RX8 32 "ReelChangerModel" "text" "[I" ∈ wsX8_here := List.mem_of_getElem? (i := 3) (by decide +kernel)
def wX8_here (G : rc_G) (a0 : Nat) (I : rc_M) (post : Int → rc_M → Prop) : Prop :=
  rc_R (I a0 9) ∧ (rc_R (I a0 8) ∧ (((I a0 8) ≤ (I a0 9) → post (-1) I) ∧ (¬ (I a0 8) ≤ (I a0 9) → (0 ≤ I a0 9 ∧ I a0 9 < 60) ∧ (post (I (a0 + 8) (I a0 9)) I))))
set_option maxRecDepth 100000 in
set_option maxHeartbeats 4000000 in
theorem gX8_here_0 {p : Program} {l : Launch} {e : Env} {s : State} {m : MethodId} {below : List Frame} {meth : Method} {c : Code} {G : rc_G} {a0 : Nat} {I : rc_M} {post : Int → rc_M → Prop}  (X : rc_X p s m ([.ref a0] : List Value).toArray meth c cX8_here 1 wsX8_here RX8 G (rc_A G)) (hr : meth.sig.returnType = some .int) (T0 : kX8 G a0)  (h : wX8_here G a0 I post) : rc_g p l e rmX8_here s m ([.ref a0] : List Value).toArray below meth c 0 0 (MQ below (rc_QI G post) ([.ref a0] : List Value).toArray s 0 0 (rc_A G)) 1 G (rc_A G) 0 [(0, .ref a0)] [] I := by
  unfold wX8_here at h
  refine rc_aload_n X dX8_here_0 rfl 0 rfl ?_
  refine gfX8_place X T0.1 nX8_here_X8 qX8_here_1 dX8_here_1 ?_
  refine rc_aload_n X dX8_here_4 rfl 0 rfl ?_
  refine gfX8_length X T0.1 nX8_here_X8 qX8_here_2 dX8_here_5 ?_
  obtain ⟨c1, h⟩ := h
  obtain ⟨c2, h⟩ := h
  refine rc_ic_ge X 23 dX8_here_8 (by decide) c1 c2 (fun c3 => ?_) (fun c3 => ?_)
  · have h := h.1 c3
    refine rc_iconst X dX8_here_23 ?_
    exact rc_iret X hr dX8_here_24 h
  · have h := h.2 c3
    refine rc_aload_n X dX8_here_11 rfl 0 rfl ?_
    refine gfX8_text X T0.1 nX8_here_X8 qX8_here_3 dX8_here_12 ?_
    refine rc_aload_n X dX8_here_15 rfl 0 rfl ?_
    refine gfX8_place X T0.1 nX8_here_X8 qX8_here_1 dX8_here_16 ?_
    obtain ⟨c4, h⟩ := h
    refine rc_iald X T0.2.2.2.2.2.2.2.2.1 (by decide) dX8_here_19 c4 ?_
    refine rc_goto X 24 dX8_here_20 (by decide) ?_
    exact rc_iret X hr dX8_here_24 h
theorem mX8_here {l : Launch} {G : rc_G} {a0 : Nat} {I : rc_M} {post : Int → rc_M → Prop} (T0 : kX8 G a0) (h : wX8_here G a0 I post) : rc_CI l yX8_here wsX8_here rmX8_here G [.ref a0] I post :=
  rc_body (by decide +kernel) rfl rfl (Nat.le_of_ble_eq_true rfl) rfl (fun p e s m below meth c X hr => gX8_here_0 X hr T0 h)
/-! X8_isSigned -/
abbrev rmX8_isSigned : Room := { frames := 1, cells := 0, slots := 0, locals := 22 }
theorem dyX8_isSigned : yX8_isSigned.cls = RX8 ∧ yX8_isSigned.cls ≠ "java/lang/invoke/MethodHandle" ∧ yX8_isSigned.cls ≠ "java/lang/invoke/VarHandle" ∧ (parseMethodDescriptor yX8_isSigned.desc).map (fun d => d.parameters.length) = some 0 := ⟨rfl, by decide +kernel, by decide +kernel, by decide +kernel⟩
theorem qX8_isSigned_1 : Cond.fieldLink RX8 80 "ReelChangerModel" "place" "I" ∈ wsX8_isSigned := List.mem_of_getElem? (i := 1) (by decide +kernel)
theorem nX8_isSigned_X8 : ∀ w ∈ wsX80, w ∈ wsX8_isSigned := fun w h => List.mem_cons_of_mem _ (List.mem_append_right _ (h))
def wX8_isSigned_47 (G : rc_G) (post : Int → rc_M → Prop) (a0 : Nat)  (x1 : Int) (y0 : Int) (y1 : Int) (I : rc_M) : Prop :=
  ∀ I12, I12 = rc_s I a0 9 (y1 + y0) → (x1 = 0 ∨ x1 = 1) ∧ (post x1 I12)
set_option maxRecDepth 100000 in
set_option maxHeartbeats 4000000 in
theorem gX8_isSigned_47 {p : Program} {l : Launch} {e : Env} {s : State} {m : MethodId} {below : List Frame} {meth : Method} {c : Code} {G : rc_G} {a0 : Nat} {I : rc_M} {post : Int → rc_M → Prop}  {x1 : Int} {y0 : Int} {y1 : Int} (X : rc_X p s m ([.ref a0] : List Value).toArray meth c cX8_isSigned 2 wsX8_isSigned RX8 G (rc_A G)) (hr : meth.sig.returnType = some .boolean) (T0 : kX8 G a0)   (h : wX8_isSigned_47 G post a0  x1 y0 y1 I) : rc_g p l e rmX8_isSigned s m ([.ref a0] : List Value).toArray below meth c 0 0 (MQ below (rc_QI G post) ([.ref a0] : List Value).toArray s 0 0 (rc_A G)) 2 G (rc_A G) 47 [(1, .int (rc_o x1))] [.int (rc_o y0), .int (rc_o y1), .ref a0] I := by
  unfold wX8_isSigned_47 at h
  refine rc_iadd X dX8_isSigned_47 ?_
  refine pfX8_place X T0.1 nX8_isSigned_X8 qX8_isSigned_1 dX8_isSigned_48 (fun I12 e12 => ?_)
  have h := h I12 e12
  refine rc_iload_n X dX8_isSigned_51 rfl 0 rfl ?_
  obtain ⟨c13, h⟩ := h
  exact rc_zret X hr dX8_isSigned_52 c13 h
def wX8_isSigned (G : rc_G) (a0 : Nat) (I : rc_M) (post : Int → rc_M → Prop) : Prop :=
  wX8_here G a0 I (fun r2 I1 => rc_R r2 ∧ ((r2 = 120 → ∀ I5, I5 = rc_s I1 a0 9 ((I1 a0 9) + 1) → wX8_here G a0 I5 (fun r7 I6 => wX8_in G r7 50 57 I6 (fun r9 I8 => rc_R r9 ∧ ((r9 = 0 → wX8_isSigned_47 G post a0  r9 0 (I8 a0 9) I8) ∧ (¬ r9 = 0 → wX8_isSigned_47 G post a0  r9 1 (I8 a0 9) I8))))) ∧ (¬ r2 = 120 → post 1 I1)))
set_option maxRecDepth 100000 in
set_option maxHeartbeats 4000000 in
theorem gX8_isSigned_0 {p : Program} {l : Launch} {e : Env} {s : State} {m : MethodId} {below : List Frame} {meth : Method} {c : Code} {G : rc_G} {a0 : Nat} {I : rc_M} {post : Int → rc_M → Prop}  (X : rc_X p s m ([.ref a0] : List Value).toArray meth c cX8_isSigned 2 wsX8_isSigned RX8 G (rc_A G)) (hr : meth.sig.returnType = some .boolean) (T0 : kX8 G a0)  (h : wX8_isSigned G a0 I post) : rc_g p l e rmX8_isSigned s m ([.ref a0] : List Value).toArray below meth c 0 0 (MQ below (rc_QI G post) ([.ref a0] : List Value).toArray s 0 0 (rc_A G)) 2 G (rc_A G) 0 [(0, .ref a0)] [] I := by
  unfold wX8_isSigned at h
  refine rc_aload_n X dX8_isSigned_0 rfl 0 rfl ?_
  refine rc_cVI (rest := []) X (mX8_here T0 h) gX8_isSigned_X8_here rfl ⟨rfl, rfl⟩ dyX8_here ⟨Nat.le_of_ble_eq_true rfl, Nat.le_of_ble_eq_true rfl⟩ (rc_recv X T0.1 rfl) rfl rfl (Nat.le_of_ble_eq_true rfl) dX8_isSigned_1 ⟨Nat.zero_le _, Nat.zero_le _⟩ (fun r2 I1 h => ?_)
  refine rc_bipush X dX8_isSigned_4 (rc_b8 _ ⟨by decide, by decide⟩) ?_
  obtain ⟨c3, h⟩ := h
  refine rc_ic_eq X 11 dX8_isSigned_6 (by decide) c3 ⟨by decide, by decide⟩ (fun c4 => ?_) (fun c4 => ?_)
  · have h := h.1 c4
    refine rc_aload_n X dX8_isSigned_11 rfl 0 rfl ?_
    refine rc_dup X dX8_isSigned_12 rfl ?_
    refine gfX8_place X T0.1 nX8_isSigned_X8 qX8_isSigned_1 dX8_isSigned_13 ?_
    refine rc_iconst X dX8_isSigned_16 ?_
    refine rc_iadd X dX8_isSigned_17 ?_
    refine pfX8_place X T0.1 nX8_isSigned_X8 qX8_isSigned_1 dX8_isSigned_18 (fun I5 e5 => ?_)
    have h := h I5 e5
    refine rc_aload_n X dX8_isSigned_21 rfl 0 rfl ?_
    refine rc_cVI (rest := []) X (mX8_here T0 h) gX8_isSigned_X8_here rfl ⟨rfl, rfl⟩ dyX8_here ⟨Nat.le_of_ble_eq_true rfl, Nat.le_of_ble_eq_true rfl⟩ (rc_recv X T0.1 rfl) rfl rfl (Nat.le_of_ble_eq_true rfl) dX8_isSigned_22 ⟨Nat.zero_le _, Nat.zero_le _⟩ (fun r7 I6 h => ?_)
    refine rc_bipush X dX8_isSigned_25 (rc_b8 _ ⟨by decide, by decide⟩) ?_
    refine rc_bipush X dX8_isSigned_27 (rc_b8 _ ⟨by decide, by decide⟩) ?_
    refine rc_cSI (rest := []) X (mX8_in  h) gX8_isSigned_X8_in rfl ⟨rfl, rfl⟩ dyX8_in ⟨Nat.le_of_ble_eq_true rfl, Nat.le_of_ble_eq_true rfl⟩ rfl rfl (Nat.le_of_ble_eq_true rfl) dX8_isSigned_29 ⟨Nat.zero_le _, Nat.zero_le _⟩ (fun r9 I8 h => ?_)
    refine rc_istore_n X [(1, .int (rc_o r9)), (0, .ref a0)] dX8_isSigned_32 rfl (by decide) rfl ?_
    refine rc_aload_n X dX8_isSigned_33 rfl 1 rfl ?_
    refine rc_dup X dX8_isSigned_34 rfl ?_
    refine gfX8_place X T0.1 nX8_isSigned_X8 qX8_isSigned_1 dX8_isSigned_35 ?_
    refine rc_iload_n X dX8_isSigned_38 rfl 0 rfl ?_
    obtain ⟨c10, h⟩ := h
    refine rc_if_eq X 46 dX8_isSigned_39 (by decide) c10 (fun c11 => ?_) (fun c11 => ?_)
    · have h := h.1 c11
      refine rc_iconst X dX8_isSigned_46 ?_
      refine rc_subl [(1, .int (rc_o r9))] [0] rfl ?_
      exact gX8_isSigned_47 X hr T0   h
    · have h := h.2 c11
      refine rc_iconst X dX8_isSigned_42 ?_
      refine rc_goto X 47 dX8_isSigned_43 (by decide) ?_
      refine rc_subl [(1, .int (rc_o r9))] [0] rfl ?_
      exact gX8_isSigned_47 X hr T0   h
  · have h := h.2 c4
    refine rc_iconst X dX8_isSigned_9 ?_
    exact rc_zret X hr dX8_isSigned_10 (Or.inr rfl) h
theorem mX8_isSigned {l : Launch} {G : rc_G} {a0 : Nat} {I : rc_M} {post : Int → rc_M → Prop} (T0 : kX8 G a0) (h : wX8_isSigned G a0 I post) : rc_CI l yX8_isSigned wsX8_isSigned rmX8_isSigned G [.ref a0] I post :=
  rc_body (by decide +kernel) rfl rfl (Nat.le_of_ble_eq_true rfl) rfl (fun p e s m below meth c X hr => gX8_isSigned_0 X hr T0 h)
/-! X8_isPart -/
abbrev rmX8_isPart : Room := { frames := 2, cells := 0, slots := 0, locals := 43 }
theorem dyX8_isPart : yX8_isPart.cls = RX8 ∧ yX8_isPart.cls ≠ "java/lang/invoke/MethodHandle" ∧ yX8_isPart.cls ≠ "java/lang/invoke/VarHandle" ∧ (parseMethodDescriptor yX8_isPart.desc).map (fun d => d.parameters.length) = some 0 := ⟨rfl, by decide +kernel, by decide +kernel, by decide +kernel⟩
theorem qX8_isPart_2 : Cond.fieldLink RX8 35 "ReelChangerModel" "isFilled" "[Z" ∈ wsX8_isPart := List.mem_of_getElem? (i := 2) (by decide +kernel)
theorem nX8_isPart_X8 : ∀ w ∈ wsX80, w ∈ wsX8_isPart := fun w h => List.mem_cons_of_mem _ (List.mem_append_right _ (h))
theorem qX8_isPart_1 : Cond.fieldLink RX8 87 "ReelChangerModel" "depth" "I" ∈ wsX8_isPart := List.mem_of_getElem? (i := 1) (by decide +kernel)
theorem qX8_isPart_3 : Cond.fieldLink RX8 80 "ReelChangerModel" "place" "I" ∈ wsX8_isPart := List.mem_of_getElem? (i := 3) (by decide +kernel)
def wX8_isPart (G : rc_G) (a0 : Nat) (I : rc_M) (post : Int → rc_M → Prop) : Prop :=
  wX8_here G a0 I (fun r2 I1 => rc_R r2 ∧ ((¬ r2 = 40 → rc_R r2 ∧ ((¬ r2 = 41 → wX8_isReel G a0 (r2 - 48) I1 (fun r8 I7 => rc_R r8 ∧ ((¬ r8 = 0 → (0 ≤ I7 a0 10 ∧ I7 a0 10 < 4) ∧ (∀ I12, I12 = rc_s I7 (a0 + 9) (I7 a0 10) 1 → ∀ I13, I13 = rc_s I12 a0 9 ((I12 a0 9) + 1) → post 1 I13)) ∧ (r8 = 0 → post 0 I7)))) ∧ (r2 = 41 → rc_R (I1 a0 10) ∧ (((I1 a0 10) = 0 → post 0 I1) ∧ (¬ (I1 a0 10) = 0 → (0 ≤ I1 a0 10 ∧ I1 a0 10 < 4) ∧ (rc_R (I1 (a0 + 9) (I1 a0 10)) ∧ ((¬ (I1 (a0 + 9) (I1 a0 10)) = 0 → ∀ I19, I19 = rc_s I1 a0 10 ((I1 a0 10) - 1) → (0 ≤ I19 a0 10 ∧ I19 a0 10 < 4) ∧ (∀ I21, I21 = rc_s I19 (a0 + 9) (I19 a0 10) 1 → ∀ I22, I22 = rc_s I21 a0 9 ((I21 a0 9) + 1) → wX8_isSigned G a0 I22 (fun r24 I23 => (r24 = 0 ∨ r24 = 1) ∧ (post r24 I23)))) ∧ ((I1 (a0 + 9) (I1 a0 10)) = 0 → post 0 I1)))))))) ∧ (r2 = 40 → rc_R (I1 a0 10) ∧ ((¬ (I1 a0 10) = 3 → ∀ I28, I28 = rc_s I1 a0 10 ((I1 a0 10) + 1) → (0 ≤ I28 a0 10 ∧ I28 a0 10 < 4) ∧ (∀ I30, I30 = rc_s I28 (a0 + 9) (I28 a0 10) 0 → ∀ I31, I31 = rc_s I30 a0 9 ((I30 a0 9) + 1) → post 1 I31)) ∧ ((I1 a0 10) = 3 → post 0 I1)))))
set_option maxRecDepth 100000 in
set_option maxHeartbeats 4000000 in
theorem gX8_isPart_0 {p : Program} {l : Launch} {e : Env} {s : State} {m : MethodId} {below : List Frame} {meth : Method} {c : Code} {G : rc_G} {a0 : Nat} {I : rc_M} {post : Int → rc_M → Prop}  (X : rc_X p s m ([.ref a0] : List Value).toArray meth c cX8_isPart 2 wsX8_isPart RX8 G (rc_A G)) (hr : meth.sig.returnType = some .boolean) (T0 : kX8 G a0)  (h : wX8_isPart G a0 I post) : rc_g p l e rmX8_isPart s m ([.ref a0] : List Value).toArray below meth c 0 0 (MQ below (rc_QI G post) ([.ref a0] : List Value).toArray s 0 0 (rc_A G)) 2 G (rc_A G) 0 [(0, .ref a0)] [] I := by
  unfold wX8_isPart at h
  refine rc_aload_n X dX8_isPart_0 rfl 0 rfl ?_
  refine rc_cVI (rest := []) X (mX8_here T0 h) gX8_isPart_X8_here rfl ⟨rfl, rfl⟩ dyX8_here ⟨Nat.le_of_ble_eq_true rfl, Nat.le_of_ble_eq_true rfl⟩ (rc_recv X T0.1 rfl) rfl rfl (Nat.le_of_ble_eq_true rfl) dX8_isPart_1 ⟨Nat.zero_le _, Nat.zero_le _⟩ (fun r2 I1 h => ?_)
  refine rc_istore_n X [(1, .int (rc_o r2)), (0, .ref a0)] dX8_isPart_4 rfl (by decide) rfl ?_
  refine rc_iload_n X dX8_isPart_5 rfl 0 rfl ?_
  refine rc_bipush X dX8_isPart_6 (rc_b8 _ ⟨by decide, by decide⟩) ?_
  obtain ⟨c3, h⟩ := h
  refine rc_ic_ne X 53 dX8_isPart_8 (by decide) c3 ⟨by decide, by decide⟩ (fun c4 => ?_) (fun c4 => ?_)
  · have h := h.1 c4
    refine rc_iload_n X dX8_isPart_53 rfl 0 rfl ?_
    refine rc_bipush X dX8_isPart_54 (rc_b8 _ ⟨by decide, by decide⟩) ?_
    obtain ⟨c5, h⟩ := h
    refine rc_ic_ne X 115 dX8_isPart_56 (by decide) c5 ⟨by decide, by decide⟩ (fun c6 => ?_) (fun c6 => ?_)
    · have h := h.1 c6
      refine rc_aload_n X dX8_isPart_115 rfl 1 rfl ?_
      refine rc_iload_n X dX8_isPart_116 rfl 0 rfl ?_
      refine rc_bipush X dX8_isPart_117 (rc_b8 _ ⟨by decide, by decide⟩) ?_
      refine rc_isub X dX8_isPart_119 ?_
      refine rc_cVI (rest := []) X (mX8_isReel T0 h) gX8_isPart_X8_isReel rfl ⟨rfl, rfl⟩ dyX8_isReel ⟨Nat.le_of_ble_eq_true rfl, Nat.le_of_ble_eq_true rfl⟩ (rc_recv X T0.1 rfl) rfl rfl (Nat.le_of_ble_eq_true rfl) dX8_isPart_120 ⟨Nat.zero_le _, Nat.zero_le _⟩ (fun r8 I7 h => ?_)
      obtain ⟨c9, h⟩ := h
      refine rc_if_ne X 128 dX8_isPart_123 (by decide) c9 (fun c10 => ?_) (fun c10 => ?_)
      · have h := h.1 c10
        refine rc_aload_n X dX8_isPart_128 rfl 1 rfl ?_
        refine gfX8_isFilled X T0.1 nX8_isPart_X8 qX8_isPart_2 dX8_isPart_129 ?_
        refine rc_aload_n X dX8_isPart_132 rfl 1 rfl ?_
        refine gfX8_depth X T0.1 nX8_isPart_X8 qX8_isPart_1 dX8_isPart_133 ?_
        refine rc_iconst X dX8_isPart_136 ?_
        obtain ⟨c11, h⟩ := h
        refine rc_zast X T0.2.2.2.2.2.2.2.2.2.1 (by decide) dX8_isPart_137 c11 (Or.inr rfl) (fun I12 e12 => ?_)
        have h := h I12 e12
        refine rc_aload_n X dX8_isPart_138 rfl 1 rfl ?_
        refine rc_dup X dX8_isPart_139 rfl ?_
        refine gfX8_place X T0.1 nX8_isPart_X8 qX8_isPart_3 dX8_isPart_140 ?_
        refine rc_iconst X dX8_isPart_143 ?_
        refine rc_iadd X dX8_isPart_144 ?_
        refine pfX8_place X T0.1 nX8_isPart_X8 qX8_isPart_3 dX8_isPart_145 (fun I13 e13 => ?_)
        have h := h I13 e13
        refine rc_iconst X dX8_isPart_148 ?_
        exact rc_zret X hr dX8_isPart_149 (Or.inr rfl) h
      · have h := h.2 c10
        refine rc_iconst X dX8_isPart_126 ?_
        exact rc_zret X hr dX8_isPart_127 (Or.inl rfl) h
    · have h := h.2 c6
      refine rc_aload_n X dX8_isPart_59 rfl 1 rfl ?_
      refine gfX8_depth X T0.1 nX8_isPart_X8 qX8_isPart_1 dX8_isPart_60 ?_
      obtain ⟨c14, h⟩ := h
      refine rc_if_eq X 78 dX8_isPart_63 (by decide) c14 (fun c15 => ?_) (fun c15 => ?_)
      · have h := h.1 c15
        refine rc_iconst X dX8_isPart_78 ?_
        exact rc_zret X hr dX8_isPart_79 (Or.inl rfl) h
      · have h := h.2 c15
        refine rc_aload_n X dX8_isPart_66 rfl 1 rfl ?_
        refine gfX8_isFilled X T0.1 nX8_isPart_X8 qX8_isPart_2 dX8_isPart_67 ?_
        refine rc_aload_n X dX8_isPart_70 rfl 1 rfl ?_
        refine gfX8_depth X T0.1 nX8_isPart_X8 qX8_isPart_1 dX8_isPart_71 ?_
        obtain ⟨c16, h⟩ := h
        refine rc_zald X T0.2.2.2.2.2.2.2.2.2.1 (by decide) dX8_isPart_74 c16 ?_
        obtain ⟨c17, h⟩ := h
        refine rc_if_ne X 80 dX8_isPart_75 (by decide) c17 (fun c18 => ?_) (fun c18 => ?_)
        · have h := h.1 c18
          refine rc_aload_n X dX8_isPart_80 rfl 1 rfl ?_
          refine rc_dup X dX8_isPart_81 rfl ?_
          refine gfX8_depth X T0.1 nX8_isPart_X8 qX8_isPart_1 dX8_isPart_82 ?_
          refine rc_iconst X dX8_isPart_85 ?_
          refine rc_isub X dX8_isPart_86 ?_
          refine pfX8_depth X T0.1 nX8_isPart_X8 qX8_isPart_1 dX8_isPart_87 (fun I19 e19 => ?_)
          have h := h I19 e19
          refine rc_aload_n X dX8_isPart_90 rfl 1 rfl ?_
          refine gfX8_isFilled X T0.1 nX8_isPart_X8 qX8_isPart_2 dX8_isPart_91 ?_
          refine rc_aload_n X dX8_isPart_94 rfl 1 rfl ?_
          refine gfX8_depth X T0.1 nX8_isPart_X8 qX8_isPart_1 dX8_isPart_95 ?_
          refine rc_iconst X dX8_isPart_98 ?_
          obtain ⟨c20, h⟩ := h
          refine rc_zast X T0.2.2.2.2.2.2.2.2.2.1 (by decide) dX8_isPart_99 c20 (Or.inr rfl) (fun I21 e21 => ?_)
          have h := h I21 e21
          refine rc_aload_n X dX8_isPart_100 rfl 1 rfl ?_
          refine rc_dup X dX8_isPart_101 rfl ?_
          refine gfX8_place X T0.1 nX8_isPart_X8 qX8_isPart_3 dX8_isPart_102 ?_
          refine rc_iconst X dX8_isPart_105 ?_
          refine rc_iadd X dX8_isPart_106 ?_
          refine pfX8_place X T0.1 nX8_isPart_X8 qX8_isPart_3 dX8_isPart_107 (fun I22 e22 => ?_)
          have h := h I22 e22
          refine rc_aload_n X dX8_isPart_110 rfl 1 rfl ?_
          refine rc_cVI (rest := []) X (mX8_isSigned T0 h) gX8_isPart_X8_isSigned rfl ⟨rfl, rfl⟩ dyX8_isSigned ⟨Nat.le_of_ble_eq_true rfl, Nat.le_of_ble_eq_true rfl⟩ (rc_recv X T0.1 rfl) rfl rfl (Nat.le_of_ble_eq_true rfl) dX8_isPart_111 ⟨Nat.zero_le _, Nat.zero_le _⟩ (fun r24 I23 h => ?_)
          obtain ⟨c25, h⟩ := h
          exact rc_zret X hr dX8_isPart_114 c25 h
        · have h := h.2 c18
          refine rc_iconst X dX8_isPart_78 ?_
          exact rc_zret X hr dX8_isPart_79 (Or.inl rfl) h
  · have h := h.2 c4
    refine rc_aload_n X dX8_isPart_11 rfl 1 rfl ?_
    refine gfX8_depth X T0.1 nX8_isPart_X8 qX8_isPart_1 dX8_isPart_12 ?_
    refine rc_iconst X dX8_isPart_15 ?_
    obtain ⟨c26, h⟩ := h
    refine rc_ic_ne X 21 dX8_isPart_16 (by decide) c26 ⟨by decide, by decide⟩ (fun c27 => ?_) (fun c27 => ?_)
    · have h := h.1 c27
      refine rc_aload_n X dX8_isPart_21 rfl 1 rfl ?_
      refine rc_dup X dX8_isPart_22 rfl ?_
      refine gfX8_depth X T0.1 nX8_isPart_X8 qX8_isPart_1 dX8_isPart_23 ?_
      refine rc_iconst X dX8_isPart_26 ?_
      refine rc_iadd X dX8_isPart_27 ?_
      refine pfX8_depth X T0.1 nX8_isPart_X8 qX8_isPart_1 dX8_isPart_28 (fun I28 e28 => ?_)
      have h := h I28 e28
      refine rc_aload_n X dX8_isPart_31 rfl 1 rfl ?_
      refine gfX8_isFilled X T0.1 nX8_isPart_X8 qX8_isPart_2 dX8_isPart_32 ?_
      refine rc_aload_n X dX8_isPart_35 rfl 1 rfl ?_
      refine gfX8_depth X T0.1 nX8_isPart_X8 qX8_isPart_1 dX8_isPart_36 ?_
      refine rc_iconst X dX8_isPart_39 ?_
      obtain ⟨c29, h⟩ := h
      refine rc_zast X T0.2.2.2.2.2.2.2.2.2.1 (by decide) dX8_isPart_40 c29 (Or.inl rfl) (fun I30 e30 => ?_)
      have h := h I30 e30
      refine rc_aload_n X dX8_isPart_41 rfl 1 rfl ?_
      refine rc_dup X dX8_isPart_42 rfl ?_
      refine gfX8_place X T0.1 nX8_isPart_X8 qX8_isPart_3 dX8_isPart_43 ?_
      refine rc_iconst X dX8_isPart_46 ?_
      refine rc_iadd X dX8_isPart_47 ?_
      refine pfX8_place X T0.1 nX8_isPart_X8 qX8_isPart_3 dX8_isPart_48 (fun I31 e31 => ?_)
      have h := h I31 e31
      refine rc_iconst X dX8_isPart_51 ?_
      exact rc_zret X hr dX8_isPart_52 (Or.inr rfl) h
    · have h := h.2 c27
      refine rc_iconst X dX8_isPart_19 ?_
      exact rc_zret X hr dX8_isPart_20 (Or.inl rfl) h
theorem mX8_isPart {l : Launch} {G : rc_G} {a0 : Nat} {I : rc_M} {post : Int → rc_M → Prop} (T0 : kX8 G a0) (h : wX8_isPart G a0 I post) : rc_CI l yX8_isPart wsX8_isPart rmX8_isPart G [.ref a0] I post :=
  rc_body (by decide +kernel) rfl rfl (Nat.le_of_ble_eq_true rfl) rfl (fun p e s m below meth c X hr => gX8_isPart_0 X hr T0 h)
/-! X8_isText -/
abbrev rmX8_isText : Room := { frames := 3, cells := 0, slots := 0, locals := 64 }
theorem dyX8_isText : yX8_isText.cls = RX8 ∧ yX8_isText.cls ≠ "java/lang/invoke/MethodHandle" ∧ yX8_isText.cls ≠ "java/lang/invoke/VarHandle" ∧ (parseMethodDescriptor yX8_isText.desc).map (fun d => d.parameters.length) = some 0 := ⟨rfl, by decide +kernel, by decide +kernel, by decide +kernel⟩
theorem qX8_isText_1 : Cond.fieldLink RX8 80 "ReelChangerModel" "place" "I" ∈ wsX8_isText := List.mem_of_getElem? (i := 1) (by decide +kernel)
theorem nX8_isText_X8 : ∀ w ∈ wsX80, w ∈ wsX8_isText := fun w h => List.mem_cons_of_mem _ (List.mem_append_right _ (h))
theorem qX8_isText_2 : Cond.fieldLink RX8 87 "ReelChangerModel" "depth" "I" ∈ wsX8_isText := List.mem_of_getElem? (i := 2) (by decide +kernel)
theorem qX8_isText_3 : Cond.fieldLink RX8 76 "ReelChangerModel" "length" "I" ∈ wsX8_isText := List.mem_of_getElem? (i := 3) (by decide +kernel)
def wX8_isText_35 (G : rc_G) (post : Int → rc_M → Prop) (a0 : Nat)  (x1 : Int) (I : rc_M) : Prop :=
  rc_R x1 ∧ ((x1 = 0 → post 0 I) ∧ (¬ x1 = 0 → rc_R (I a0 10) ∧ ((¬ (I a0 10) = 0 → post 0 I) ∧ ((I a0 10) = 0 → rc_R (I a0 8) ∧ (((I a0 8) ≤ 0 → post 0 I) ∧ (¬ (I a0 8) ≤ 0 → post 1 I))))))
set_option maxRecDepth 100000 in
set_option maxHeartbeats 4000000 in
theorem gX8_isText_35 {p : Program} {l : Launch} {e : Env} {s : State} {m : MethodId} {below : List Frame} {meth : Method} {c : Code} {G : rc_G} {a0 : Nat} {I : rc_M} {post : Int → rc_M → Prop}  {x1 : Int} (X : rc_X p s m ([.ref a0] : List Value).toArray meth c cX8_isText 2 wsX8_isText RX8 G (rc_A G)) (hr : meth.sig.returnType = some .boolean) (T0 : kX8 G a0)   (h : wX8_isText_35 G post a0  x1 I) : rc_g p l e rmX8_isText s m ([.ref a0] : List Value).toArray below meth c 0 0 (MQ below (rc_QI G post) ([.ref a0] : List Value).toArray s 0 0 (rc_A G)) 2 G (rc_A G) 35 [(0, .ref a0), (1, .int (rc_o x1))] [] I := by
  unfold wX8_isText_35 at h
  refine rc_iload_n X dX8_isText_35 rfl 1 rfl ?_
  obtain ⟨c5, h⟩ := h
  refine rc_if_eq X 57 dX8_isText_36 (by decide) c5 (fun c6 => ?_) (fun c6 => ?_)
  · have h := h.1 c6
    refine rc_iconst X dX8_isText_57 ?_
    exact rc_zret X hr dX8_isText_58 (Or.inl rfl) h
  · have h := h.2 c6
    refine rc_aload_n X dX8_isText_39 rfl 0 rfl ?_
    refine gfX8_depth X T0.1 nX8_isText_X8 qX8_isText_2 dX8_isText_40 ?_
    obtain ⟨c7, h⟩ := h
    refine rc_if_ne X 57 dX8_isText_43 (by decide) c7 (fun c8 => ?_) (fun c8 => ?_)
    · have h := h.1 c8
      refine rc_iconst X dX8_isText_57 ?_
      exact rc_zret X hr dX8_isText_58 (Or.inl rfl) h
    · have h := h.2 c8
      refine rc_aload_n X dX8_isText_46 rfl 0 rfl ?_
      refine gfX8_length X T0.1 nX8_isText_X8 qX8_isText_3 dX8_isText_47 ?_
      obtain ⟨c9, h⟩ := h
      refine rc_if_le X 57 dX8_isText_50 (by decide) c9 (fun c10 => ?_) (fun c10 => ?_)
      · have h := h.1 c10
        refine rc_iconst X dX8_isText_57 ?_
        exact rc_zret X hr dX8_isText_58 (Or.inl rfl) h
      · have h := h.2 c10
        refine rc_iconst X dX8_isText_53 ?_
        refine rc_goto X 58 dX8_isText_54 (by decide) ?_
        exact rc_zret X hr dX8_isText_58 (Or.inr rfl) h
def wX8_isText_12 (G : rc_G) (post : Int → rc_M → Prop) (a0 : Nat) (k12 : Int → rc_M → Prop) (x1 : Int) (I : rc_M) : Prop :=
  rc_R x1 ∧ ((x1 = 0 → wX8_isText_35 G post a0  x1 I) ∧ (¬ x1 = 0 → rc_R (I a0 9) ∧ (rc_R (I a0 8) ∧ (((I a0 8) ≤ (I a0 9) → wX8_isText_35 G post a0  x1 I) ∧ (¬ (I a0 8) ≤ (I a0 9) → wX8_isPart G a0 I (fun r15 I14 => k12 r15 I14))))))
set_option maxRecDepth 100000 in
set_option maxHeartbeats 4000000 in
theorem gX8_isText_12 {p : Program} {l : Launch} {e : Env} {s : State} {m : MethodId} {below : List Frame} {meth : Method} {c : Code} {G : rc_G} {a0 : Nat} {I : rc_M} {post : Int → rc_M → Prop} {k12 : Int → rc_M → Prop} {x1 : Int} (X : rc_X p s m ([.ref a0] : List Value).toArray meth c cX8_isText 2 wsX8_isText RX8 G (rc_A G)) (hr : meth.sig.returnType = some .boolean) (T0 : kX8 G a0) (hk12 : ∀ (x1 : Int) (J : rc_M), k12 x1 J → rc_g p l e rmX8_isText s m ([.ref a0] : List Value).toArray below meth c 0 0 (MQ below (rc_QI G post) ([.ref a0] : List Value).toArray s 0 0 (rc_A G)) 2 G (rc_A G) 12 [(0, .ref a0), (1, .int (rc_o x1))] [] J)  (h : wX8_isText_12 G post a0 k12 x1 I) : rc_g p l e rmX8_isText s m ([.ref a0] : List Value).toArray below meth c 0 0 (MQ below (rc_QI G post) ([.ref a0] : List Value).toArray s 0 0 (rc_A G)) 2 G (rc_A G) 12 [(0, .ref a0), (1, .int (rc_o x1))] [] I := by
  unfold wX8_isText_12 at h
  refine rc_iload_n X dX8_isText_12 rfl 1 rfl ?_
  obtain ⟨c3, h⟩ := h
  refine rc_if_eq X 35 dX8_isText_13 (by decide) c3 (fun c4 => ?_) (fun c4 => ?_)
  · have h := h.1 c4
    refine rc_subl [(0, .ref a0), (1, .int (rc_o x1))] [0, 1] rfl ?_
    exact gX8_isText_35 X hr T0   h
  · have h := h.2 c4
    refine rc_aload_n X dX8_isText_16 rfl 0 rfl ?_
    refine gfX8_place X T0.1 nX8_isText_X8 qX8_isText_1 dX8_isText_17 ?_
    refine rc_aload_n X dX8_isText_20 rfl 0 rfl ?_
    refine gfX8_length X T0.1 nX8_isText_X8 qX8_isText_3 dX8_isText_21 ?_
    obtain ⟨c11, h⟩ := h
    obtain ⟨c12, h⟩ := h
    refine rc_ic_ge X 35 dX8_isText_24 (by decide) c11 c12 (fun c13 => ?_) (fun c13 => ?_)
    · have h := h.1 c13
      refine rc_subl [(0, .ref a0), (1, .int (rc_o x1))] [0, 1] rfl ?_
      exact gX8_isText_35 X hr T0   h
    · have h := h.2 c13
      refine rc_aload_n X dX8_isText_27 rfl 0 rfl ?_
      refine rc_cVI (rest := []) X (mX8_isPart T0 h) gX8_isText_X8_isPart rfl ⟨rfl, rfl⟩ dyX8_isPart ⟨Nat.le_of_ble_eq_true rfl, Nat.le_of_ble_eq_true rfl⟩ (rc_recv X T0.1 rfl) rfl rfl (Nat.le_of_ble_eq_true rfl) dX8_isText_28 ⟨Nat.zero_le _, Nat.zero_le _⟩ (fun r15 I14 h => ?_)
      refine rc_istore_n X [(1, .int (rc_o r15)), (0, .ref a0)] dX8_isText_31 rfl (by decide) rfl ?_
      refine rc_goto X 12 dX8_isText_32 (by decide) ?_
      refine rc_subl [(0, .ref a0), (1, .int (rc_o r15))] [1, 0] rfl ?_
      exact hk12 _ _ h
noncomputable def rX8_isText_12 (G : rc_G) (post : Int → rc_M → Prop) (a0 : Nat)  (n : Nat) : Int → rc_M → Prop :=
  Nat.rec (motive := fun _ => Int → rc_M → Prop) (fun _ _ => False) (fun _ ih => wX8_isText_12 G post a0  ih) n
set_option maxRecDepth 100000 in
set_option maxHeartbeats 4000000 in
theorem sX8_isText_12 {p : Program} {l : Launch} {e : Env} {s : State} {m : MethodId} {below : List Frame} {meth : Method} {c : Code} {G : rc_G} {a0 : Nat} {I : rc_M} {post : Int → rc_M → Prop}  {n : Nat} {x1 : Int} (X : rc_X p s m ([.ref a0] : List Value).toArray meth c cX8_isText 2 wsX8_isText RX8 G (rc_A G)) (hr : meth.sig.returnType = some .boolean) (T0 : kX8 G a0)  (h : rX8_isText_12 G post a0  n x1 I) : rc_g p l e rmX8_isText s m ([.ref a0] : List Value).toArray below meth c 0 0 (MQ below (rc_QI G post) ([.ref a0] : List Value).toArray s 0 0 (rc_A G)) 2 G (rc_A G) 12 [(0, .ref a0), (1, .int (rc_o x1))] [] I := by
  induction n generalizing x1 I with
  | zero => exact h.elim
  | succ n ih => exact gX8_isText_12 (k12 := rX8_isText_12 G post a0  n) X hr T0  (fun x1 J h2 => ih h2) h
def wX8_isText (G : rc_G) (a0 : Nat) (I : rc_M) (post : Int → rc_M → Prop) : Prop :=
  ∀ I1, I1 = rc_s I a0 9 0 → ∀ I2, I2 = rc_s I1 a0 10 0 → ∃ n, rX8_isText_12 G post a0  n 1 I2
set_option maxRecDepth 100000 in
set_option maxHeartbeats 4000000 in
theorem gX8_isText_0 {p : Program} {l : Launch} {e : Env} {s : State} {m : MethodId} {below : List Frame} {meth : Method} {c : Code} {G : rc_G} {a0 : Nat} {I : rc_M} {post : Int → rc_M → Prop}  (X : rc_X p s m ([.ref a0] : List Value).toArray meth c cX8_isText 2 wsX8_isText RX8 G (rc_A G)) (hr : meth.sig.returnType = some .boolean) (T0 : kX8 G a0)  (h : wX8_isText G a0 I post) : rc_g p l e rmX8_isText s m ([.ref a0] : List Value).toArray below meth c 0 0 (MQ below (rc_QI G post) ([.ref a0] : List Value).toArray s 0 0 (rc_A G)) 2 G (rc_A G) 0 [(0, .ref a0)] [] I := by
  unfold wX8_isText at h
  refine rc_aload_n X dX8_isText_0 rfl 0 rfl ?_
  refine rc_iconst X dX8_isText_1 ?_
  refine pfX8_place X T0.1 nX8_isText_X8 qX8_isText_1 dX8_isText_2 (fun I1 e1 => ?_)
  have h := h I1 e1
  refine rc_aload_n X dX8_isText_5 rfl 0 rfl ?_
  refine rc_iconst X dX8_isText_6 ?_
  refine pfX8_depth X T0.1 nX8_isText_X8 qX8_isText_2 dX8_isText_7 (fun I2 e2 => ?_)
  have h := h I2 e2
  refine rc_iconst X dX8_isText_10 ?_
  refine rc_istore_n X [(1, .int (rc_o 1)), (0, .ref a0)] dX8_isText_11 rfl (by decide) rfl ?_
  refine rc_subl [(0, .ref a0), (1, .int (rc_o 1))] [1, 0] rfl ?_
  obtain ⟨n, h⟩ := h
  exact sX8_isText_12 X hr T0  h
theorem mX8_isText {l : Launch} {G : rc_G} {a0 : Nat} {I : rc_M} {post : Int → rc_M → Prop} (T0 : kX8 G a0) (h : wX8_isText G a0 I post) : rc_CI l yX8_isText wsX8_isText rmX8_isText G [.ref a0] I post :=
  rc_body (by decide +kernel) rfl rfl (Nat.le_of_ble_eq_true rfl) rfl (fun p e s m below meth c X hr => gX8_isText_0 X hr T0 h)
/-! X8_faultPosition -/
abbrev rmX8_faultPosition : Room := { frames := 4, cells := 0, slots := 0, locals := 85 }
theorem dyX8_faultPosition : yX8_faultPosition.cls = RX8 ∧ yX8_faultPosition.cls ≠ "java/lang/invoke/MethodHandle" ∧ yX8_faultPosition.cls ≠ "java/lang/invoke/VarHandle" ∧ (parseMethodDescriptor yX8_faultPosition.desc).map (fun d => d.parameters.length) = some 0 := ⟨rfl, by decide +kernel, by decide +kernel, by decide +kernel⟩
theorem qX8_faultPosition_2 : Cond.fieldLink RX8 80 "ReelChangerModel" "place" "I" ∈ wsX8_faultPosition := List.mem_of_getElem? (i := 2) (by decide +kernel)
theorem nX8_faultPosition_X8 : ∀ w ∈ wsX80, w ∈ wsX8_faultPosition := fun w h => List.mem_cons_of_mem _ (List.mem_append_right _ (h))
theorem qX8_faultPosition_1 : Cond.constant RX8 68 (-100005) ∈ wsX8_faultPosition := List.mem_of_getElem? (i := 1) (by decide +kernel)
def wX8_faultPosition (G : rc_G) (a0 : Nat) (I : rc_M) (post : Int → rc_M → Prop) : Prop :=
  wX8_isText G a0 I (fun r2 I1 => rc_R r2 ∧ ((r2 = 0 → post (I1 a0 9) I1) ∧ (¬ r2 = 0 → post (-100005) I1)))
set_option maxRecDepth 100000 in
set_option maxHeartbeats 4000000 in
theorem gX8_faultPosition_0 {p : Program} {l : Launch} {e : Env} {s : State} {m : MethodId} {below : List Frame} {meth : Method} {c : Code} {G : rc_G} {a0 : Nat} {I : rc_M} {post : Int → rc_M → Prop}  (X : rc_X p s m ([.ref a0] : List Value).toArray meth c cX8_faultPosition 1 wsX8_faultPosition RX8 G (rc_A G)) (hr : meth.sig.returnType = some .int) (T0 : kX8 G a0)  (h : wX8_faultPosition G a0 I post) : rc_g p l e rmX8_faultPosition s m ([.ref a0] : List Value).toArray below meth c 0 0 (MQ below (rc_QI G post) ([.ref a0] : List Value).toArray s 0 0 (rc_A G)) 1 G (rc_A G) 0 [(0, .ref a0)] [] I := by
  unfold wX8_faultPosition at h
  refine rc_aload_n X dX8_faultPosition_0 rfl 0 rfl ?_
  refine rc_cVI (rest := []) X (mX8_isText T0 h) gX8_faultPosition_X8_isText rfl ⟨rfl, rfl⟩ dyX8_isText ⟨Nat.le_of_ble_eq_true rfl, Nat.le_of_ble_eq_true rfl⟩ (rc_recv X T0.1 rfl) rfl rfl (Nat.le_of_ble_eq_true rfl) dX8_faultPosition_1 ⟨Nat.zero_le _, Nat.zero_le _⟩ (fun r2 I1 h => ?_)
  obtain ⟨c3, h⟩ := h
  refine rc_if_eq X 12 dX8_faultPosition_4 (by decide) c3 (fun c4 => ?_) (fun c4 => ?_)
  · have h := h.1 c4
    refine rc_aload_n X dX8_faultPosition_12 rfl 0 rfl ?_
    refine gfX8_place X T0.1 nX8_faultPosition_X8 qX8_faultPosition_2 dX8_faultPosition_13 ?_
    exact rc_iret X hr dX8_faultPosition_16 h
  · have h := h.2 c4
    refine rc_ldc (n := (-100005)) X qX8_faultPosition_1 (by decide +kernel) dX8_faultPosition_7 ?_
    refine rc_goto X 16 dX8_faultPosition_9 (by decide) ?_
    exact rc_iret X hr dX8_faultPosition_16 h
theorem mX8_faultPosition {l : Launch} {G : rc_G} {a0 : Nat} {I : rc_M} {post : Int → rc_M → Prop} (T0 : kX8 G a0) (h : wX8_faultPosition G a0 I post) : rc_CI l yX8_faultPosition wsX8_faultPosition rmX8_faultPosition G [.ref a0] I post :=
  rc_body (by decide +kernel) rfl rfl (Nat.le_of_ble_eq_true rfl) rfl (fun p e s m below meth c X hr => gX8_faultPosition_0 X hr T0 h)
/-! X8_faultDepth -/
abbrev rmX8_faultDepth : Room := { frames := 4, cells := 0, slots := 0, locals := 85 }
theorem dyX8_faultDepth : yX8_faultDepth.cls = RX8 ∧ yX8_faultDepth.cls ≠ "java/lang/invoke/MethodHandle" ∧ yX8_faultDepth.cls ≠ "java/lang/invoke/VarHandle" ∧ (parseMethodDescriptor yX8_faultDepth.desc).map (fun d => d.parameters.length) = some 0 := ⟨rfl, by decide +kernel, by decide +kernel, by decide +kernel⟩
theorem qX8_faultDepth_2 : Cond.fieldLink RX8 87 "ReelChangerModel" "depth" "I" ∈ wsX8_faultDepth := List.mem_of_getElem? (i := 2) (by decide +kernel)
theorem nX8_faultDepth_X8 : ∀ w ∈ wsX80, w ∈ wsX8_faultDepth := fun w h => List.mem_cons_of_mem _ (List.mem_append_right _ (h))
theorem qX8_faultDepth_1 : Cond.constant RX8 68 (-100005) ∈ wsX8_faultDepth := List.mem_of_getElem? (i := 1) (by decide +kernel)
def wX8_faultDepth (G : rc_G) (a0 : Nat) (I : rc_M) (post : Int → rc_M → Prop) : Prop :=
  wX8_isText G a0 I (fun r2 I1 => rc_R r2 ∧ ((r2 = 0 → post (I1 a0 10) I1) ∧ (¬ r2 = 0 → post (-100005) I1)))
set_option maxRecDepth 100000 in
set_option maxHeartbeats 4000000 in
theorem gX8_faultDepth_0 {p : Program} {l : Launch} {e : Env} {s : State} {m : MethodId} {below : List Frame} {meth : Method} {c : Code} {G : rc_G} {a0 : Nat} {I : rc_M} {post : Int → rc_M → Prop}  (X : rc_X p s m ([.ref a0] : List Value).toArray meth c cX8_faultDepth 1 wsX8_faultDepth RX8 G (rc_A G)) (hr : meth.sig.returnType = some .int) (T0 : kX8 G a0)  (h : wX8_faultDepth G a0 I post) : rc_g p l e rmX8_faultDepth s m ([.ref a0] : List Value).toArray below meth c 0 0 (MQ below (rc_QI G post) ([.ref a0] : List Value).toArray s 0 0 (rc_A G)) 1 G (rc_A G) 0 [(0, .ref a0)] [] I := by
  unfold wX8_faultDepth at h
  refine rc_aload_n X dX8_faultDepth_0 rfl 0 rfl ?_
  refine rc_cVI (rest := []) X (mX8_isText T0 h) gX8_faultDepth_X8_isText rfl ⟨rfl, rfl⟩ dyX8_isText ⟨Nat.le_of_ble_eq_true rfl, Nat.le_of_ble_eq_true rfl⟩ (rc_recv X T0.1 rfl) rfl rfl (Nat.le_of_ble_eq_true rfl) dX8_faultDepth_1 ⟨Nat.zero_le _, Nat.zero_le _⟩ (fun r2 I1 h => ?_)
  obtain ⟨c3, h⟩ := h
  refine rc_if_eq X 12 dX8_faultDepth_4 (by decide) c3 (fun c4 => ?_) (fun c4 => ?_)
  · have h := h.1 c4
    refine rc_aload_n X dX8_faultDepth_12 rfl 0 rfl ?_
    refine gfX8_depth X T0.1 nX8_faultDepth_X8 qX8_faultDepth_2 dX8_faultDepth_13 ?_
    exact rc_iret X hr dX8_faultDepth_16 h
  · have h := h.2 c4
    refine rc_ldc (n := (-100005)) X qX8_faultDepth_1 (by decide +kernel) dX8_faultDepth_7 ?_
    refine rc_goto X 16 dX8_faultDepth_9 (by decide) ?_
    exact rc_iret X hr dX8_faultDepth_16 h
theorem mX8_faultDepth {l : Launch} {G : rc_G} {a0 : Nat} {I : rc_M} {post : Int → rc_M → Prop} (T0 : kX8 G a0) (h : wX8_faultDepth G a0 I post) : rc_CI l yX8_faultDepth wsX8_faultDepth rmX8_faultDepth G [.ref a0] I post :=
  rc_body (by decide +kernel) rfl rfl (Nat.le_of_ble_eq_true rfl) rfl (fun p e s m below meth c X hr => gX8_faultDepth_0 X hr T0 h)
/-! X8_tells -/
abbrev rmX8_tells : Room := { frames := 1, cells := 0, slots := 0, locals := 20 }
theorem dyX8_tells : yX8_tells.cls = RX8 ∧ yX8_tells.cls ≠ "java/lang/invoke/MethodHandle" ∧ yX8_tells.cls ≠ "java/lang/invoke/VarHandle" ∧ (parseMethodDescriptor yX8_tells.desc).map (fun d => d.parameters.length) = some 0 := ⟨rfl, by decide +kernel, by decide +kernel, by decide +kernel⟩
theorem qX8_tells_1 : Cond.fieldLink RX8 87 "ReelChangerModel" "depth" "I" ∈ wsX8_tells := List.mem_of_getElem? (i := 1) (by decide +kernel)
theorem nX8_tells_X8 : ∀ w ∈ wsX80, w ∈ wsX8_tells := fun w h => List.mem_cons_of_mem _ (List.mem_append_right _ (h))
theorem qX8_tells_2 : Cond.fieldLink RX8 80 "ReelChangerModel" "place" "I" ∈ wsX8_tells := List.mem_of_getElem? (i := 2) (by decide +kernel)
theorem qX8_tells_3 : Cond.fieldLink RX8 76 "ReelChangerModel" "length" "I" ∈ wsX8_tells := List.mem_of_getElem? (i := 3) (by decide +kernel)
theorem qX8_tells_4 : Cond.fieldLink RX8 32 "ReelChangerModel" "text" "[I" ∈ wsX8_tells := List.mem_of_getElem? (i := 4) (by decide +kernel)
theorem qX8_tells_7 : Cond.fieldLink RX8 44 "ReelChangerModel" "told" "[I" ∈ wsX8_tells := List.mem_of_getElem? (i := 7) (by decide +kernel)
theorem qX8_tells_6 : Cond.fieldLink RX8 41 "ReelChangerModel" "times" "[I" ∈ wsX8_tells := List.mem_of_getElem? (i := 6) (by decide +kernel)
theorem qX8_tells_5 : Cond.fieldLink RX8 38 "ReelChangerModel" "begins" "[I" ∈ wsX8_tells := List.mem_of_getElem? (i := 5) (by decide +kernel)
def wX8_tells_258 (G : rc_G) (post : Int → rc_M → Prop) (a0 : Nat) (k12 : Int → rc_M → Prop) (x1 : Int) (I : rc_M) : Prop :=
  k12 x1 I
set_option maxRecDepth 100000 in
set_option maxHeartbeats 4000000 in
theorem gX8_tells_258 {p : Program} {l : Launch} {e : Env} {s : State} {m : MethodId} {below : List Frame} {meth : Method} {c : Code} {G : rc_G} {a0 : Nat} {I : rc_M} {post : Int → rc_M → Prop} {k12 : Int → rc_M → Prop} {x1 : Int} (X : rc_X p s m ([.ref a0] : List Value).toArray meth c cX8_tells 6 wsX8_tells RX8 G (rc_A G)) (hr : meth.sig.returnType = some .int) (T0 : kX8 G a0) (hk12 : ∀ (x1 : Int) (J : rc_M), k12 x1 J → rc_g p l e rmX8_tells s m ([.ref a0] : List Value).toArray below meth c 0 0 (MQ below (rc_QI G post) ([.ref a0] : List Value).toArray s 0 0 (rc_A G)) 6 G (rc_A G) 12 [(0, .ref a0), (1, .int (rc_o x1))] [] J)  (h : wX8_tells_258 G post a0 k12 x1 I) : rc_g p l e rmX8_tells s m ([.ref a0] : List Value).toArray below meth c 0 0 (MQ below (rc_QI G post) ([.ref a0] : List Value).toArray s 0 0 (rc_A G)) 6 G (rc_A G) 258 [(0, .ref a0), (1, .int (rc_o x1))] [] I := by
  unfold wX8_tells_258 at h
  refine rc_goto X 12 dX8_tells_258 (by decide) ?_
  refine rc_subl [(0, .ref a0), (1, .int (rc_o x1))] [0, 1] rfl ?_
  exact hk12 _ _ h
def wX8_tells_255 (G : rc_G) (post : Int → rc_M → Prop) (a0 : Nat) (k12 : Int → rc_M → Prop) (x1 : Int) (I : rc_M) : Prop :=
  wX8_tells_258 G post a0 k12 (x1 + 1) I
set_option maxRecDepth 100000 in
set_option maxHeartbeats 4000000 in
theorem gX8_tells_255 {p : Program} {l : Launch} {e : Env} {s : State} {m : MethodId} {below : List Frame} {meth : Method} {c : Code} {G : rc_G} {a0 : Nat} {I : rc_M} {post : Int → rc_M → Prop} {k12 : Int → rc_M → Prop} {x1 : Int} (X : rc_X p s m ([.ref a0] : List Value).toArray meth c cX8_tells 6 wsX8_tells RX8 G (rc_A G)) (hr : meth.sig.returnType = some .int) (T0 : kX8 G a0) (hk12 : ∀ (x1 : Int) (J : rc_M), k12 x1 J → rc_g p l e rmX8_tells s m ([.ref a0] : List Value).toArray below meth c 0 0 (MQ below (rc_QI G post) ([.ref a0] : List Value).toArray s 0 0 (rc_A G)) 6 G (rc_A G) 12 [(0, .ref a0), (1, .int (rc_o x1))] [] J)  (h : wX8_tells_255 G post a0 k12 x1 I) : rc_g p l e rmX8_tells s m ([.ref a0] : List Value).toArray below meth c 0 0 (MQ below (rc_QI G post) ([.ref a0] : List Value).toArray s 0 0 (rc_A G)) 6 G (rc_A G) 255 [(0, .ref a0), (1, .int (rc_o x1))] [] I := by
  unfold wX8_tells_255 at h
  refine rc_iinc X [(1, .int (rc_o (x1 + 1))), (0, .ref a0)] dX8_tells_255 1 rfl (by decide) rfl ?_
  refine rc_subl [(0, .ref a0), (1, .int (rc_o (x1 + 1)))] [1, 0] rfl ?_
  exact gX8_tells_258 X hr T0 hk12  h
def wX8_tells_236 (G : rc_G) (post : Int → rc_M → Prop) (a0 : Nat) (k12 : Int → rc_M → Prop) (x1 : Int) (I : rc_M) : Prop :=
  wX8_tells_258 G post a0 k12 x1 I
set_option maxRecDepth 100000 in
set_option maxHeartbeats 4000000 in
theorem gX8_tells_236 {p : Program} {l : Launch} {e : Env} {s : State} {m : MethodId} {below : List Frame} {meth : Method} {c : Code} {G : rc_G} {a0 : Nat} {I : rc_M} {post : Int → rc_M → Prop} {k12 : Int → rc_M → Prop} {x1 : Int} (X : rc_X p s m ([.ref a0] : List Value).toArray meth c cX8_tells 6 wsX8_tells RX8 G (rc_A G)) (hr : meth.sig.returnType = some .int) (T0 : kX8 G a0) (hk12 : ∀ (x1 : Int) (J : rc_M), k12 x1 J → rc_g p l e rmX8_tells s m ([.ref a0] : List Value).toArray below meth c 0 0 (MQ below (rc_QI G post) ([.ref a0] : List Value).toArray s 0 0 (rc_A G)) 6 G (rc_A G) 12 [(0, .ref a0), (1, .int (rc_o x1))] [] J)  (h : wX8_tells_236 G post a0 k12 x1 I) : rc_g p l e rmX8_tells s m ([.ref a0] : List Value).toArray below meth c 0 0 (MQ below (rc_QI G post) ([.ref a0] : List Value).toArray s 0 0 (rc_A G)) 6 G (rc_A G) 236 [(0, .ref a0), (1, .int (rc_o x1))] [] I := by
  unfold wX8_tells_236 at h
  refine rc_goto X 258 dX8_tells_236 (by decide) ?_
  refine rc_subl [(0, .ref a0), (1, .int (rc_o x1))] [0, 1] rfl ?_
  exact gX8_tells_258 X hr T0 hk12  h
def wX8_tells_232 (G : rc_G) (post : Int → rc_M → Prop) (a0 : Nat) (k12 : Int → rc_M → Prop) (x1 : Int) (y0 : Int) (y1 : Int) (I : rc_M) : Prop :=
  ∀ I33, I33 = rc_s I a0 9 (y1 + y0) → wX8_tells_236 G post a0 k12 x1 I33
set_option maxRecDepth 100000 in
set_option maxHeartbeats 4000000 in
theorem gX8_tells_232 {p : Program} {l : Launch} {e : Env} {s : State} {m : MethodId} {below : List Frame} {meth : Method} {c : Code} {G : rc_G} {a0 : Nat} {I : rc_M} {post : Int → rc_M → Prop} {k12 : Int → rc_M → Prop} {x1 : Int} {y0 : Int} {y1 : Int} (X : rc_X p s m ([.ref a0] : List Value).toArray meth c cX8_tells 6 wsX8_tells RX8 G (rc_A G)) (hr : meth.sig.returnType = some .int) (T0 : kX8 G a0) (hk12 : ∀ (x1 : Int) (J : rc_M), k12 x1 J → rc_g p l e rmX8_tells s m ([.ref a0] : List Value).toArray below meth c 0 0 (MQ below (rc_QI G post) ([.ref a0] : List Value).toArray s 0 0 (rc_A G)) 6 G (rc_A G) 12 [(0, .ref a0), (1, .int (rc_o x1))] [] J)  (h : wX8_tells_232 G post a0 k12 x1 y0 y1 I) : rc_g p l e rmX8_tells s m ([.ref a0] : List Value).toArray below meth c 0 0 (MQ below (rc_QI G post) ([.ref a0] : List Value).toArray s 0 0 (rc_A G)) 6 G (rc_A G) 232 [(0, .ref a0), (1, .int (rc_o x1))] [.int (rc_o y0), .int (rc_o y1), .ref a0] I := by
  unfold wX8_tells_232 at h
  refine rc_iadd X dX8_tells_232 ?_
  refine pfX8_place X T0.1 nX8_tells_X8 qX8_tells_2 dX8_tells_233 (fun I33 e33 => ?_)
  have h := h I33 e33
  refine rc_subl [(0, .ref a0), (1, .int (rc_o x1))] [0, 1] rfl ?_
  exact gX8_tells_236 X hr T0 hk12  h
def wX8_tells_168 (G : rc_G) (post : Int → rc_M → Prop) (a0 : Nat) (k12 : Int → rc_M → Prop) (x1 : Int) (x3 : Int) (y0 : Int) (I : rc_M) : Prop :=
  rc_R y0 ∧ ((y0 ≤ 0 → ∀ I30, I30 = rc_s I a0 10 ((I a0 10) - 1) → rc_R x3 ∧ ((x3 = 0 → wX8_tells_232 G post a0 k12 x1 0 (I30 a0 9) I30) ∧ (¬ x3 = 0 → wX8_tells_232 G post a0 k12 x1 2 (I30 a0 9) I30))) ∧ (¬ y0 ≤ 0 → (0 ≤ (I a0 10) - 1 ∧ (I a0 10) - 1 < 3) ∧ (∀ I35, I35 = rc_s I (a0 + 11) ((I a0 10) - 1) (y0 - 1) → (0 ≤ (I35 a0 10) - 1 ∧ (I35 a0 10) - 1 < 3) ∧ (∀ I37, I37 = rc_s I35 a0 9 (I35 (a0 + 10) ((I35 a0 10) - 1)) → wX8_tells_236 G post a0 k12 x1 I37))))
set_option maxRecDepth 100000 in
set_option maxHeartbeats 4000000 in
theorem gX8_tells_168 {p : Program} {l : Launch} {e : Env} {s : State} {m : MethodId} {below : List Frame} {meth : Method} {c : Code} {G : rc_G} {a0 : Nat} {I : rc_M} {post : Int → rc_M → Prop} {k12 : Int → rc_M → Prop} {x1 : Int} {x3 : Int} {y0 : Int} (X : rc_X p s m ([.ref a0] : List Value).toArray meth c cX8_tells 6 wsX8_tells RX8 G (rc_A G)) (hr : meth.sig.returnType = some .int) (T0 : kX8 G a0) (hk12 : ∀ (x1 : Int) (J : rc_M), k12 x1 J → rc_g p l e rmX8_tells s m ([.ref a0] : List Value).toArray below meth c 0 0 (MQ below (rc_QI G post) ([.ref a0] : List Value).toArray s 0 0 (rc_A G)) 6 G (rc_A G) 12 [(0, .ref a0), (1, .int (rc_o x1))] [] J)  (h : wX8_tells_168 G post a0 k12 x1 x3 y0 I) : rc_g p l e rmX8_tells s m ([.ref a0] : List Value).toArray below meth c 0 0 (MQ below (rc_QI G post) ([.ref a0] : List Value).toArray s 0 0 (rc_A G)) 6 G (rc_A G) 168 [(0, .ref a0), (1, .int (rc_o x1)), (3, .int (rc_o x3))] [.int (rc_o y0)] I := by
  unfold wX8_tells_168 at h
  refine rc_istore X [(5, .int (rc_o y0)), (0, .ref a0), (1, .int (rc_o x1)), (3, .int (rc_o x3))] dX8_tells_168 (by decide) rfl ?_
  refine rc_iload X dX8_tells_170 0 rfl ?_
  obtain ⟨c28, h⟩ := h
  refine rc_if_le X 208 dX8_tells_172 (by decide) c28 (fun c29 => ?_) (fun c29 => ?_)
  · have h := h.1 c29
    refine rc_aload_n X dX8_tells_208 rfl 1 rfl ?_
    refine rc_dup X dX8_tells_209 rfl ?_
    refine gfX8_depth X T0.1 nX8_tells_X8 qX8_tells_1 dX8_tells_210 ?_
    refine rc_iconst X dX8_tells_213 ?_
    refine rc_isub X dX8_tells_214 ?_
    refine pfX8_depth X T0.1 nX8_tells_X8 qX8_tells_1 dX8_tells_215 (fun I30 e30 => ?_)
    have h := h I30 e30
    refine rc_aload_n X dX8_tells_218 rfl 1 rfl ?_
    refine rc_dup X dX8_tells_219 rfl ?_
    refine gfX8_place X T0.1 nX8_tells_X8 qX8_tells_2 dX8_tells_220 ?_
    refine rc_iload_n X dX8_tells_223 rfl 3 rfl ?_
    obtain ⟨c31, h⟩ := h
    refine rc_if_eq X 231 dX8_tells_224 (by decide) c31 (fun c32 => ?_) (fun c32 => ?_)
    · have h := h.1 c32
      refine rc_iconst X dX8_tells_231 ?_
      refine rc_subl [(0, .ref a0), (1, .int (rc_o x1))] [1, 2] rfl ?_
      exact gX8_tells_232 X hr T0 hk12  h
    · have h := h.2 c32
      refine rc_iconst X dX8_tells_227 ?_
      refine rc_goto X 232 dX8_tells_228 (by decide) ?_
      refine rc_subl [(0, .ref a0), (1, .int (rc_o x1))] [1, 2] rfl ?_
      exact gX8_tells_232 X hr T0 hk12  h
  · have h := h.2 c29
    refine rc_aload_n X dX8_tells_175 rfl 1 rfl ?_
    refine gfX8_times X T0.1 nX8_tells_X8 qX8_tells_6 dX8_tells_176 ?_
    refine rc_aload_n X dX8_tells_179 rfl 1 rfl ?_
    refine gfX8_depth X T0.1 nX8_tells_X8 qX8_tells_1 dX8_tells_180 ?_
    refine rc_iconst X dX8_tells_183 ?_
    refine rc_isub X dX8_tells_184 ?_
    refine rc_iload X dX8_tells_185 0 rfl ?_
    refine rc_iconst X dX8_tells_187 ?_
    refine rc_isub X dX8_tells_188 ?_
    obtain ⟨c34, h⟩ := h
    refine rc_iast X T0.2.2.2.2.2.2.2.2.2.2.2.1 (by decide) dX8_tells_189 c34 (fun I35 e35 => ?_)
    have h := h I35 e35
    refine rc_aload_n X dX8_tells_190 rfl 1 rfl ?_
    refine rc_aload_n X dX8_tells_191 rfl 1 rfl ?_
    refine gfX8_begins X T0.1 nX8_tells_X8 qX8_tells_5 dX8_tells_192 ?_
    refine rc_aload_n X dX8_tells_195 rfl 1 rfl ?_
    refine gfX8_depth X T0.1 nX8_tells_X8 qX8_tells_1 dX8_tells_196 ?_
    refine rc_iconst X dX8_tells_199 ?_
    refine rc_isub X dX8_tells_200 ?_
    obtain ⟨c36, h⟩ := h
    refine rc_iald X T0.2.2.2.2.2.2.2.2.2.2.1 (by decide) dX8_tells_201 c36 ?_
    refine pfX8_place X T0.1 nX8_tells_X8 qX8_tells_2 dX8_tells_202 (fun I37 e37 => ?_)
    have h := h I37 e37
    refine rc_goto X 236 dX8_tells_205 (by decide) ?_
    refine rc_subl [(0, .ref a0), (1, .int (rc_o x1))] [1, 2] rfl ?_
    exact gX8_tells_236 X hr T0 hk12  h
def wX8_tells_134 (G : rc_G) (post : Int → rc_M → Prop) (a0 : Nat) (k12 : Int → rc_M → Prop) (x1 : Int) (x3 : Int) (y0 : Int) (I : rc_M) : Prop :=
  (0 ≤ (I a0 10) - 1 ∧ (I a0 10) - 1 < 3) ∧ (rc_R (I (a0 + 11) ((I a0 10) - 1)) ∧ ((0 ≤ (I (a0 + 11) ((I a0 10) - 1)) → (0 ≤ (I a0 10) - 1 ∧ (I a0 10) - 1 < 3) ∧ (wX8_tells_168 G post a0 k12 x1 x3 (I (a0 + 11) ((I a0 10) - 1)) I)) ∧ (¬ 0 ≤ (I (a0 + 11) ((I a0 10) - 1)) → wX8_tells_168 G post a0 k12 x1 x3 (y0 - 1) I)))
set_option maxRecDepth 100000 in
set_option maxHeartbeats 4000000 in
theorem gX8_tells_134 {p : Program} {l : Launch} {e : Env} {s : State} {m : MethodId} {below : List Frame} {meth : Method} {c : Code} {G : rc_G} {a0 : Nat} {I : rc_M} {post : Int → rc_M → Prop} {k12 : Int → rc_M → Prop} {x1 : Int} {x3 : Int} {y0 : Int} (X : rc_X p s m ([.ref a0] : List Value).toArray meth c cX8_tells 6 wsX8_tells RX8 G (rc_A G)) (hr : meth.sig.returnType = some .int) (T0 : kX8 G a0) (hk12 : ∀ (x1 : Int) (J : rc_M), k12 x1 J → rc_g p l e rmX8_tells s m ([.ref a0] : List Value).toArray below meth c 0 0 (MQ below (rc_QI G post) ([.ref a0] : List Value).toArray s 0 0 (rc_A G)) 6 G (rc_A G) 12 [(0, .ref a0), (1, .int (rc_o x1))] [] J)  (h : wX8_tells_134 G post a0 k12 x1 x3 y0 I) : rc_g p l e rmX8_tells s m ([.ref a0] : List Value).toArray below meth c 0 0 (MQ below (rc_QI G post) ([.ref a0] : List Value).toArray s 0 0 (rc_A G)) 6 G (rc_A G) 134 [(0, .ref a0), (1, .int (rc_o x1)), (3, .int (rc_o x3))] [.int (rc_o y0)] I := by
  unfold wX8_tells_134 at h
  refine rc_istore X [(4, .int (rc_o y0)), (0, .ref a0), (1, .int (rc_o x1)), (3, .int (rc_o x3))] dX8_tells_134 (by decide) rfl ?_
  refine rc_aload_n X dX8_tells_136 rfl 1 rfl ?_
  refine gfX8_times X T0.1 nX8_tells_X8 qX8_tells_6 dX8_tells_137 ?_
  refine rc_aload_n X dX8_tells_140 rfl 1 rfl ?_
  refine gfX8_depth X T0.1 nX8_tells_X8 qX8_tells_1 dX8_tells_141 ?_
  refine rc_iconst X dX8_tells_144 ?_
  refine rc_isub X dX8_tells_145 ?_
  obtain ⟨c24, h⟩ := h
  refine rc_iald X T0.2.2.2.2.2.2.2.2.2.2.2.1 (by decide) dX8_tells_146 c24 ?_
  obtain ⟨c25, h⟩ := h
  refine rc_if_ge X 157 dX8_tells_147 (by decide) c25 (fun c26 => ?_) (fun c26 => ?_)
  · have h := h.1 c26
    refine rc_aload_n X dX8_tells_157 rfl 1 rfl ?_
    refine gfX8_times X T0.1 nX8_tells_X8 qX8_tells_6 dX8_tells_158 ?_
    refine rc_aload_n X dX8_tells_161 rfl 1 rfl ?_
    refine gfX8_depth X T0.1 nX8_tells_X8 qX8_tells_1 dX8_tells_162 ?_
    refine rc_iconst X dX8_tells_165 ?_
    refine rc_isub X dX8_tells_166 ?_
    obtain ⟨c27, h⟩ := h
    refine rc_iald X T0.2.2.2.2.2.2.2.2.2.2.2.1 (by decide) dX8_tells_167 c27 ?_
    refine rc_subl [(0, .ref a0), (1, .int (rc_o x1)), (3, .int (rc_o x3))] [1, 2, 3] rfl ?_
    exact gX8_tells_168 X hr T0 hk12  h
  · have h := h.2 c26
    refine rc_iload X dX8_tells_150 0 rfl ?_
    refine rc_iconst X dX8_tells_152 ?_
    refine rc_isub X dX8_tells_153 ?_
    refine rc_goto X 168 dX8_tells_154 (by decide) ?_
    refine rc_subl [(0, .ref a0), (1, .int (rc_o x1)), (3, .int (rc_o x3))] [1, 2, 3] rfl ?_
    exact gX8_tells_168 X hr T0 hk12  h
def wX8_tells_111 (G : rc_G) (post : Int → rc_M → Prop) (a0 : Nat) (k12 : Int → rc_M → Prop) (x1 : Int) (y0 : Int) (I : rc_M) : Prop :=
  rc_R y0 ∧ ((y0 = 0 → wX8_tells_134 G post a0 k12 x1 y0 1 I) ∧ (¬ y0 = 0 → (0 ≤ (I a0 9) + 1 ∧ (I a0 9) + 1 < 60) ∧ (wX8_tells_134 G post a0 k12 x1 y0 ((I (a0 + 8) ((I a0 9) + 1)) - 48) I)))
set_option maxRecDepth 100000 in
set_option maxHeartbeats 4000000 in
theorem gX8_tells_111 {p : Program} {l : Launch} {e : Env} {s : State} {m : MethodId} {below : List Frame} {meth : Method} {c : Code} {G : rc_G} {a0 : Nat} {I : rc_M} {post : Int → rc_M → Prop} {k12 : Int → rc_M → Prop} {x1 : Int} {y0 : Int} (X : rc_X p s m ([.ref a0] : List Value).toArray meth c cX8_tells 6 wsX8_tells RX8 G (rc_A G)) (hr : meth.sig.returnType = some .int) (T0 : kX8 G a0) (hk12 : ∀ (x1 : Int) (J : rc_M), k12 x1 J → rc_g p l e rmX8_tells s m ([.ref a0] : List Value).toArray below meth c 0 0 (MQ below (rc_QI G post) ([.ref a0] : List Value).toArray s 0 0 (rc_A G)) 6 G (rc_A G) 12 [(0, .ref a0), (1, .int (rc_o x1))] [] J)  (h : wX8_tells_111 G post a0 k12 x1 y0 I) : rc_g p l e rmX8_tells s m ([.ref a0] : List Value).toArray below meth c 0 0 (MQ below (rc_QI G post) ([.ref a0] : List Value).toArray s 0 0 (rc_A G)) 6 G (rc_A G) 111 [(0, .ref a0), (1, .int (rc_o x1))] [.int (rc_o y0)] I := by
  unfold wX8_tells_111 at h
  refine rc_istore_n X [(3, .int (rc_o y0)), (0, .ref a0), (1, .int (rc_o x1))] dX8_tells_111 rfl (by decide) rfl ?_
  refine rc_iload_n X dX8_tells_112 rfl 0 rfl ?_
  obtain ⟨c22, h⟩ := h
  refine rc_if_eq X 133 dX8_tells_113 (by decide) c22 (fun c23 => ?_) (fun c23 => ?_)
  · have h := h.1 c23
    refine rc_iconst X dX8_tells_133 ?_
    refine rc_subl [(0, .ref a0), (1, .int (rc_o x1)), (3, .int (rc_o y0))] [1, 2, 0] rfl ?_
    exact gX8_tells_134 X hr T0 hk12  h
  · have h := h.2 c23
    refine rc_aload_n X dX8_tells_116 rfl 1 rfl ?_
    refine gfX8_text X T0.1 nX8_tells_X8 qX8_tells_4 dX8_tells_117 ?_
    refine rc_aload_n X dX8_tells_120 rfl 1 rfl ?_
    refine gfX8_place X T0.1 nX8_tells_X8 qX8_tells_2 dX8_tells_121 ?_
    refine rc_iconst X dX8_tells_124 ?_
    refine rc_iadd X dX8_tells_125 ?_
    obtain ⟨c38, h⟩ := h
    refine rc_iald X T0.2.2.2.2.2.2.2.2.1 (by decide) dX8_tells_126 c38 ?_
    refine rc_bipush X dX8_tells_127 (rc_b8 _ ⟨by decide, by decide⟩) ?_
    refine rc_isub X dX8_tells_129 ?_
    refine rc_goto X 134 dX8_tells_130 (by decide) ?_
    refine rc_subl [(0, .ref a0), (1, .int (rc_o x1)), (3, .int (rc_o y0))] [1, 2, 0] rfl ?_
    exact gX8_tells_134 X hr T0 hk12  h
def wX8_tells_12 (G : rc_G) (post : Int → rc_M → Prop) (a0 : Nat) (k12 : Int → rc_M → Prop) (x1 : Int) (I : rc_M) : Prop :=
  rc_R (I a0 9) ∧ (rc_R (I a0 8) ∧ (((I a0 8) ≤ (I a0 9) → post x1 I) ∧ (¬ (I a0 8) ≤ (I a0 9) → rc_R x1 ∧ ((13 ≤ x1 → post x1 I) ∧ (¬ 13 ≤ x1 → (0 ≤ I a0 9 ∧ I a0 9 < 60) ∧ (∀ I9, I9 = rc_s I a0 9 ((I a0 9) + 1) → rc_R (I (a0 + 8) (I a0 9)) ∧ ((¬ (I (a0 + 8) (I a0 9)) = 40 → rc_R (I (a0 + 8) (I a0 9)) ∧ ((¬ (I (a0 + 8) (I a0 9)) = 41 → rc_R x1 ∧ ((12 ≤ x1 → wX8_tells_255 G post a0 k12 x1 I9) ∧ (¬ 12 ≤ x1 → (0 ≤ x1 ∧ x1 < 12) ∧ (∀ I17, I17 = rc_s I9 (a0 + 12) x1 ((I (a0 + 8) (I a0 9)) - 48) → wX8_tells_255 G post a0 k12 x1 I17)))) ∧ ((I (a0 + 8) (I a0 9)) = 41 → wX8_here G a0 I9 (fun r19 I18 => rc_R r19 ∧ ((¬ r19 = 120 → wX8_tells_111 G post a0 k12 x1 0 I18) ∧ (r19 = 120 → wX8_tells_111 G post a0 k12 x1 1 I18)))))) ∧ ((I (a0 + 8) (I a0 9)) = 40 → (0 ≤ I9 a0 10 ∧ I9 a0 10 < 3) ∧ (∀ I40, I40 = rc_s I9 (a0 + 10) (I9 a0 10) (I9 a0 9) → (0 ≤ I40 a0 10 ∧ I40 a0 10 < 3) ∧ (∀ I42, I42 = rc_s I40 (a0 + 11) (I40 a0 10) (-1) → ∀ I43, I43 = rc_s I42 a0 10 ((I42 a0 10) + 1) → wX8_tells_258 G post a0 k12 x1 I43))))))))))
set_option maxRecDepth 100000 in
set_option maxHeartbeats 4000000 in
theorem gX8_tells_12 {p : Program} {l : Launch} {e : Env} {s : State} {m : MethodId} {below : List Frame} {meth : Method} {c : Code} {G : rc_G} {a0 : Nat} {I : rc_M} {post : Int → rc_M → Prop} {k12 : Int → rc_M → Prop} {x1 : Int} (X : rc_X p s m ([.ref a0] : List Value).toArray meth c cX8_tells 6 wsX8_tells RX8 G (rc_A G)) (hr : meth.sig.returnType = some .int) (T0 : kX8 G a0) (hk12 : ∀ (x1 : Int) (J : rc_M), k12 x1 J → rc_g p l e rmX8_tells s m ([.ref a0] : List Value).toArray below meth c 0 0 (MQ below (rc_QI G post) ([.ref a0] : List Value).toArray s 0 0 (rc_A G)) 6 G (rc_A G) 12 [(0, .ref a0), (1, .int (rc_o x1))] [] J)  (h : wX8_tells_12 G post a0 k12 x1 I) : rc_g p l e rmX8_tells s m ([.ref a0] : List Value).toArray below meth c 0 0 (MQ below (rc_QI G post) ([.ref a0] : List Value).toArray s 0 0 (rc_A G)) 6 G (rc_A G) 12 [(0, .ref a0), (1, .int (rc_o x1))] [] I := by
  unfold wX8_tells_12 at h
  refine rc_aload_n X dX8_tells_12 rfl 0 rfl ?_
  refine gfX8_place X T0.1 nX8_tells_X8 qX8_tells_2 dX8_tells_13 ?_
  refine rc_aload_n X dX8_tells_16 rfl 0 rfl ?_
  refine gfX8_length X T0.1 nX8_tells_X8 qX8_tells_3 dX8_tells_17 ?_
  obtain ⟨c3, h⟩ := h
  obtain ⟨c4, h⟩ := h
  refine rc_ic_ge X 261 dX8_tells_20 (by decide) c3 c4 (fun c5 => ?_) (fun c5 => ?_)
  · have h := h.1 c5
    refine rc_iload_n X dX8_tells_261 rfl 1 rfl ?_
    exact rc_iret X hr dX8_tells_262 h
  · have h := h.2 c5
    refine rc_iload_n X dX8_tells_23 rfl 1 rfl ?_
    refine rc_bipush X dX8_tells_24 (rc_b8 _ ⟨by decide, by decide⟩) ?_
    obtain ⟨c6, h⟩ := h
    refine rc_ic_ge X 261 dX8_tells_26 (by decide) c6 ⟨by decide, by decide⟩ (fun c7 => ?_) (fun c7 => ?_)
    · have h := h.1 c7
      refine rc_iload_n X dX8_tells_261 rfl 1 rfl ?_
      exact rc_iret X hr dX8_tells_262 h
    · have h := h.2 c7
      refine rc_aload_n X dX8_tells_29 rfl 0 rfl ?_
      refine gfX8_text X T0.1 nX8_tells_X8 qX8_tells_4 dX8_tells_30 ?_
      refine rc_aload_n X dX8_tells_33 rfl 0 rfl ?_
      refine gfX8_place X T0.1 nX8_tells_X8 qX8_tells_2 dX8_tells_34 ?_
      obtain ⟨c8, h⟩ := h
      refine rc_iald X T0.2.2.2.2.2.2.2.2.1 (by decide) dX8_tells_37 c8 ?_
      refine rc_istore_n X [(2, .int (rc_o (I (a0 + 8) (I a0 9)))), (0, .ref a0), (1, .int (rc_o x1))] dX8_tells_38 rfl (by decide) rfl ?_
      refine rc_aload_n X dX8_tells_39 rfl 1 rfl ?_
      refine rc_dup X dX8_tells_40 rfl ?_
      refine gfX8_place X T0.1 nX8_tells_X8 qX8_tells_2 dX8_tells_41 ?_
      refine rc_iconst X dX8_tells_44 ?_
      refine rc_iadd X dX8_tells_45 ?_
      refine pfX8_place X T0.1 nX8_tells_X8 qX8_tells_2 dX8_tells_46 (fun I9 e9 => ?_)
      have h := h I9 e9
      refine rc_iload_n X dX8_tells_49 rfl 0 rfl ?_
      refine rc_bipush X dX8_tells_50 (rc_b8 _ ⟨by decide, by decide⟩) ?_
      obtain ⟨c10, h⟩ := h
      refine rc_ic_ne X 91 dX8_tells_52 (by decide) c10 ⟨by decide, by decide⟩ (fun c11 => ?_) (fun c11 => ?_)
      · have h := h.1 c11
        refine rc_iload_n X dX8_tells_91 rfl 0 rfl ?_
        refine rc_bipush X dX8_tells_92 (rc_b8 _ ⟨by decide, by decide⟩) ?_
        obtain ⟨c12, h⟩ := h
        refine rc_ic_ne X 239 dX8_tells_94 (by decide) c12 ⟨by decide, by decide⟩ (fun c13 => ?_) (fun c13 => ?_)
        · have h := h.1 c13
          refine rc_iload_n X dX8_tells_239 rfl 2 rfl ?_
          refine rc_bipush X dX8_tells_240 (rc_b8 _ ⟨by decide, by decide⟩) ?_
          obtain ⟨c14, h⟩ := h
          refine rc_ic_ge X 255 dX8_tells_242 (by decide) c14 ⟨by decide, by decide⟩ (fun c15 => ?_) (fun c15 => ?_)
          · have h := h.1 c15
            refine rc_subl [(0, .ref a0), (1, .int (rc_o x1))] [1, 2] rfl ?_
            exact gX8_tells_255 X hr T0 hk12  h
          · have h := h.2 c15
            refine rc_aload_n X dX8_tells_245 rfl 1 rfl ?_
            refine gfX8_told X T0.1 nX8_tells_X8 qX8_tells_7 dX8_tells_246 ?_
            refine rc_iload_n X dX8_tells_249 rfl 2 rfl ?_
            refine rc_iload_n X dX8_tells_250 rfl 0 rfl ?_
            refine rc_bipush X dX8_tells_251 (rc_b8 _ ⟨by decide, by decide⟩) ?_
            refine rc_isub X dX8_tells_253 ?_
            obtain ⟨c16, h⟩ := h
            refine rc_iast X T0.2.2.2.2.2.2.2.2.2.2.2.2 (by decide) dX8_tells_254 c16 (fun I17 e17 => ?_)
            have h := h I17 e17
            refine rc_subl [(0, .ref a0), (1, .int (rc_o x1))] [1, 2] rfl ?_
            exact gX8_tells_255 X hr T0 hk12  h
        · have h := h.2 c13
          refine rc_aload_n X dX8_tells_97 rfl 1 rfl ?_
          refine rc_cVI (rest := []) X (mX8_here T0 h) gX8_tells_X8_here rfl ⟨rfl, rfl⟩ dyX8_here ⟨Nat.le_of_ble_eq_true rfl, Nat.le_of_ble_eq_true rfl⟩ (rc_recv X T0.1 rfl) rfl rfl (Nat.le_of_ble_eq_true rfl) dX8_tells_98 ⟨Nat.zero_le _, Nat.zero_le _⟩ (fun r19 I18 h => ?_)
          refine rc_bipush X dX8_tells_101 (rc_b8 _ ⟨by decide, by decide⟩) ?_
          obtain ⟨c20, h⟩ := h
          refine rc_ic_ne X 110 dX8_tells_103 (by decide) c20 ⟨by decide, by decide⟩ (fun c21 => ?_) (fun c21 => ?_)
          · have h := h.1 c21
            refine rc_iconst X dX8_tells_110 ?_
            refine rc_subl [(0, .ref a0), (1, .int (rc_o x1))] [1, 2] rfl ?_
            exact gX8_tells_111 X hr T0 hk12  h
          · have h := h.2 c21
            refine rc_iconst X dX8_tells_106 ?_
            refine rc_goto X 111 dX8_tells_107 (by decide) ?_
            refine rc_subl [(0, .ref a0), (1, .int (rc_o x1))] [1, 2] rfl ?_
            exact gX8_tells_111 X hr T0 hk12  h
      · have h := h.2 c11
        refine rc_aload_n X dX8_tells_55 rfl 1 rfl ?_
        refine gfX8_begins X T0.1 nX8_tells_X8 qX8_tells_5 dX8_tells_56 ?_
        refine rc_aload_n X dX8_tells_59 rfl 1 rfl ?_
        refine gfX8_depth X T0.1 nX8_tells_X8 qX8_tells_1 dX8_tells_60 ?_
        refine rc_aload_n X dX8_tells_63 rfl 1 rfl ?_
        refine gfX8_place X T0.1 nX8_tells_X8 qX8_tells_2 dX8_tells_64 ?_
        obtain ⟨c39, h⟩ := h
        refine rc_iast X T0.2.2.2.2.2.2.2.2.2.2.1 (by decide) dX8_tells_67 c39 (fun I40 e40 => ?_)
        have h := h I40 e40
        refine rc_aload_n X dX8_tells_68 rfl 1 rfl ?_
        refine gfX8_times X T0.1 nX8_tells_X8 qX8_tells_6 dX8_tells_69 ?_
        refine rc_aload_n X dX8_tells_72 rfl 1 rfl ?_
        refine gfX8_depth X T0.1 nX8_tells_X8 qX8_tells_1 dX8_tells_73 ?_
        refine rc_iconst X dX8_tells_76 ?_
        obtain ⟨c41, h⟩ := h
        refine rc_iast X T0.2.2.2.2.2.2.2.2.2.2.2.1 (by decide) dX8_tells_77 c41 (fun I42 e42 => ?_)
        have h := h I42 e42
        refine rc_aload_n X dX8_tells_78 rfl 1 rfl ?_
        refine rc_dup X dX8_tells_79 rfl ?_
        refine gfX8_depth X T0.1 nX8_tells_X8 qX8_tells_1 dX8_tells_80 ?_
        refine rc_iconst X dX8_tells_83 ?_
        refine rc_iadd X dX8_tells_84 ?_
        refine pfX8_depth X T0.1 nX8_tells_X8 qX8_tells_1 dX8_tells_85 (fun I43 e43 => ?_)
        have h := h I43 e43
        refine rc_goto X 258 dX8_tells_88 (by decide) ?_
        refine rc_subl [(0, .ref a0), (1, .int (rc_o x1))] [1, 2] rfl ?_
        exact gX8_tells_258 X hr T0 hk12  h
noncomputable def rX8_tells_12 (G : rc_G) (post : Int → rc_M → Prop) (a0 : Nat)  (n : Nat) : Int → rc_M → Prop :=
  Nat.rec (motive := fun _ => Int → rc_M → Prop) (fun _ _ => False) (fun _ ih => wX8_tells_12 G post a0  ih) n
set_option maxRecDepth 100000 in
set_option maxHeartbeats 4000000 in
theorem sX8_tells_12 {p : Program} {l : Launch} {e : Env} {s : State} {m : MethodId} {below : List Frame} {meth : Method} {c : Code} {G : rc_G} {a0 : Nat} {I : rc_M} {post : Int → rc_M → Prop}  {n : Nat} {x1 : Int} (X : rc_X p s m ([.ref a0] : List Value).toArray meth c cX8_tells 6 wsX8_tells RX8 G (rc_A G)) (hr : meth.sig.returnType = some .int) (T0 : kX8 G a0)  (h : rX8_tells_12 G post a0  n x1 I) : rc_g p l e rmX8_tells s m ([.ref a0] : List Value).toArray below meth c 0 0 (MQ below (rc_QI G post) ([.ref a0] : List Value).toArray s 0 0 (rc_A G)) 6 G (rc_A G) 12 [(0, .ref a0), (1, .int (rc_o x1))] [] I := by
  induction n generalizing x1 I with
  | zero => exact h.elim
  | succ n ih => exact gX8_tells_12 (k12 := rX8_tells_12 G post a0  n) X hr T0  (fun x1 J h2 => ih h2) h
def wX8_tells (G : rc_G) (a0 : Nat) (I : rc_M) (post : Int → rc_M → Prop) : Prop :=
  ∀ I1, I1 = rc_s I a0 10 0 → ∀ I2, I2 = rc_s I1 a0 9 0 → ∃ n, rX8_tells_12 G post a0  n 0 I2
set_option maxRecDepth 100000 in
set_option maxHeartbeats 4000000 in
theorem gX8_tells_0 {p : Program} {l : Launch} {e : Env} {s : State} {m : MethodId} {below : List Frame} {meth : Method} {c : Code} {G : rc_G} {a0 : Nat} {I : rc_M} {post : Int → rc_M → Prop}  (X : rc_X p s m ([.ref a0] : List Value).toArray meth c cX8_tells 6 wsX8_tells RX8 G (rc_A G)) (hr : meth.sig.returnType = some .int) (T0 : kX8 G a0)  (h : wX8_tells G a0 I post) : rc_g p l e rmX8_tells s m ([.ref a0] : List Value).toArray below meth c 0 0 (MQ below (rc_QI G post) ([.ref a0] : List Value).toArray s 0 0 (rc_A G)) 6 G (rc_A G) 0 [(0, .ref a0)] [] I := by
  unfold wX8_tells at h
  refine rc_iconst X dX8_tells_0 ?_
  refine rc_istore_n X [(1, .int (rc_o 0)), (0, .ref a0)] dX8_tells_1 rfl (by decide) rfl ?_
  refine rc_aload_n X dX8_tells_2 rfl 1 rfl ?_
  refine rc_iconst X dX8_tells_3 ?_
  refine pfX8_depth X T0.1 nX8_tells_X8 qX8_tells_1 dX8_tells_4 (fun I1 e1 => ?_)
  have h := h I1 e1
  refine rc_aload_n X dX8_tells_7 rfl 1 rfl ?_
  refine rc_iconst X dX8_tells_8 ?_
  refine pfX8_place X T0.1 nX8_tells_X8 qX8_tells_2 dX8_tells_9 (fun I2 e2 => ?_)
  have h := h I2 e2
  refine rc_subl [(0, .ref a0), (1, .int (rc_o 0))] [1, 0] rfl ?_
  obtain ⟨n, h⟩ := h
  exact sX8_tells_12 X hr T0  h
theorem mX8_tells {l : Launch} {G : rc_G} {a0 : Nat} {I : rc_M} {post : Int → rc_M → Prop} (T0 : kX8 G a0) (h : wX8_tells G a0 I post) : rc_CI l yX8_tells wsX8_tells rmX8_tells G [.ref a0] I post :=
  rc_body (by decide +kernel) rfl rfl (Nat.le_of_ble_eq_true rfl) rfl (fun p e s m below meth c X hr => gX8_tells_0 X hr T0 h)
/-! X8_isRunning -/
abbrev rmX8_isRunning : Room := { frames := 0, cells := 0, slots := 0, locals := 0 }
theorem dyX8_isRunning : yX8_isRunning.cls = RX8 ∧ yX8_isRunning.cls ≠ "java/lang/invoke/MethodHandle" ∧ yX8_isRunning.cls ≠ "java/lang/invoke/VarHandle" ∧ (parseMethodDescriptor yX8_isRunning.desc).map (fun d => d.parameters.length) = some 0 := ⟨rfl, by decide +kernel, by decide +kernel, by decide +kernel⟩
theorem qX8_isRunning_1 : Cond.fieldLink RX8 7 "ReelChangerModel" "v" "[I" ∈ wsX8_isRunning := List.mem_of_getElem? (i := 1) (by decide +kernel)
theorem nX8_isRunning_X8 : ∀ w ∈ wsX80, w ∈ wsX8_isRunning := fun w h => List.mem_cons_of_mem _ (List.mem_append_right _ (h))
def wX8_isRunning (G : rc_G) (a0 : Nat) (I : rc_M) (post : Int → rc_M → Prop) : Prop :=
  rc_R (I (a0 + 1) 162) ∧ ((¬ (I (a0 + 1) 162) = 1 → post 0 I) ∧ ((I (a0 + 1) 162) = 1 → rc_R (I (a0 + 1) 163) ∧ ((¬ (I (a0 + 1) 163) = 0 → post 0 I) ∧ ((I (a0 + 1) 163) = 0 → post 1 I))))
set_option maxRecDepth 100000 in
set_option maxHeartbeats 4000000 in
theorem gX8_isRunning_0 {p : Program} {l : Launch} {e : Env} {s : State} {m : MethodId} {below : List Frame} {meth : Method} {c : Code} {G : rc_G} {a0 : Nat} {I : rc_M} {post : Int → rc_M → Prop}  (X : rc_X p s m ([.ref a0] : List Value).toArray meth c cX8_isRunning 1 wsX8_isRunning RX8 G (rc_A G)) (hr : meth.sig.returnType = some .boolean) (T0 : kX8 G a0)  (h : wX8_isRunning G a0 I post) : rc_g p l e rmX8_isRunning s m ([.ref a0] : List Value).toArray below meth c 0 0 (MQ below (rc_QI G post) ([.ref a0] : List Value).toArray s 0 0 (rc_A G)) 1 G (rc_A G) 0 [(0, .ref a0)] [] I := by
  unfold wX8_isRunning at h
  refine rc_aload_n X dX8_isRunning_0 rfl 0 rfl ?_
  refine gfX8_v X T0.1 nX8_isRunning_X8 qX8_isRunning_1 dX8_isRunning_1 ?_
  refine rc_sipush X dX8_isRunning_4 (rc_b16 _ ⟨by decide, by decide⟩) ?_
  refine rc_iald X T0.2.1 (by decide) dX8_isRunning_7 ⟨by decide, by decide⟩ ?_
  refine rc_iconst X dX8_isRunning_8 ?_
  obtain ⟨c1, h⟩ := h
  refine rc_ic_ne X 27 dX8_isRunning_9 (by decide) c1 ⟨by decide, by decide⟩ (fun c2 => ?_) (fun c2 => ?_)
  · have h := h.1 c2
    refine rc_iconst X dX8_isRunning_27 ?_
    exact rc_zret X hr dX8_isRunning_28 (Or.inl rfl) h
  · have h := h.2 c2
    refine rc_aload_n X dX8_isRunning_12 rfl 0 rfl ?_
    refine gfX8_v X T0.1 nX8_isRunning_X8 qX8_isRunning_1 dX8_isRunning_13 ?_
    refine rc_sipush X dX8_isRunning_16 (rc_b16 _ ⟨by decide, by decide⟩) ?_
    refine rc_iald X T0.2.1 (by decide) dX8_isRunning_19 ⟨by decide, by decide⟩ ?_
    obtain ⟨c3, h⟩ := h
    refine rc_if_ne X 27 dX8_isRunning_20 (by decide) c3 (fun c4 => ?_) (fun c4 => ?_)
    · have h := h.1 c4
      refine rc_iconst X dX8_isRunning_27 ?_
      exact rc_zret X hr dX8_isRunning_28 (Or.inl rfl) h
    · have h := h.2 c4
      refine rc_iconst X dX8_isRunning_23 ?_
      refine rc_goto X 28 dX8_isRunning_24 (by decide) ?_
      exact rc_zret X hr dX8_isRunning_28 (Or.inr rfl) h
theorem mX8_isRunning {l : Launch} {G : rc_G} {a0 : Nat} {I : rc_M} {post : Int → rc_M → Prop} (T0 : kX8 G a0) (h : wX8_isRunning G a0 I post) : rc_CI l yX8_isRunning wsX8_isRunning rmX8_isRunning G [.ref a0] I post :=
  rc_body (by decide +kernel) rfl rfl (Nat.le_of_ble_eq_true rfl) rfl (fun p e s m below meth c X hr => gX8_isRunning_0 X hr T0 h)
/-! X8_setProgram -/
abbrev rmX8_setProgram : Room := { frames := 4, cells := 0, slots := 0, locals := 85 }
theorem dyX8_setProgram : yX8_setProgram.cls = RX8 ∧ yX8_setProgram.cls ≠ "java/lang/invoke/MethodHandle" ∧ yX8_setProgram.cls ≠ "java/lang/invoke/VarHandle" ∧ (parseMethodDescriptor yX8_setProgram.desc).map (fun d => d.parameters.length) = some 0 := ⟨rfl, by decide +kernel, by decide +kernel, by decide +kernel⟩
theorem qX8_setProgram_1 : Cond.constant RX8 103 (-100003) ∈ wsX8_setProgram := List.mem_of_getElem? (i := 1) (by decide +kernel)
theorem qX8_setProgram_3 : Cond.fieldLink RX8 7 "ReelChangerModel" "v" "[I" ∈ wsX8_setProgram := List.mem_of_getElem? (i := 3) (by decide +kernel)
theorem nX8_setProgram_X8 : ∀ w ∈ wsX80, w ∈ wsX8_setProgram := fun w h => List.mem_cons_of_mem _ (List.mem_append_right _ (h))
theorem qX8_setProgram_4 : Cond.fieldLink RX8 44 "ReelChangerModel" "told" "[I" ∈ wsX8_setProgram := List.mem_of_getElem? (i := 4) (by decide +kernel)
theorem qX8_setProgram_2 : Cond.constant RX8 52 (-100004) ∈ wsX8_setProgram := List.mem_of_getElem? (i := 2) (by decide +kernel)
def wX8_setProgram_33 (G : rc_G) (post : Int → rc_M → Prop) (a0 : Nat) (k33 : Int → Int → rc_M → Prop) (x1 : Int) (x2 : Int) (I : rc_M) : Prop :=
  rc_R x2 ∧ (rc_R x1 ∧ ((x1 ≤ x2 → ∀ I16, I16 = rc_s I (a0 + 1) 149 x1 → post x1 I16) ∧ (¬ x1 ≤ x2 → (0 ≤ x2 ∧ x2 < 12) ∧ ((0 ≤ 150 + x2 ∧ 150 + x2 < 199) ∧ (∀ I19, I19 = rc_s I (a0 + 1) (150 + x2) (I (a0 + 12) x2) → k33 x1 (x2 + 1) I19)))))
set_option maxRecDepth 100000 in
set_option maxHeartbeats 4000000 in
theorem gX8_setProgram_33 {p : Program} {l : Launch} {e : Env} {s : State} {m : MethodId} {below : List Frame} {meth : Method} {c : Code} {G : rc_G} {a0 : Nat} {I : rc_M} {post : Int → rc_M → Prop} {k33 : Int → Int → rc_M → Prop} {x1 : Int} {x2 : Int} (X : rc_X p s m ([.ref a0] : List Value).toArray meth c cX8_setProgram 3 wsX8_setProgram RX8 G (rc_A G)) (hr : meth.sig.returnType = some .int) (T0 : kX8 G a0) (hk33 : ∀ (x1 : Int) (x2 : Int) (J : rc_M), k33 x1 x2 J → rc_g p l e rmX8_setProgram s m ([.ref a0] : List Value).toArray below meth c 0 0 (MQ below (rc_QI G post) ([.ref a0] : List Value).toArray s 0 0 (rc_A G)) 3 G (rc_A G) 33 [(0, .ref a0), (1, .int (rc_o x1)), (2, .int (rc_o x2))] [] J)  (h : wX8_setProgram_33 G post a0 k33 x1 x2 I) : rc_g p l e rmX8_setProgram s m ([.ref a0] : List Value).toArray below meth c 0 0 (MQ below (rc_QI G post) ([.ref a0] : List Value).toArray s 0 0 (rc_A G)) 3 G (rc_A G) 33 [(0, .ref a0), (1, .int (rc_o x1)), (2, .int (rc_o x2))] [] I := by
  unfold wX8_setProgram_33 at h
  refine rc_iload_n X dX8_setProgram_33 rfl 2 rfl ?_
  refine rc_iload_n X dX8_setProgram_34 rfl 1 rfl ?_
  obtain ⟨c13, h⟩ := h
  obtain ⟨c14, h⟩ := h
  refine rc_ic_ge X 60 dX8_setProgram_35 (by decide) c13 c14 (fun c15 => ?_) (fun c15 => ?_)
  · have h := h.1 c15
    refine rc_aload_n X dX8_setProgram_60 rfl 0 rfl ?_
    refine gfX8_v X T0.1 nX8_setProgram_X8 qX8_setProgram_3 dX8_setProgram_61 ?_
    refine rc_sipush X dX8_setProgram_64 (rc_b16 _ ⟨by decide, by decide⟩) ?_
    refine rc_iload_n X dX8_setProgram_67 rfl 1 rfl ?_
    refine rc_iast X T0.2.1 (by decide) dX8_setProgram_68 ⟨by decide, by decide⟩ (fun I16 e16 => ?_)
    have h := h I16 e16
    refine rc_iload_n X dX8_setProgram_69 rfl 1 rfl ?_
    exact rc_iret X hr dX8_setProgram_70 h
  · have h := h.2 c15
    refine rc_aload_n X dX8_setProgram_38 rfl 0 rfl ?_
    refine gfX8_v X T0.1 nX8_setProgram_X8 qX8_setProgram_3 dX8_setProgram_39 ?_
    refine rc_sipush X dX8_setProgram_42 (rc_b16 _ ⟨by decide, by decide⟩) ?_
    refine rc_iload_n X dX8_setProgram_45 rfl 2 rfl ?_
    refine rc_iadd X dX8_setProgram_46 ?_
    refine rc_aload_n X dX8_setProgram_47 rfl 0 rfl ?_
    refine gfX8_told X T0.1 nX8_setProgram_X8 qX8_setProgram_4 dX8_setProgram_48 ?_
    refine rc_iload_n X dX8_setProgram_51 rfl 2 rfl ?_
    obtain ⟨c17, h⟩ := h
    refine rc_iald X T0.2.2.2.2.2.2.2.2.2.2.2.2 (by decide) dX8_setProgram_52 c17 ?_
    obtain ⟨c18, h⟩ := h
    refine rc_iast X T0.2.1 (by decide) dX8_setProgram_53 c18 (fun I19 e19 => ?_)
    have h := h I19 e19
    refine rc_iinc X [(2, .int (rc_o (x2 + 1))), (0, .ref a0), (1, .int (rc_o x1))] dX8_setProgram_54 2 rfl (by decide) rfl ?_
    refine rc_goto X 33 dX8_setProgram_57 (by decide) ?_
    refine rc_subl [(0, .ref a0), (1, .int (rc_o x1)), (2, .int (rc_o (x2 + 1)))] [1, 2, 0] rfl ?_
    exact hk33 _ _ _ h
noncomputable def rX8_setProgram_33 (G : rc_G) (post : Int → rc_M → Prop) (a0 : Nat)  (n : Nat) : Int → Int → rc_M → Prop :=
  Nat.rec (motive := fun _ => Int → Int → rc_M → Prop) (fun _ _ _ => False) (fun _ ih => wX8_setProgram_33 G post a0  ih) n
set_option maxRecDepth 100000 in
set_option maxHeartbeats 4000000 in
theorem sX8_setProgram_33 {p : Program} {l : Launch} {e : Env} {s : State} {m : MethodId} {below : List Frame} {meth : Method} {c : Code} {G : rc_G} {a0 : Nat} {I : rc_M} {post : Int → rc_M → Prop}  {n : Nat} {x1 : Int} {x2 : Int} (X : rc_X p s m ([.ref a0] : List Value).toArray meth c cX8_setProgram 3 wsX8_setProgram RX8 G (rc_A G)) (hr : meth.sig.returnType = some .int) (T0 : kX8 G a0)  (h : rX8_setProgram_33 G post a0  n x1 x2 I) : rc_g p l e rmX8_setProgram s m ([.ref a0] : List Value).toArray below meth c 0 0 (MQ below (rc_QI G post) ([.ref a0] : List Value).toArray s 0 0 (rc_A G)) 3 G (rc_A G) 33 [(0, .ref a0), (1, .int (rc_o x1)), (2, .int (rc_o x2))] [] I := by
  induction n generalizing x1 x2 I with
  | zero => exact h.elim
  | succ n ih => exact gX8_setProgram_33 (k33 := rX8_setProgram_33 G post a0  n) X hr T0  (fun x1 x2 J h2 => ih h2) h
def wX8_setProgram (G : rc_G) (a0 : Nat) (I : rc_M) (post : Int → rc_M → Prop) : Prop :=
  wX8_isText G a0 I (fun r2 I1 => rc_R r2 ∧ ((r2 = 0 → post (-100003) I1) ∧ (¬ r2 = 0 → wX8_isRunning G a0 I1 (fun r6 I5 => rc_R r6 ∧ ((r6 = 0 → wX8_tells G a0 I5 (fun r10 I9 => rc_R r10 ∧ ((r10 ≤ 12 → ∃ n, rX8_setProgram_33 G post a0  n r10 0 I9) ∧ (¬ r10 ≤ 12 → post (-100004) I9)))) ∧ (¬ r6 = 0 → post (-100003) I5))))))
set_option maxRecDepth 100000 in
set_option maxHeartbeats 4000000 in
theorem gX8_setProgram_0 {p : Program} {l : Launch} {e : Env} {s : State} {m : MethodId} {below : List Frame} {meth : Method} {c : Code} {G : rc_G} {a0 : Nat} {I : rc_M} {post : Int → rc_M → Prop}  (X : rc_X p s m ([.ref a0] : List Value).toArray meth c cX8_setProgram 3 wsX8_setProgram RX8 G (rc_A G)) (hr : meth.sig.returnType = some .int) (T0 : kX8 G a0)  (h : wX8_setProgram G a0 I post) : rc_g p l e rmX8_setProgram s m ([.ref a0] : List Value).toArray below meth c 0 0 (MQ below (rc_QI G post) ([.ref a0] : List Value).toArray s 0 0 (rc_A G)) 3 G (rc_A G) 0 [(0, .ref a0)] [] I := by
  unfold wX8_setProgram at h
  refine rc_aload_n X dX8_setProgram_0 rfl 0 rfl ?_
  refine rc_cVI (rest := []) X (mX8_isText T0 h) gX8_setProgram_X8_isText rfl ⟨rfl, rfl⟩ dyX8_isText ⟨Nat.le_of_ble_eq_true rfl, Nat.le_of_ble_eq_true rfl⟩ (rc_recv X T0.1 rfl) rfl rfl (Nat.le_of_ble_eq_true rfl) dX8_setProgram_1 ⟨Nat.zero_le _, Nat.zero_le _⟩ (fun r2 I1 h => ?_)
  obtain ⟨c3, h⟩ := h
  refine rc_if_eq X 14 dX8_setProgram_4 (by decide) c3 (fun c4 => ?_) (fun c4 => ?_)
  · have h := h.1 c4
    refine rc_ldc (n := (-100003)) X qX8_setProgram_1 (by decide +kernel) dX8_setProgram_14 ?_
    exact rc_iret X hr dX8_setProgram_16 h
  · have h := h.2 c4
    refine rc_aload_n X dX8_setProgram_7 rfl 0 rfl ?_
    refine rc_cVI (rest := []) X (mX8_isRunning T0 h) gX8_setProgram_X8_isRunning rfl ⟨rfl, rfl⟩ dyX8_isRunning ⟨Nat.le_of_ble_eq_true rfl, Nat.le_of_ble_eq_true rfl⟩ (rc_recv X T0.1 rfl) rfl rfl (Nat.le_of_ble_eq_true rfl) dX8_setProgram_8 ⟨Nat.zero_le _, Nat.zero_le _⟩ (fun r6 I5 h => ?_)
    obtain ⟨c7, h⟩ := h
    refine rc_if_eq X 17 dX8_setProgram_11 (by decide) c7 (fun c8 => ?_) (fun c8 => ?_)
    · have h := h.1 c8
      refine rc_aload_n X dX8_setProgram_17 rfl 0 rfl ?_
      refine rc_cVI (rest := []) X (mX8_tells T0 h) gX8_setProgram_X8_tells rfl ⟨rfl, rfl⟩ dyX8_tells ⟨Nat.le_of_ble_eq_true rfl, Nat.le_of_ble_eq_true rfl⟩ (rc_recv X T0.1 rfl) rfl rfl (Nat.le_of_ble_eq_true rfl) dX8_setProgram_18 ⟨Nat.zero_le _, Nat.zero_le _⟩ (fun r10 I9 h => ?_)
      refine rc_istore_n X [(1, .int (rc_o r10)), (0, .ref a0)] dX8_setProgram_21 rfl (by decide) rfl ?_
      refine rc_iload_n X dX8_setProgram_22 rfl 0 rfl ?_
      refine rc_bipush X dX8_setProgram_23 (rc_b8 _ ⟨by decide, by decide⟩) ?_
      obtain ⟨c11, h⟩ := h
      refine rc_ic_le X 31 dX8_setProgram_25 (by decide) c11 ⟨by decide, by decide⟩ (fun c12 => ?_) (fun c12 => ?_)
      · have h := h.1 c12
        refine rc_iconst X dX8_setProgram_31 ?_
        refine rc_istore_n X [(2, .int (rc_o 0)), (1, .int (rc_o r10)), (0, .ref a0)] dX8_setProgram_32 rfl (by decide) rfl ?_
        refine rc_subl [(0, .ref a0), (1, .int (rc_o r10)), (2, .int (rc_o 0))] [2, 1, 0] rfl ?_
        obtain ⟨n, h⟩ := h
        exact sX8_setProgram_33 X hr T0  h
      · have h := h.2 c12
        refine rc_ldc (n := (-100004)) X qX8_setProgram_2 (by decide +kernel) dX8_setProgram_28 ?_
        exact rc_iret X hr dX8_setProgram_30 h
    · have h := h.2 c8
      refine rc_ldc (n := (-100003)) X qX8_setProgram_1 (by decide +kernel) dX8_setProgram_14 ?_
      exact rc_iret X hr dX8_setProgram_16 h
theorem mX8_setProgram {l : Launch} {G : rc_G} {a0 : Nat} {I : rc_M} {post : Int → rc_M → Prop} (T0 : kX8 G a0) (h : wX8_setProgram G a0 I post) : rc_CI l yX8_setProgram wsX8_setProgram rmX8_setProgram G [.ref a0] I post :=
  rc_body (by decide +kernel) rfl rfl (Nat.le_of_ble_eq_true rfl) rfl (fun p e s m below meth c X hr => gX8_setProgram_0 X hr T0 h)
/-! X8_program -/
abbrev rmX8_program : Room := { frames := 1, cells := 0, slots := 0, locals := 22 }
theorem dyX8_program : yX8_program.cls = RX8 ∧ yX8_program.cls ≠ "java/lang/invoke/MethodHandle" ∧ yX8_program.cls ≠ "java/lang/invoke/VarHandle" ∧ (parseMethodDescriptor yX8_program.desc).map (fun d => d.parameters.length) = some 1 := ⟨rfl, by decide +kernel, by decide +kernel, by decide +kernel⟩
theorem qX8_program_1 : Cond.fieldLink RX8 7 "ReelChangerModel" "v" "[I" ∈ wsX8_program := List.mem_of_getElem? (i := 1) (by decide +kernel)
theorem nX8_program_X8 : ∀ w ∈ wsX80, w ∈ wsX8_program := fun w h => List.mem_cons_of_mem _ (List.mem_append_right _ (h))
theorem qX8_program_2 : Cond.constant RX8 64 (-100001) ∈ wsX8_program := List.mem_of_getElem? (i := 2) (by decide +kernel)
def wX8_program (G : rc_G) (a0 : Nat) (a1 : Int) (I : rc_M) (post : Int → rc_M → Prop) : Prop :=
  wX8_in G a1 0 ((I (a0 + 1) 149) - 1) I (fun r2 I1 => rc_R r2 ∧ ((r2 = 0 → post (-100001) I1) ∧ (¬ r2 = 0 → (0 ≤ 150 + a1 ∧ 150 + a1 < 199) ∧ (post (I1 (a0 + 1) (150 + a1)) I1))))
set_option maxRecDepth 100000 in
set_option maxHeartbeats 4000000 in
theorem gX8_program_0 {p : Program} {l : Launch} {e : Env} {s : State} {m : MethodId} {below : List Frame} {meth : Method} {c : Code} {G : rc_G} {a0 : Nat} {a1 : Int} {I : rc_M} {post : Int → rc_M → Prop}  (X : rc_X p s m ([.ref a0, .int (rc_o a1)] : List Value).toArray meth c cX8_program 2 wsX8_program RX8 G (rc_A G)) (hr : meth.sig.returnType = some .int) (T0 : kX8 G a0)  (h : wX8_program G a0 a1 I post) : rc_g p l e rmX8_program s m ([.ref a0, .int (rc_o a1)] : List Value).toArray below meth c 0 0 (MQ below (rc_QI G post) ([.ref a0, .int (rc_o a1)] : List Value).toArray s 0 0 (rc_A G)) 2 G (rc_A G) 0 [(0, .ref a0), (1, .int (rc_o a1))] [] I := by
  unfold wX8_program at h
  refine rc_iload_n X dX8_program_0 rfl 1 rfl ?_
  refine rc_iconst X dX8_program_1 ?_
  refine rc_aload_n X dX8_program_2 rfl 0 rfl ?_
  refine gfX8_v X T0.1 nX8_program_X8 qX8_program_1 dX8_program_3 ?_
  refine rc_sipush X dX8_program_6 (rc_b16 _ ⟨by decide, by decide⟩) ?_
  refine rc_iald X T0.2.1 (by decide) dX8_program_9 ⟨by decide, by decide⟩ ?_
  refine rc_iconst X dX8_program_10 ?_
  refine rc_isub X dX8_program_11 ?_
  refine rc_cSI (rest := []) X (mX8_in  h) gX8_program_X8_in rfl ⟨rfl, rfl⟩ dyX8_in ⟨Nat.le_of_ble_eq_true rfl, Nat.le_of_ble_eq_true rfl⟩ rfl rfl (Nat.le_of_ble_eq_true rfl) dX8_program_12 ⟨Nat.zero_le _, Nat.zero_le _⟩ (fun r2 I1 h => ?_)
  obtain ⟨c3, h⟩ := h
  refine rc_if_eq X 31 dX8_program_15 (by decide) c3 (fun c4 => ?_) (fun c4 => ?_)
  · have h := h.1 c4
    refine rc_ldc (n := (-100001)) X qX8_program_2 (by decide +kernel) dX8_program_31 ?_
    exact rc_iret X hr dX8_program_33 h
  · have h := h.2 c4
    refine rc_aload_n X dX8_program_18 rfl 0 rfl ?_
    refine gfX8_v X T0.1 nX8_program_X8 qX8_program_1 dX8_program_19 ?_
    refine rc_sipush X dX8_program_22 (rc_b16 _ ⟨by decide, by decide⟩) ?_
    refine rc_iload_n X dX8_program_25 rfl 1 rfl ?_
    refine rc_iadd X dX8_program_26 ?_
    obtain ⟨c5, h⟩ := h
    refine rc_iald X T0.2.1 (by decide) dX8_program_27 c5 ?_
    refine rc_goto X 33 dX8_program_28 (by decide) ?_
    exact rc_iret X hr dX8_program_33 h
theorem mX8_program {l : Launch} {G : rc_G} {a0 : Nat} {a1 : Int} {I : rc_M} {post : Int → rc_M → Prop} (T0 : kX8 G a0) (h : wX8_program G a0 a1 I post) : rc_CI l yX8_program wsX8_program rmX8_program G [.ref a0, .int (rc_o a1)] I post :=
  rc_body (by decide +kernel) rfl rfl (Nat.le_of_ble_eq_true rfl) rfl (fun p e s m below meth c X hr => gX8_program_0 X hr T0 h)
/-! X8_on -/
abbrev rmX8_on : Room := { frames := 0, cells := 0, slots := 0, locals := 0 }
theorem dyX8_on : yX8_on.cls = RX8 ∧ yX8_on.cls ≠ "java/lang/invoke/MethodHandle" ∧ yX8_on.cls ≠ "java/lang/invoke/VarHandle" ∧ (parseMethodDescriptor yX8_on.desc).map (fun d => d.parameters.length) = some 2 := ⟨rfl, by decide +kernel, by decide +kernel, by decide +kernel⟩
def wX8_on (G : rc_G) (a0 : Int) (a1 : Int) (I : rc_M) (post : Int → rc_M → Prop) : Prop :=
  post ((191 + (4 * a0)) + a1) I
set_option maxRecDepth 100000 in
set_option maxHeartbeats 4000000 in
theorem gX8_on_0 {p : Program} {l : Launch} {e : Env} {s : State} {m : MethodId} {below : List Frame} {meth : Method} {c : Code} {G : rc_G} {a0 : Int} {a1 : Int} {I : rc_M} {post : Int → rc_M → Prop}  (X : rc_X p s m ([.int (rc_o a0), .int (rc_o a1)] : List Value).toArray meth c cX8_on 2 wsX8_on RX8 G (rc_A G)) (hr : meth.sig.returnType = some .int)   (h : wX8_on G a0 a1 I post) : rc_g p l e rmX8_on s m ([.int (rc_o a0), .int (rc_o a1)] : List Value).toArray below meth c 0 0 (MQ below (rc_QI G post) ([.int (rc_o a0), .int (rc_o a1)] : List Value).toArray s 0 0 (rc_A G)) 2 G (rc_A G) 0 [(0, .int (rc_o a0)), (1, .int (rc_o a1))] [] I := by
  unfold wX8_on at h
  refine rc_sipush X dX8_on_0 (rc_b16 _ ⟨by decide, by decide⟩) ?_
  refine rc_iconst X dX8_on_3 ?_
  refine rc_iload_n X dX8_on_4 rfl 0 rfl ?_
  refine rc_imul X dX8_on_5 ?_
  refine rc_iadd X dX8_on_6 ?_
  refine rc_iload_n X dX8_on_7 rfl 1 rfl ?_
  refine rc_iadd X dX8_on_8 ?_
  exact rc_iret X hr dX8_on_9 h
theorem mX8_on {l : Launch} {G : rc_G} {a0 : Int} {a1 : Int} {I : rc_M} {post : Int → rc_M → Prop}  (h : wX8_on G a0 a1 I post) : rc_CI l yX8_on wsX8_on rmX8_on G [.int (rc_o a0), .int (rc_o a1)] I post :=
  rc_body (by decide +kernel) rfl rfl (Nat.le_of_ble_eq_true rfl) rfl (fun p e s m below meth c X hr => gX8_on_0 X hr  h)
/-! X8_reelOn -/
abbrev rmX8_reelOn : Room := { frames := 1, cells := 0, slots := 0, locals := 21 }
theorem dyX8_reelOn : yX8_reelOn.cls = RX8 ∧ yX8_reelOn.cls ≠ "java/lang/invoke/MethodHandle" ∧ yX8_reelOn.cls ≠ "java/lang/invoke/VarHandle" ∧ (parseMethodDescriptor yX8_reelOn.desc).map (fun d => d.parameters.length) = some 1 := ⟨rfl, by decide +kernel, by decide +kernel, by decide +kernel⟩
theorem qX8_reelOn_1 : Cond.fieldLink RX8 7 "ReelChangerModel" "v" "[I" ∈ wsX8_reelOn := List.mem_of_getElem? (i := 1) (by decide +kernel)
theorem nX8_reelOn_X8 : ∀ w ∈ wsX80, w ∈ wsX8_reelOn := fun w h => List.mem_cons_of_mem _ (List.mem_append_right _ (h))
def wX8_reelOn (G : rc_G) (a0 : Nat) (a1 : Int) (I : rc_M) (post : Int → rc_M → Prop) : Prop :=
  wX8_on G a1 1 I (fun r2 I1 => (0 ≤ r2 ∧ r2 < 199) ∧ ((0 ≤ 150 + (I1 (a0 + 1) r2) ∧ 150 + (I1 (a0 + 1) r2) < 199) ∧ (post (I1 (a0 + 1) (150 + (I1 (a0 + 1) r2))) I1)))
set_option maxRecDepth 100000 in
set_option maxHeartbeats 4000000 in
theorem gX8_reelOn_0 {p : Program} {l : Launch} {e : Env} {s : State} {m : MethodId} {below : List Frame} {meth : Method} {c : Code} {G : rc_G} {a0 : Nat} {a1 : Int} {I : rc_M} {post : Int → rc_M → Prop}  (X : rc_X p s m ([.ref a0, .int (rc_o a1)] : List Value).toArray meth c cX8_reelOn 2 wsX8_reelOn RX8 G (rc_A G)) (hr : meth.sig.returnType = some .int) (T0 : kX8 G a0)  (h : wX8_reelOn G a0 a1 I post) : rc_g p l e rmX8_reelOn s m ([.ref a0, .int (rc_o a1)] : List Value).toArray below meth c 0 0 (MQ below (rc_QI G post) ([.ref a0, .int (rc_o a1)] : List Value).toArray s 0 0 (rc_A G)) 2 G (rc_A G) 0 [(0, .ref a0), (1, .int (rc_o a1))] [] I := by
  unfold wX8_reelOn at h
  refine rc_aload_n X dX8_reelOn_0 rfl 0 rfl ?_
  refine gfX8_v X T0.1 nX8_reelOn_X8 qX8_reelOn_1 dX8_reelOn_1 ?_
  refine rc_sipush X dX8_reelOn_4 (rc_b16 _ ⟨by decide, by decide⟩) ?_
  refine rc_aload_n X dX8_reelOn_7 rfl 0 rfl ?_
  refine gfX8_v X T0.1 nX8_reelOn_X8 qX8_reelOn_1 dX8_reelOn_8 ?_
  refine rc_iload_n X dX8_reelOn_11 rfl 1 rfl ?_
  refine rc_iconst X dX8_reelOn_12 ?_
  refine rc_cSI (rest := [.ref (a0 + 1), .int (rc_o 150), .ref (a0 + 1)]) X (mX8_on  h) gX8_reelOn_X8_on rfl ⟨rfl, rfl⟩ dyX8_on ⟨Nat.le_of_ble_eq_true rfl, Nat.le_of_ble_eq_true rfl⟩ rfl rfl (Nat.le_of_ble_eq_true rfl) dX8_reelOn_13 ⟨Nat.zero_le _, Nat.zero_le _⟩ (fun r2 I1 h => ?_)
  obtain ⟨c3, h⟩ := h
  refine rc_iald X T0.2.1 (by decide) dX8_reelOn_16 c3 ?_
  refine rc_iadd X dX8_reelOn_17 ?_
  obtain ⟨c4, h⟩ := h
  refine rc_iald X T0.2.1 (by decide) dX8_reelOn_18 c4 ?_
  exact rc_iret X hr dX8_reelOn_19 h
theorem mX8_reelOn {l : Launch} {G : rc_G} {a0 : Nat} {a1 : Int} {I : rc_M} {post : Int → rc_M → Prop} (T0 : kX8 G a0) (h : wX8_reelOn G a0 a1 I post) : rc_CI l yX8_reelOn wsX8_reelOn rmX8_reelOn G [.ref a0, .int (rc_o a1)] I post :=
  rc_body (by decide +kernel) rfl rfl (Nat.le_of_ble_eq_true rfl) rfl (fun p e s m below meth c X hr => gX8_reelOn_0 X hr T0 h)
/-! X8_lengthOn -/
abbrev rmX8_lengthOn : Room := { frames := 2, cells := 0, slots := 0, locals := 42 }
theorem dyX8_lengthOn : yX8_lengthOn.cls = RX8 ∧ yX8_lengthOn.cls ≠ "java/lang/invoke/MethodHandle" ∧ yX8_lengthOn.cls ≠ "java/lang/invoke/VarHandle" ∧ (parseMethodDescriptor yX8_lengthOn.desc).map (fun d => d.parameters.length) = some 1 := ⟨rfl, by decide +kernel, by decide +kernel, by decide +kernel⟩
theorem qX8_lengthOn_1 : Cond.fieldLink RX8 7 "ReelChangerModel" "v" "[I" ∈ wsX8_lengthOn := List.mem_of_getElem? (i := 1) (by decide +kernel)
theorem nX8_lengthOn_X8 : ∀ w ∈ wsX80, w ∈ wsX8_lengthOn := fun w h => List.mem_cons_of_mem _ (List.mem_append_right _ (h))
def wX8_lengthOn (G : rc_G) (a0 : Nat) (a1 : Int) (I : rc_M) (post : Int → rc_M → Prop) : Prop :=
  wX8_reelOn G a0 a1 I (fun r2 I1 => wX8_at G r2 0 I1 (fun r4 I3 => (0 ≤ r4 ∧ r4 < 199) ∧ (post (I3 (a0 + 1) r4) I3)))
set_option maxRecDepth 100000 in
set_option maxHeartbeats 4000000 in
theorem gX8_lengthOn_0 {p : Program} {l : Launch} {e : Env} {s : State} {m : MethodId} {below : List Frame} {meth : Method} {c : Code} {G : rc_G} {a0 : Nat} {a1 : Int} {I : rc_M} {post : Int → rc_M → Prop}  (X : rc_X p s m ([.ref a0, .int (rc_o a1)] : List Value).toArray meth c cX8_lengthOn 2 wsX8_lengthOn RX8 G (rc_A G)) (hr : meth.sig.returnType = some .int) (T0 : kX8 G a0)  (h : wX8_lengthOn G a0 a1 I post) : rc_g p l e rmX8_lengthOn s m ([.ref a0, .int (rc_o a1)] : List Value).toArray below meth c 0 0 (MQ below (rc_QI G post) ([.ref a0, .int (rc_o a1)] : List Value).toArray s 0 0 (rc_A G)) 2 G (rc_A G) 0 [(0, .ref a0), (1, .int (rc_o a1))] [] I := by
  unfold wX8_lengthOn at h
  refine rc_aload_n X dX8_lengthOn_0 rfl 0 rfl ?_
  refine gfX8_v X T0.1 nX8_lengthOn_X8 qX8_lengthOn_1 dX8_lengthOn_1 ?_
  refine rc_aload_n X dX8_lengthOn_4 rfl 0 rfl ?_
  refine rc_iload_n X dX8_lengthOn_5 rfl 1 rfl ?_
  refine rc_cVI (rest := [.ref (a0 + 1)]) X (mX8_reelOn T0 h) gX8_lengthOn_X8_reelOn rfl ⟨rfl, rfl⟩ dyX8_reelOn ⟨Nat.le_of_ble_eq_true rfl, Nat.le_of_ble_eq_true rfl⟩ (rc_recv X T0.1 rfl) rfl rfl (Nat.le_of_ble_eq_true rfl) dX8_lengthOn_6 ⟨Nat.zero_le _, Nat.zero_le _⟩ (fun r2 I1 h => ?_)
  refine rc_iconst X dX8_lengthOn_9 ?_
  refine rc_cSI (rest := [.ref (a0 + 1)]) X (mX8_at  h) gX8_lengthOn_X8_at rfl ⟨rfl, rfl⟩ dyX8_at ⟨Nat.le_of_ble_eq_true rfl, Nat.le_of_ble_eq_true rfl⟩ rfl rfl (Nat.le_of_ble_eq_true rfl) dX8_lengthOn_10 ⟨Nat.zero_le _, Nat.zero_le _⟩ (fun r4 I3 h => ?_)
  obtain ⟨c5, h⟩ := h
  refine rc_iald X T0.2.1 (by decide) dX8_lengthOn_13 c5 ?_
  exact rc_iret X hr dX8_lengthOn_14 h
theorem mX8_lengthOn {l : Launch} {G : rc_G} {a0 : Nat} {a1 : Int} {I : rc_M} {post : Int → rc_M → Prop} (T0 : kX8 G a0) (h : wX8_lengthOn G a0 a1 I post) : rc_CI l yX8_lengthOn wsX8_lengthOn rmX8_lengthOn G [.ref a0, .int (rc_o a1)] I post :=
  rc_body (by decide +kernel) rfl rfl (Nat.le_of_ble_eq_true rfl) rfl (fun p e s m below meth c X hr => gX8_lengthOn_0 X hr T0 h)
/-! X8_comes -/
abbrev rmX8_comes : Room := { frames := 1, cells := 0, slots := 0, locals := 21 }
theorem dyX8_comes : yX8_comes.cls = RX8 ∧ yX8_comes.cls ≠ "java/lang/invoke/MethodHandle" ∧ yX8_comes.cls ≠ "java/lang/invoke/VarHandle" ∧ (parseMethodDescriptor yX8_comes.desc).map (fun d => d.parameters.length) = some 1 := ⟨rfl, by decide +kernel, by decide +kernel, by decide +kernel⟩
theorem qX8_comes_1 : Cond.fieldLink RX8 7 "ReelChangerModel" "v" "[I" ∈ wsX8_comes := List.mem_of_getElem? (i := 1) (by decide +kernel)
theorem nX8_comes_X8 : ∀ w ∈ wsX80, w ∈ wsX8_comes := fun w h => List.mem_cons_of_mem _ (List.mem_append_right _ (h))
def wX8_comes (G : rc_G) (a0 : Nat) (a1 : Int) (I : rc_M) (post : rc_M → Prop) : Prop :=
  wX8_on G a1 0 I (fun r2 I1 => (0 ≤ r2 ∧ r2 < 199) ∧ (∀ I4, I4 = rc_s I1 (a0 + 1) r2 1 → wX8_on G a1 1 I4 (fun r6 I5 => (0 ≤ r6 ∧ r6 < 199) ∧ (∀ I8, I8 = rc_s I5 (a0 + 1) r6 (I5 (a0 + 1) 170) → ∀ I9, I9 = rc_s I8 (a0 + 1) 170 ((I8 (a0 + 1) 170) + 1) → post I9))))
set_option maxRecDepth 100000 in
set_option maxHeartbeats 4000000 in
theorem gX8_comes_0 {p : Program} {l : Launch} {e : Env} {s : State} {m : MethodId} {below : List Frame} {meth : Method} {c : Code} {G : rc_G} {a0 : Nat} {a1 : Int} {I : rc_M} {post : rc_M → Prop}  (X : rc_X p s m ([.ref a0, .int (rc_o a1)] : List Value).toArray meth c cX8_comes 2 wsX8_comes RX8 G (rc_A G)) (hr : meth.sig.returnType = none) (T0 : kX8 G a0)  (h : wX8_comes G a0 a1 I post) : rc_g p l e rmX8_comes s m ([.ref a0, .int (rc_o a1)] : List Value).toArray below meth c 0 0 (MQ below (rc_QV G post) ([.ref a0, .int (rc_o a1)] : List Value).toArray s 0 0 (rc_A G)) 2 G (rc_A G) 0 [(0, .ref a0), (1, .int (rc_o a1))] [] I := by
  unfold wX8_comes at h
  refine rc_aload_n X dX8_comes_0 rfl 0 rfl ?_
  refine gfX8_v X T0.1 nX8_comes_X8 qX8_comes_1 dX8_comes_1 ?_
  refine rc_iload_n X dX8_comes_4 rfl 1 rfl ?_
  refine rc_iconst X dX8_comes_5 ?_
  refine rc_cSI (rest := [.ref (a0 + 1)]) X (mX8_on  h) gX8_comes_X8_on rfl ⟨rfl, rfl⟩ dyX8_on ⟨Nat.le_of_ble_eq_true rfl, Nat.le_of_ble_eq_true rfl⟩ rfl rfl (Nat.le_of_ble_eq_true rfl) dX8_comes_6 ⟨Nat.zero_le _, Nat.zero_le _⟩ (fun r2 I1 h => ?_)
  refine rc_iconst X dX8_comes_9 ?_
  obtain ⟨c3, h⟩ := h
  refine rc_iast X T0.2.1 (by decide) dX8_comes_10 c3 (fun I4 e4 => ?_)
  have h := h I4 e4
  refine rc_aload_n X dX8_comes_11 rfl 0 rfl ?_
  refine gfX8_v X T0.1 nX8_comes_X8 qX8_comes_1 dX8_comes_12 ?_
  refine rc_iload_n X dX8_comes_15 rfl 1 rfl ?_
  refine rc_iconst X dX8_comes_16 ?_
  refine rc_cSI (rest := [.ref (a0 + 1)]) X (mX8_on  h) gX8_comes_X8_on rfl ⟨rfl, rfl⟩ dyX8_on ⟨Nat.le_of_ble_eq_true rfl, Nat.le_of_ble_eq_true rfl⟩ rfl rfl (Nat.le_of_ble_eq_true rfl) dX8_comes_17 ⟨Nat.zero_le _, Nat.zero_le _⟩ (fun r6 I5 h => ?_)
  refine rc_aload_n X dX8_comes_20 rfl 0 rfl ?_
  refine gfX8_v X T0.1 nX8_comes_X8 qX8_comes_1 dX8_comes_21 ?_
  refine rc_sipush X dX8_comes_24 (rc_b16 _ ⟨by decide, by decide⟩) ?_
  refine rc_iald X T0.2.1 (by decide) dX8_comes_27 ⟨by decide, by decide⟩ ?_
  obtain ⟨c7, h⟩ := h
  refine rc_iast X T0.2.1 (by decide) dX8_comes_28 c7 (fun I8 e8 => ?_)
  have h := h I8 e8
  refine rc_aload_n X dX8_comes_29 rfl 0 rfl ?_
  refine gfX8_v X T0.1 nX8_comes_X8 qX8_comes_1 dX8_comes_30 ?_
  refine rc_sipush X dX8_comes_33 (rc_b16 _ ⟨by decide, by decide⟩) ?_
  refine rc_dup2 X dX8_comes_36 rfl rfl ?_
  refine rc_iald X T0.2.1 (by decide) dX8_comes_37 ⟨by decide, by decide⟩ ?_
  refine rc_iconst X dX8_comes_38 ?_
  refine rc_iadd X dX8_comes_39 ?_
  refine rc_iast X T0.2.1 (by decide) dX8_comes_40 ⟨by decide, by decide⟩ (fun I9 e9 => ?_)
  have h := h I9 e9
  exact rc_vret X hr dX8_comes_41 h
theorem mX8_comes {l : Launch} {G : rc_G} {a0 : Nat} {a1 : Int} {I : rc_M} {post : rc_M → Prop} (T0 : kX8 G a0) (h : wX8_comes G a0 a1 I post) : rc_CV l yX8_comes wsX8_comes rmX8_comes G [.ref a0, .int (rc_o a1)] I post :=
  rc_body (by decide +kernel) rfl rfl (Nat.le_of_ble_eq_true rfl) rfl (fun p e s m below meth c X hr => gX8_comes_0 X hr T0 h)
/-! X8_opens -/
abbrev rmX8_opens : Room := { frames := 2, cells := 0, slots := 0, locals := 42 }
theorem dyX8_opens : yX8_opens.cls = RX8 ∧ yX8_opens.cls ≠ "java/lang/invoke/MethodHandle" ∧ yX8_opens.cls ≠ "java/lang/invoke/VarHandle" ∧ (parseMethodDescriptor yX8_opens.desc).map (fun d => d.parameters.length) = some 0 := ⟨rfl, by decide +kernel, by decide +kernel, by decide +kernel⟩
theorem qX8_opens_1 : Cond.fieldLink RX8 7 "ReelChangerModel" "v" "[I" ∈ wsX8_opens := List.mem_of_getElem? (i := 1) (by decide +kernel)
theorem nX8_opens_X8 : ∀ w ∈ wsX80, w ∈ wsX8_opens := fun w h => List.mem_cons_of_mem _ (List.mem_append_right _ (h))
def wX8_opens_4 (G : rc_G) (post : rc_M → Prop) (a0 : Nat) (k4 : Int → rc_M → Prop) (x1 : Int) (I : rc_M) : Prop :=
  rc_R x1 ∧ ((199 ≤ x1 → ∀ I3, I3 = rc_s I (a0 + 1) 162 1 → ∀ I4, I4 = rc_s I3 (a0 + 1) 172 (-1) → wX8_comes G a0 0 I4 (fun I5 => wX8_on G 0 0 I5 (fun r7 I6 => (0 ≤ r7 ∧ r7 < 199) ∧ (∀ I9, I9 = rc_s I6 (a0 + 1) r7 3 → wX8_on G 0 2 I9 (fun r11 I10 => (0 ≤ r11 ∧ r11 < 199) ∧ (∀ I13, I13 = rc_s I10 (a0 + 1) r11 0 → rc_R (I13 (a0 + 1) 149) ∧ (((I13 (a0 + 1) 149) ≤ 1 → post I13) ∧ (¬ (I13 (a0 + 1) 149) ≤ 1 → wX8_comes G a0 1 I13 (fun I16 => post I16))))))))) ∧ (¬ 199 ≤ x1 → (0 ≤ x1 ∧ x1 < 199) ∧ (∀ I18, I18 = rc_s I (a0 + 1) x1 0 → k4 (x1 + 1) I18)))
set_option maxRecDepth 100000 in
set_option maxHeartbeats 4000000 in
theorem gX8_opens_4 {p : Program} {l : Launch} {e : Env} {s : State} {m : MethodId} {below : List Frame} {meth : Method} {c : Code} {G : rc_G} {a0 : Nat} {I : rc_M} {post : rc_M → Prop} {k4 : Int → rc_M → Prop} {x1 : Int} (X : rc_X p s m ([.ref a0] : List Value).toArray meth c cX8_opens 2 wsX8_opens RX8 G (rc_A G)) (hr : meth.sig.returnType = none) (T0 : kX8 G a0) (hk4 : ∀ (x1 : Int) (J : rc_M), k4 x1 J → rc_g p l e rmX8_opens s m ([.ref a0] : List Value).toArray below meth c 0 0 (MQ below (rc_QV G post) ([.ref a0] : List Value).toArray s 0 0 (rc_A G)) 2 G (rc_A G) 4 [(0, .ref a0), (1, .int (rc_o x1))] [] J)  (h : wX8_opens_4 G post a0 k4 x1 I) : rc_g p l e rmX8_opens s m ([.ref a0] : List Value).toArray below meth c 0 0 (MQ below (rc_QV G post) ([.ref a0] : List Value).toArray s 0 0 (rc_A G)) 2 G (rc_A G) 4 [(0, .ref a0), (1, .int (rc_o x1))] [] I := by
  unfold wX8_opens_4 at h
  refine rc_iload_n X dX8_opens_4 rfl 1 rfl ?_
  refine rc_sipush X dX8_opens_5 (rc_b16 _ ⟨by decide, by decide⟩) ?_
  obtain ⟨c1, h⟩ := h
  refine rc_ic_ge X 24 dX8_opens_8 (by decide) c1 ⟨by decide, by decide⟩ (fun c2 => ?_) (fun c2 => ?_)
  · have h := h.1 c2
    refine rc_aload_n X dX8_opens_24 rfl 0 rfl ?_
    refine gfX8_v X T0.1 nX8_opens_X8 qX8_opens_1 dX8_opens_25 ?_
    refine rc_sipush X dX8_opens_28 (rc_b16 _ ⟨by decide, by decide⟩) ?_
    refine rc_iconst X dX8_opens_31 ?_
    refine rc_iast X T0.2.1 (by decide) dX8_opens_32 ⟨by decide, by decide⟩ (fun I3 e3 => ?_)
    have h := h I3 e3
    refine rc_aload_n X dX8_opens_33 rfl 0 rfl ?_
    refine gfX8_v X T0.1 nX8_opens_X8 qX8_opens_1 dX8_opens_34 ?_
    refine rc_sipush X dX8_opens_37 (rc_b16 _ ⟨by decide, by decide⟩) ?_
    refine rc_iconst X dX8_opens_40 ?_
    refine rc_iast X T0.2.1 (by decide) dX8_opens_41 ⟨by decide, by decide⟩ (fun I4 e4 => ?_)
    have h := h I4 e4
    refine rc_aload_n X dX8_opens_42 rfl 0 rfl ?_
    refine rc_iconst X dX8_opens_43 ?_
    refine rc_cVV (rest := []) X (mX8_comes T0 h) gX8_opens_X8_comes rfl ⟨rfl, rfl⟩ dyX8_comes ⟨Nat.le_of_ble_eq_true rfl, Nat.le_of_ble_eq_true rfl⟩ (rc_recv X T0.1 rfl) rfl rfl (Nat.le_of_ble_eq_true rfl) dX8_opens_44 ⟨Nat.zero_le _, Nat.zero_le _⟩ (fun I5 h => ?_)
    refine rc_aload_n X dX8_opens_47 rfl 0 rfl ?_
    refine gfX8_v X T0.1 nX8_opens_X8 qX8_opens_1 dX8_opens_48 ?_
    refine rc_iconst X dX8_opens_51 ?_
    refine rc_iconst X dX8_opens_52 ?_
    refine rc_cSI (rest := [.ref (a0 + 1)]) X (mX8_on  h) gX8_opens_X8_on rfl ⟨rfl, rfl⟩ dyX8_on ⟨Nat.le_of_ble_eq_true rfl, Nat.le_of_ble_eq_true rfl⟩ rfl rfl (Nat.le_of_ble_eq_true rfl) dX8_opens_53 ⟨Nat.zero_le _, Nat.zero_le _⟩ (fun r7 I6 h => ?_)
    refine rc_iconst X dX8_opens_56 ?_
    obtain ⟨c8, h⟩ := h
    refine rc_iast X T0.2.1 (by decide) dX8_opens_57 c8 (fun I9 e9 => ?_)
    have h := h I9 e9
    refine rc_aload_n X dX8_opens_58 rfl 0 rfl ?_
    refine gfX8_v X T0.1 nX8_opens_X8 qX8_opens_1 dX8_opens_59 ?_
    refine rc_iconst X dX8_opens_62 ?_
    refine rc_iconst X dX8_opens_63 ?_
    refine rc_cSI (rest := [.ref (a0 + 1)]) X (mX8_on  h) gX8_opens_X8_on rfl ⟨rfl, rfl⟩ dyX8_on ⟨Nat.le_of_ble_eq_true rfl, Nat.le_of_ble_eq_true rfl⟩ rfl rfl (Nat.le_of_ble_eq_true rfl) dX8_opens_64 ⟨Nat.zero_le _, Nat.zero_le _⟩ (fun r11 I10 h => ?_)
    refine rc_iconst X dX8_opens_67 ?_
    obtain ⟨c12, h⟩ := h
    refine rc_iast X T0.2.1 (by decide) dX8_opens_68 c12 (fun I13 e13 => ?_)
    have h := h I13 e13
    refine rc_aload_n X dX8_opens_69 rfl 0 rfl ?_
    refine gfX8_v X T0.1 nX8_opens_X8 qX8_opens_1 dX8_opens_70 ?_
    refine rc_sipush X dX8_opens_73 (rc_b16 _ ⟨by decide, by decide⟩) ?_
    refine rc_iald X T0.2.1 (by decide) dX8_opens_76 ⟨by decide, by decide⟩ ?_
    refine rc_iconst X dX8_opens_77 ?_
    obtain ⟨c14, h⟩ := h
    refine rc_ic_le X 86 dX8_opens_78 (by decide) c14 ⟨by decide, by decide⟩ (fun c15 => ?_) (fun c15 => ?_)
    · have h := h.1 c15
      exact rc_vret X hr dX8_opens_86 h
    · have h := h.2 c15
      refine rc_aload_n X dX8_opens_81 rfl 0 rfl ?_
      refine rc_iconst X dX8_opens_82 ?_
      refine rc_cVV (rest := []) X (mX8_comes T0 h) gX8_opens_X8_comes rfl ⟨rfl, rfl⟩ dyX8_comes ⟨Nat.le_of_ble_eq_true rfl, Nat.le_of_ble_eq_true rfl⟩ (rc_recv X T0.1 rfl) rfl rfl (Nat.le_of_ble_eq_true rfl) dX8_opens_83 ⟨Nat.zero_le _, Nat.zero_le _⟩ (fun I16 h => ?_)
      exact rc_vret X hr dX8_opens_86 h
  · have h := h.2 c2
    refine rc_aload_n X dX8_opens_11 rfl 0 rfl ?_
    refine gfX8_v X T0.1 nX8_opens_X8 qX8_opens_1 dX8_opens_12 ?_
    refine rc_iload_n X dX8_opens_15 rfl 1 rfl ?_
    refine rc_iconst X dX8_opens_16 ?_
    obtain ⟨c17, h⟩ := h
    refine rc_iast X T0.2.1 (by decide) dX8_opens_17 c17 (fun I18 e18 => ?_)
    have h := h I18 e18
    refine rc_iinc X [(1, .int (rc_o (x1 + 1))), (0, .ref a0)] dX8_opens_18 1 rfl (by decide) rfl ?_
    refine rc_goto X 4 dX8_opens_21 (by decide) ?_
    refine rc_subl [(0, .ref a0), (1, .int (rc_o (x1 + 1)))] [1, 0] rfl ?_
    exact hk4 _ _ h
noncomputable def rX8_opens_4 (G : rc_G) (post : rc_M → Prop) (a0 : Nat)  (n : Nat) : Int → rc_M → Prop :=
  Nat.rec (motive := fun _ => Int → rc_M → Prop) (fun _ _ => False) (fun _ ih => wX8_opens_4 G post a0  ih) n
set_option maxRecDepth 100000 in
set_option maxHeartbeats 4000000 in
theorem sX8_opens_4 {p : Program} {l : Launch} {e : Env} {s : State} {m : MethodId} {below : List Frame} {meth : Method} {c : Code} {G : rc_G} {a0 : Nat} {I : rc_M} {post : rc_M → Prop}  {n : Nat} {x1 : Int} (X : rc_X p s m ([.ref a0] : List Value).toArray meth c cX8_opens 2 wsX8_opens RX8 G (rc_A G)) (hr : meth.sig.returnType = none) (T0 : kX8 G a0)  (h : rX8_opens_4 G post a0  n x1 I) : rc_g p l e rmX8_opens s m ([.ref a0] : List Value).toArray below meth c 0 0 (MQ below (rc_QV G post) ([.ref a0] : List Value).toArray s 0 0 (rc_A G)) 2 G (rc_A G) 4 [(0, .ref a0), (1, .int (rc_o x1))] [] I := by
  induction n generalizing x1 I with
  | zero => exact h.elim
  | succ n ih => exact gX8_opens_4 (k4 := rX8_opens_4 G post a0  n) X hr T0  (fun x1 J h2 => ih h2) h
def wX8_opens (G : rc_G) (a0 : Nat) (I : rc_M) (post : rc_M → Prop) : Prop :=
  ∃ n, rX8_opens_4 G post a0  n 162 I
set_option maxRecDepth 100000 in
set_option maxHeartbeats 4000000 in
theorem gX8_opens_0 {p : Program} {l : Launch} {e : Env} {s : State} {m : MethodId} {below : List Frame} {meth : Method} {c : Code} {G : rc_G} {a0 : Nat} {I : rc_M} {post : rc_M → Prop}  (X : rc_X p s m ([.ref a0] : List Value).toArray meth c cX8_opens 2 wsX8_opens RX8 G (rc_A G)) (hr : meth.sig.returnType = none) (T0 : kX8 G a0)  (h : wX8_opens G a0 I post) : rc_g p l e rmX8_opens s m ([.ref a0] : List Value).toArray below meth c 0 0 (MQ below (rc_QV G post) ([.ref a0] : List Value).toArray s 0 0 (rc_A G)) 2 G (rc_A G) 0 [(0, .ref a0)] [] I := by
  unfold wX8_opens at h
  refine rc_sipush X dX8_opens_0 (rc_b16 _ ⟨by decide, by decide⟩) ?_
  refine rc_istore_n X [(1, .int (rc_o 162)), (0, .ref a0)] dX8_opens_3 rfl (by decide) rfl ?_
  refine rc_subl [(0, .ref a0), (1, .int (rc_o 162))] [1, 0] rfl ?_
  obtain ⟨n, h⟩ := h
  exact sX8_opens_4 X hr T0  h
theorem mX8_opens {l : Launch} {G : rc_G} {a0 : Nat} {I : rc_M} {post : rc_M → Prop} (T0 : kX8 G a0) (h : wX8_opens G a0 I post) : rc_CV l yX8_opens wsX8_opens rmX8_opens G [.ref a0] I post :=
  rc_body (by decide +kernel) rfl rfl (Nat.le_of_ble_eq_true rfl) rfl (fun p e s m below meth c X hr => gX8_opens_0 X hr T0 h)
/-! X8_begin -/
abbrev rmX8_begin : Room := { frames := 3, cells := 0, slots := 0, locals := 63 }
theorem dyX8_begin : yX8_begin.cls = RX8 ∧ yX8_begin.cls ≠ "java/lang/invoke/MethodHandle" ∧ yX8_begin.cls ≠ "java/lang/invoke/VarHandle" ∧ (parseMethodDescriptor yX8_begin.desc).map (fun d => d.parameters.length) = some 0 := ⟨rfl, by decide +kernel, by decide +kernel, by decide +kernel⟩
theorem qX8_begin_1 : Cond.fieldLink RX8 7 "ReelChangerModel" "v" "[I" ∈ wsX8_begin := List.mem_of_getElem? (i := 1) (by decide +kernel)
theorem nX8_begin_X8 : ∀ w ∈ wsX80, w ∈ wsX8_begin := fun w h => List.mem_cons_of_mem _ (List.mem_append_right _ (h))
theorem qX8_begin_2 : Cond.constant RX8 103 (-100003) ∈ wsX8_begin := List.mem_of_getElem? (i := 2) (by decide +kernel)
def wX8_begin (G : rc_G) (a0 : Nat) (I : rc_M) (post : Int → rc_M → Prop) : Prop :=
  rc_R (I (a0 + 1) 149) ∧ ((¬ (I (a0 + 1) 149) = 0 → wX8_opens G a0 I (fun I3 => post (I3 (a0 + 1) 149) I3)) ∧ ((I (a0 + 1) 149) = 0 → post (-100003) I))
set_option maxRecDepth 100000 in
set_option maxHeartbeats 4000000 in
theorem gX8_begin_0 {p : Program} {l : Launch} {e : Env} {s : State} {m : MethodId} {below : List Frame} {meth : Method} {c : Code} {G : rc_G} {a0 : Nat} {I : rc_M} {post : Int → rc_M → Prop}  (X : rc_X p s m ([.ref a0] : List Value).toArray meth c cX8_begin 1 wsX8_begin RX8 G (rc_A G)) (hr : meth.sig.returnType = some .int) (T0 : kX8 G a0)  (h : wX8_begin G a0 I post) : rc_g p l e rmX8_begin s m ([.ref a0] : List Value).toArray below meth c 0 0 (MQ below (rc_QI G post) ([.ref a0] : List Value).toArray s 0 0 (rc_A G)) 1 G (rc_A G) 0 [(0, .ref a0)] [] I := by
  unfold wX8_begin at h
  refine rc_aload_n X dX8_begin_0 rfl 0 rfl ?_
  refine gfX8_v X T0.1 nX8_begin_X8 qX8_begin_1 dX8_begin_1 ?_
  refine rc_sipush X dX8_begin_4 (rc_b16 _ ⟨by decide, by decide⟩) ?_
  refine rc_iald X T0.2.1 (by decide) dX8_begin_7 ⟨by decide, by decide⟩ ?_
  obtain ⟨c1, h⟩ := h
  refine rc_if_ne X 14 dX8_begin_8 (by decide) c1 (fun c2 => ?_) (fun c2 => ?_)
  · have h := h.1 c2
    refine rc_aload_n X dX8_begin_14 rfl 0 rfl ?_
    refine rc_cVV (rest := []) X (mX8_opens T0 h) gX8_begin_X8_opens rfl ⟨rfl, rfl⟩ dyX8_opens ⟨Nat.le_of_ble_eq_true rfl, Nat.le_of_ble_eq_true rfl⟩ (rc_recv X T0.1 rfl) rfl rfl (Nat.le_of_ble_eq_true rfl) dX8_begin_15 ⟨Nat.zero_le _, Nat.zero_le _⟩ (fun I3 h => ?_)
    refine rc_aload_n X dX8_begin_18 rfl 0 rfl ?_
    refine gfX8_v X T0.1 nX8_begin_X8 qX8_begin_1 dX8_begin_19 ?_
    refine rc_sipush X dX8_begin_22 (rc_b16 _ ⟨by decide, by decide⟩) ?_
    refine rc_iald X T0.2.1 (by decide) dX8_begin_25 ⟨by decide, by decide⟩ ?_
    exact rc_iret X hr dX8_begin_26 h
  · have h := h.2 c2
    refine rc_ldc (n := (-100003)) X qX8_begin_2 (by decide +kernel) dX8_begin_11 ?_
    exact rc_iret X hr dX8_begin_13 h
theorem mX8_begin {l : Launch} {G : rc_G} {a0 : Nat} {I : rc_M} {post : Int → rc_M → Prop} (T0 : kX8 G a0) (h : wX8_begin G a0 I post) : rc_CI l yX8_begin wsX8_begin rmX8_begin G [.ref a0] I post :=
  rc_body (by decide +kernel) rfl rfl (Nat.le_of_ble_eq_true rfl) rfl (fun p e s m below meth c X hr => gX8_begin_0 X hr T0 h)
/-! X8_ticksFor -/
abbrev rmX8_ticksFor : Room := { frames := 3, cells := 0, slots := 0, locals := 63 }
theorem dyX8_ticksFor : yX8_ticksFor.cls = RX8 ∧ yX8_ticksFor.cls ≠ "java/lang/invoke/MethodHandle" ∧ yX8_ticksFor.cls ≠ "java/lang/invoke/VarHandle" ∧ (parseMethodDescriptor yX8_ticksFor.desc).map (fun d => d.parameters.length) = some 1 := ⟨rfl, by decide +kernel, by decide +kernel, by decide +kernel⟩
theorem qX8_ticksFor_1 : Cond.fieldLink RX8 7 "ReelChangerModel" "v" "[I" ∈ wsX8_ticksFor := List.mem_of_getElem? (i := 1) (by decide +kernel)
theorem nX8_ticksFor_X8 : ∀ w ∈ wsX80, w ∈ wsX8_ticksFor := fun w h => List.mem_cons_of_mem _ (List.mem_append_right _ (h))
def wX8_ticksFor (G : rc_G) (a0 : Nat) (a1 : Int) (I : rc_M) (post : Int → rc_M → Prop) : Prop :=
  (0 ≤ a1 ∧ a1 < 2147483648) ∧ ((0 ≤ a1 ∧ a1 < 2147483648) ∧ (rc_R (a1 % 3) ∧ ((¬ (a1 % 3) = 1 → (0 ≤ a1 ∧ a1 < 2147483648) ∧ (rc_R (a1 % 3) ∧ ((¬ (a1 % 3) = 2 → wX8_lengthOn G a0 (a1 / 3) I (fun r9 I8 => (0 ≤ ((r9 + (I8 (a0 + 1) 145)) - 1) ∧ ((r9 + (I8 (a0 + 1) 145)) - 1) < 2147483648) ∧ ((0 < (I8 (a0 + 1) 145) ∧ (I8 (a0 + 1) 145) < 2147483648) ∧ (post ((I (a0 + 1) 144) + (((r9 + (I8 (a0 + 1) 145)) - 1) / (I8 (a0 + 1) 145))) I8)))) ∧ ((a1 % 3) = 2 → post (I (a0 + 1) 147) I)))) ∧ ((a1 % 3) = 1 → post (I (a0 + 1) 146) I))))
set_option maxRecDepth 100000 in
set_option maxHeartbeats 4000000 in
theorem gX8_ticksFor_0 {p : Program} {l : Launch} {e : Env} {s : State} {m : MethodId} {below : List Frame} {meth : Method} {c : Code} {G : rc_G} {a0 : Nat} {a1 : Int} {I : rc_M} {post : Int → rc_M → Prop}  (X : rc_X p s m ([.ref a0, .int (rc_o a1)] : List Value).toArray meth c cX8_ticksFor 3 wsX8_ticksFor RX8 G (rc_A G)) (hr : meth.sig.returnType = some .int) (T0 : kX8 G a0)  (h : wX8_ticksFor G a0 a1 I post) : rc_g p l e rmX8_ticksFor s m ([.ref a0, .int (rc_o a1)] : List Value).toArray below meth c 0 0 (MQ below (rc_QI G post) ([.ref a0, .int (rc_o a1)] : List Value).toArray s 0 0 (rc_A G)) 3 G (rc_A G) 0 [(0, .ref a0), (1, .int (rc_o a1))] [] I := by
  unfold wX8_ticksFor at h
  refine rc_iload_n X dX8_ticksFor_0 rfl 1 rfl ?_
  refine rc_iconst X dX8_ticksFor_1 ?_
  obtain ⟨c1, h⟩ := h
  refine rc_idiv X dX8_ticksFor_2 c1 ⟨by decide, by decide⟩ ?_
  refine rc_istore_n X [(2, .int (rc_o (a1 / 3))), (0, .ref a0), (1, .int (rc_o a1))] dX8_ticksFor_3 rfl (by decide) rfl ?_
  refine rc_iload_n X dX8_ticksFor_4 rfl 2 rfl ?_
  refine rc_iconst X dX8_ticksFor_5 ?_
  obtain ⟨c2, h⟩ := h
  refine rc_irem X dX8_ticksFor_6 c2 ⟨by decide, by decide⟩ ?_
  refine rc_iconst X dX8_ticksFor_7 ?_
  obtain ⟨c3, h⟩ := h
  refine rc_ic_ne X 20 dX8_ticksFor_8 (by decide) c3 ⟨by decide, by decide⟩ (fun c4 => ?_) (fun c4 => ?_)
  · have h := h.1 c4
    refine rc_iload_n X dX8_ticksFor_20 rfl 2 rfl ?_
    refine rc_iconst X dX8_ticksFor_21 ?_
    obtain ⟨c5, h⟩ := h
    refine rc_irem X dX8_ticksFor_22 c5 ⟨by decide, by decide⟩ ?_
    refine rc_iconst X dX8_ticksFor_23 ?_
    obtain ⟨c6, h⟩ := h
    refine rc_ic_ne X 36 dX8_ticksFor_24 (by decide) c6 ⟨by decide, by decide⟩ (fun c7 => ?_) (fun c7 => ?_)
    · have h := h.1 c7
      refine rc_aload_n X dX8_ticksFor_36 rfl 1 rfl ?_
      refine gfX8_v X T0.1 nX8_ticksFor_X8 qX8_ticksFor_1 dX8_ticksFor_37 ?_
      refine rc_sipush X dX8_ticksFor_40 (rc_b16 _ ⟨by decide, by decide⟩) ?_
      refine rc_iald X T0.2.1 (by decide) dX8_ticksFor_43 ⟨by decide, by decide⟩ ?_
      refine rc_aload_n X dX8_ticksFor_44 rfl 1 rfl ?_
      refine rc_iload_n X dX8_ticksFor_45 rfl 0 rfl ?_
      refine rc_cVI (rest := [.int (rc_o (I (a0 + 1) 144))]) X (mX8_lengthOn T0 h) gX8_ticksFor_X8_lengthOn rfl ⟨rfl, rfl⟩ dyX8_lengthOn ⟨Nat.le_of_ble_eq_true rfl, Nat.le_of_ble_eq_true rfl⟩ (rc_recv X T0.1 rfl) rfl rfl (Nat.le_of_ble_eq_true rfl) dX8_ticksFor_46 ⟨Nat.zero_le _, Nat.zero_le _⟩ (fun r9 I8 h => ?_)
      refine rc_aload_n X dX8_ticksFor_49 rfl 1 rfl ?_
      refine gfX8_v X T0.1 nX8_ticksFor_X8 qX8_ticksFor_1 dX8_ticksFor_50 ?_
      refine rc_sipush X dX8_ticksFor_53 (rc_b16 _ ⟨by decide, by decide⟩) ?_
      refine rc_iald X T0.2.1 (by decide) dX8_ticksFor_56 ⟨by decide, by decide⟩ ?_
      refine rc_iadd X dX8_ticksFor_57 ?_
      refine rc_iconst X dX8_ticksFor_58 ?_
      refine rc_isub X dX8_ticksFor_59 ?_
      refine rc_aload_n X dX8_ticksFor_60 rfl 1 rfl ?_
      refine gfX8_v X T0.1 nX8_ticksFor_X8 qX8_ticksFor_1 dX8_ticksFor_61 ?_
      refine rc_sipush X dX8_ticksFor_64 (rc_b16 _ ⟨by decide, by decide⟩) ?_
      refine rc_iald X T0.2.1 (by decide) dX8_ticksFor_67 ⟨by decide, by decide⟩ ?_
      obtain ⟨c10, h⟩ := h
      obtain ⟨c11, h⟩ := h
      refine rc_idiv X dX8_ticksFor_68 c10 c11 ?_
      refine rc_iadd X dX8_ticksFor_69 ?_
      exact rc_iret X hr dX8_ticksFor_70 h
    · have h := h.2 c7
      refine rc_aload_n X dX8_ticksFor_27 rfl 1 rfl ?_
      refine gfX8_v X T0.1 nX8_ticksFor_X8 qX8_ticksFor_1 dX8_ticksFor_28 ?_
      refine rc_sipush X dX8_ticksFor_31 (rc_b16 _ ⟨by decide, by decide⟩) ?_
      refine rc_iald X T0.2.1 (by decide) dX8_ticksFor_34 ⟨by decide, by decide⟩ ?_
      exact rc_iret X hr dX8_ticksFor_35 h
  · have h := h.2 c4
    refine rc_aload_n X dX8_ticksFor_11 rfl 1 rfl ?_
    refine gfX8_v X T0.1 nX8_ticksFor_X8 qX8_ticksFor_1 dX8_ticksFor_12 ?_
    refine rc_sipush X dX8_ticksFor_15 (rc_b16 _ ⟨by decide, by decide⟩) ?_
    refine rc_iald X T0.2.1 (by decide) dX8_ticksFor_18 ⟨by decide, by decide⟩ ?_
    exact rc_iret X hr dX8_ticksFor_19 h
theorem mX8_ticksFor {l : Launch} {G : rc_G} {a0 : Nat} {a1 : Int} {I : rc_M} {post : Int → rc_M → Prop} (T0 : kX8 G a0) (h : wX8_ticksFor G a0 a1 I post) : rc_CI l yX8_ticksFor wsX8_ticksFor rmX8_ticksFor G [.ref a0, .int (rc_o a1)] I post :=
  rc_body (by decide +kernel) rfl rfl (Nat.le_of_ble_eq_true rfl) rfl (fun p e s m below meth c X hr => gX8_ticksFor_0 X hr T0 h)
/-! X8_finishes -/
abbrev rmX8_finishes : Room := { frames := 3, cells := 0, slots := 0, locals := 67 }
theorem dyX8_finishes : yX8_finishes.cls = RX8 ∧ yX8_finishes.cls ≠ "java/lang/invoke/MethodHandle" ∧ yX8_finishes.cls ≠ "java/lang/invoke/VarHandle" ∧ (parseMethodDescriptor yX8_finishes.desc).map (fun d => d.parameters.length) = some 1 := ⟨rfl, by decide +kernel, by decide +kernel, by decide +kernel⟩
theorem qX8_finishes_1 : Cond.fieldLink RX8 7 "ReelChangerModel" "v" "[I" ∈ wsX8_finishes := List.mem_of_getElem? (i := 1) (by decide +kernel)
theorem nX8_finishes_X8 : ∀ w ∈ wsX80, w ∈ wsX8_finishes := fun w h => List.mem_cons_of_mem _ (List.mem_append_right _ (h))
def wX8_finishes_97 (G : rc_G) (post : rc_M → Prop) (a0 : Nat) (a1 : Int)  (x2 : Int) (y0 : Int) (y1 : Int) (I : rc_M) : Prop :=
  (0 ≤ y1 ∧ y1 < 199) ∧ (∀ I25, I25 = rc_s I (a0 + 1) y1 y0 → wX8_reelOn G a0 x2 I25 (fun r27 I26 => wX8_on G x2 3 I26 (fun r29 I28 => (0 ≤ r29 ∧ r29 < 199) ∧ (wX8_strengthAt G a0 r27 (I28 (a0 + 1) r29) I28 (fun r32 I31 => rc_R r32 ∧ ((r32 < 0 → post I31) ∧ (¬ r32 < 0 → (0 ≤ r32 ∧ r32 < 199) ∧ (∀ I36, I36 = rc_s I31 (a0 + 1) r32 9 → post I36))))))))
set_option maxRecDepth 100000 in
set_option maxHeartbeats 4000000 in
theorem gX8_finishes_97 {p : Program} {l : Launch} {e : Env} {s : State} {m : MethodId} {below : List Frame} {meth : Method} {c : Code} {G : rc_G} {a0 : Nat} {a1 : Int} {I : rc_M} {post : rc_M → Prop}  {x2 : Int} {y0 : Int} {y1 : Int} (X : rc_X p s m ([.ref a0, .int (rc_o a1)] : List Value).toArray meth c cX8_finishes 5 wsX8_finishes RX8 G (rc_A G)) (hr : meth.sig.returnType = none) (T0 : kX8 G a0)   (h : wX8_finishes_97 G post a0 a1  x2 y0 y1 I) : rc_g p l e rmX8_finishes s m ([.ref a0, .int (rc_o a1)] : List Value).toArray below meth c 0 0 (MQ below (rc_QV G post) ([.ref a0, .int (rc_o a1)] : List Value).toArray s 0 0 (rc_A G)) 5 G (rc_A G) 97 [(0, .ref a0), (2, .int (rc_o x2))] [.int (rc_o y0), .int (rc_o y1), .ref (a0 + 1)] I := by
  unfold wX8_finishes_97 at h
  obtain ⟨c24, h⟩ := h
  refine rc_iast X T0.2.1 (by decide) dX8_finishes_97 c24 (fun I25 e25 => ?_)
  have h := h I25 e25
  refine rc_aload_n X dX8_finishes_98 rfl 0 rfl ?_
  refine rc_aload_n X dX8_finishes_99 rfl 0 rfl ?_
  refine rc_iload_n X dX8_finishes_100 rfl 1 rfl ?_
  refine rc_cVI (rest := [.ref a0]) X (mX8_reelOn T0 h) gX8_finishes_X8_reelOn rfl ⟨rfl, rfl⟩ dyX8_reelOn ⟨Nat.le_of_ble_eq_true rfl, Nat.le_of_ble_eq_true rfl⟩ (rc_recv X T0.1 rfl) rfl rfl (Nat.le_of_ble_eq_true rfl) dX8_finishes_101 ⟨Nat.zero_le _, Nat.zero_le _⟩ (fun r27 I26 h => ?_)
  refine rc_aload_n X dX8_finishes_104 rfl 0 rfl ?_
  refine gfX8_v X T0.1 nX8_finishes_X8 qX8_finishes_1 dX8_finishes_105 ?_
  refine rc_iload_n X dX8_finishes_108 rfl 1 rfl ?_
  refine rc_iconst X dX8_finishes_109 ?_
  refine rc_cSI (rest := [.ref (a0 + 1), .int (rc_o r27), .ref a0]) X (mX8_on  h) gX8_finishes_X8_on rfl ⟨rfl, rfl⟩ dyX8_on ⟨Nat.le_of_ble_eq_true rfl, Nat.le_of_ble_eq_true rfl⟩ rfl rfl (Nat.le_of_ble_eq_true rfl) dX8_finishes_110 ⟨Nat.zero_le _, Nat.zero_le _⟩ (fun r29 I28 h => ?_)
  obtain ⟨c30, h⟩ := h
  refine rc_iald X T0.2.1 (by decide) dX8_finishes_113 c30 ?_
  refine rc_cVI (rest := []) X (mX8_strengthAt T0 h) gX8_finishes_X8_strengthAt rfl ⟨rfl, rfl⟩ dyX8_strengthAt ⟨Nat.le_of_ble_eq_true rfl, Nat.le_of_ble_eq_true rfl⟩ (rc_recv X T0.1 rfl) rfl rfl (Nat.le_of_ble_eq_true rfl) dX8_finishes_114 ⟨Nat.zero_le _, Nat.zero_le _⟩ (fun r32 I31 h => ?_)
  refine rc_istore X [(4, .int (rc_o r32)), (0, .ref a0), (2, .int (rc_o x2))] dX8_finishes_117 (by decide) rfl ?_
  refine rc_iload X dX8_finishes_119 0 rfl ?_
  obtain ⟨c33, h⟩ := h
  refine rc_if_lt X 133 dX8_finishes_121 (by decide) c33 (fun c34 => ?_) (fun c34 => ?_)
  · have h := h.1 c34
    exact rc_vret X hr dX8_finishes_133 h
  · have h := h.2 c34
    refine rc_aload_n X dX8_finishes_124 rfl 1 rfl ?_
    refine gfX8_v X T0.1 nX8_finishes_X8 qX8_finishes_1 dX8_finishes_125 ?_
    refine rc_iload X dX8_finishes_128 0 rfl ?_
    refine rc_bipush X dX8_finishes_130 (rc_b8 _ ⟨by decide, by decide⟩) ?_
    obtain ⟨c35, h⟩ := h
    refine rc_iast X T0.2.1 (by decide) dX8_finishes_132 c35 (fun I36 e36 => ?_)
    have h := h I36 e36
    exact rc_vret X hr dX8_finishes_133 h
def wX8_finishes (G : rc_G) (a0 : Nat) (a1 : Int) (I : rc_M) (post : rc_M → Prop) : Prop :=
  (0 ≤ a1 ∧ a1 < 2147483648) ∧ ((0 ≤ a1 ∧ a1 < 2147483648) ∧ (rc_R (a1 % 3) ∧ ((¬ (a1 % 3) = 0 → (0 ≤ a1 ∧ a1 < 2147483648) ∧ (rc_R (a1 % 3) ∧ ((¬ (a1 % 3) = 1 → wX8_on G (a1 / 3) 3 I (fun r9 I8 => (0 ≤ r9 ∧ r9 < 199) ∧ (wX8_on G (a1 / 3) 0 I8 (fun r12 I11 => (0 ≤ r12 ∧ r12 < 199) ∧ (∀ I14, I14 = rc_s I11 (a0 + 1) r12 3 → wX8_on G (a1 / 3) 2 I14 (fun r16 I15 => wX8_lengthOn G a0 (a1 / 3) I15 (fun r18 I17 => rc_R ((I8 (a0 + 1) r9) + (I8 (a0 + 1) 148)) ∧ (rc_R r18 ∧ ((r18 ≤ ((I8 (a0 + 1) r9) + (I8 (a0 + 1) 148)) → wX8_lengthOn G a0 (a1 / 3) I17 (fun r23 I22 => wX8_finishes_97 G post a0 a1  (a1 / 3) r23 r16 I22)) ∧ (¬ r18 ≤ ((I8 (a0 + 1) r9) + (I8 (a0 + 1) 148)) → wX8_finishes_97 G post a0 a1  (a1 / 3) ((I8 (a0 + 1) r9) + (I8 (a0 + 1) 148)) r16 I17)))))))))) ∧ ((a1 % 3) = 1 → wX8_comes G a0 (a1 / 3) I (fun I37 => post I37))))) ∧ ((a1 % 3) = 0 → wX8_on G (a1 / 3) 0 I (fun r39 I38 => (0 ≤ r39 ∧ r39 < 199) ∧ (∀ I41, I41 = rc_s I38 (a0 + 1) r39 0 → post I41))))))
set_option maxRecDepth 100000 in
set_option maxHeartbeats 4000000 in
theorem gX8_finishes_0 {p : Program} {l : Launch} {e : Env} {s : State} {m : MethodId} {below : List Frame} {meth : Method} {c : Code} {G : rc_G} {a0 : Nat} {a1 : Int} {I : rc_M} {post : rc_M → Prop}  (X : rc_X p s m ([.ref a0, .int (rc_o a1)] : List Value).toArray meth c cX8_finishes 5 wsX8_finishes RX8 G (rc_A G)) (hr : meth.sig.returnType = none) (T0 : kX8 G a0)  (h : wX8_finishes G a0 a1 I post) : rc_g p l e rmX8_finishes s m ([.ref a0, .int (rc_o a1)] : List Value).toArray below meth c 0 0 (MQ below (rc_QV G post) ([.ref a0, .int (rc_o a1)] : List Value).toArray s 0 0 (rc_A G)) 5 G (rc_A G) 0 [(0, .ref a0), (1, .int (rc_o a1))] [] I := by
  unfold wX8_finishes at h
  refine rc_iload_n X dX8_finishes_0 rfl 1 rfl ?_
  refine rc_iconst X dX8_finishes_1 ?_
  obtain ⟨c1, h⟩ := h
  refine rc_idiv X dX8_finishes_2 c1 ⟨by decide, by decide⟩ ?_
  refine rc_istore_n X [(2, .int (rc_o (a1 / 3))), (0, .ref a0), (1, .int (rc_o a1))] dX8_finishes_3 rfl (by decide) rfl ?_
  refine rc_iload_n X dX8_finishes_4 rfl 2 rfl ?_
  refine rc_iconst X dX8_finishes_5 ?_
  obtain ⟨c2, h⟩ := h
  refine rc_irem X dX8_finishes_6 c2 ⟨by decide, by decide⟩ ?_
  obtain ⟨c3, h⟩ := h
  refine rc_if_ne X 24 dX8_finishes_7 (by decide) c3 (fun c4 => ?_) (fun c4 => ?_)
  · have h := h.1 c4
    refine rc_iload_n X dX8_finishes_24 rfl 2 rfl ?_
    refine rc_iconst X dX8_finishes_25 ?_
    obtain ⟨c5, h⟩ := h
    refine rc_irem X dX8_finishes_26 c5 ⟨by decide, by decide⟩ ?_
    refine rc_iconst X dX8_finishes_27 ?_
    obtain ⟨c6, h⟩ := h
    refine rc_ic_ne X 39 dX8_finishes_28 (by decide) c6 ⟨by decide, by decide⟩ (fun c7 => ?_) (fun c7 => ?_)
    · have h := h.1 c7
      refine rc_aload_n X dX8_finishes_39 rfl 1 rfl ?_
      refine gfX8_v X T0.1 nX8_finishes_X8 qX8_finishes_1 dX8_finishes_40 ?_
      refine rc_iload_n X dX8_finishes_43 rfl 0 rfl ?_
      refine rc_iconst X dX8_finishes_44 ?_
      refine rc_cSI (rest := [.ref (a0 + 1)]) X (mX8_on  h) gX8_finishes_X8_on rfl ⟨rfl, rfl⟩ dyX8_on ⟨Nat.le_of_ble_eq_true rfl, Nat.le_of_ble_eq_true rfl⟩ rfl rfl (Nat.le_of_ble_eq_true rfl) dX8_finishes_45 ⟨Nat.zero_le _, Nat.zero_le _⟩ (fun r9 I8 h => ?_)
      obtain ⟨c10, h⟩ := h
      refine rc_iald X T0.2.1 (by decide) dX8_finishes_48 c10 ?_
      refine rc_aload_n X dX8_finishes_49 rfl 1 rfl ?_
      refine gfX8_v X T0.1 nX8_finishes_X8 qX8_finishes_1 dX8_finishes_50 ?_
      refine rc_sipush X dX8_finishes_53 (rc_b16 _ ⟨by decide, by decide⟩) ?_
      refine rc_iald X T0.2.1 (by decide) dX8_finishes_56 ⟨by decide, by decide⟩ ?_
      refine rc_iadd X dX8_finishes_57 ?_
      refine rc_istore_n X [(3, .int (rc_o ((I8 (a0 + 1) r9) + (I8 (a0 + 1) 148)))), (2, .int (rc_o (a1 / 3))), (0, .ref a0), (1, .int (rc_o a1))] dX8_finishes_58 rfl (by decide) rfl ?_
      refine rc_aload_n X dX8_finishes_59 rfl 2 rfl ?_
      refine gfX8_v X T0.1 nX8_finishes_X8 qX8_finishes_1 dX8_finishes_60 ?_
      refine rc_iload_n X dX8_finishes_63 rfl 1 rfl ?_
      refine rc_iconst X dX8_finishes_64 ?_
      refine rc_cSI (rest := [.ref (a0 + 1)]) X (mX8_on  h) gX8_finishes_X8_on rfl ⟨rfl, rfl⟩ dyX8_on ⟨Nat.le_of_ble_eq_true rfl, Nat.le_of_ble_eq_true rfl⟩ rfl rfl (Nat.le_of_ble_eq_true rfl) dX8_finishes_65 ⟨Nat.zero_le _, Nat.zero_le _⟩ (fun r12 I11 h => ?_)
      refine rc_iconst X dX8_finishes_68 ?_
      obtain ⟨c13, h⟩ := h
      refine rc_iast X T0.2.1 (by decide) dX8_finishes_69 c13 (fun I14 e14 => ?_)
      have h := h I14 e14
      refine rc_aload_n X dX8_finishes_70 rfl 2 rfl ?_
      refine gfX8_v X T0.1 nX8_finishes_X8 qX8_finishes_1 dX8_finishes_71 ?_
      refine rc_iload_n X dX8_finishes_74 rfl 1 rfl ?_
      refine rc_iconst X dX8_finishes_75 ?_
      refine rc_cSI (rest := [.ref (a0 + 1)]) X (mX8_on  h) gX8_finishes_X8_on rfl ⟨rfl, rfl⟩ dyX8_on ⟨Nat.le_of_ble_eq_true rfl, Nat.le_of_ble_eq_true rfl⟩ rfl rfl (Nat.le_of_ble_eq_true rfl) dX8_finishes_76 ⟨Nat.zero_le _, Nat.zero_le _⟩ (fun r16 I15 h => ?_)
      refine rc_iload_n X dX8_finishes_79 rfl 0 rfl ?_
      refine rc_aload_n X dX8_finishes_80 rfl 2 rfl ?_
      refine rc_iload_n X dX8_finishes_81 rfl 1 rfl ?_
      refine rc_cVI (rest := [.int (rc_o ((I8 (a0 + 1) r9) + (I8 (a0 + 1) 148))), .int (rc_o r16), .ref (a0 + 1)]) X (mX8_lengthOn T0 h) gX8_finishes_X8_lengthOn rfl ⟨rfl, rfl⟩ dyX8_lengthOn ⟨Nat.le_of_ble_eq_true rfl, Nat.le_of_ble_eq_true rfl⟩ (rc_recv X T0.1 rfl) rfl rfl (Nat.le_of_ble_eq_true rfl) dX8_finishes_82 ⟨Nat.zero_le _, Nat.zero_le _⟩ (fun r18 I17 h => ?_)
      obtain ⟨c19, h⟩ := h
      obtain ⟨c20, h⟩ := h
      refine rc_ic_ge X 92 dX8_finishes_85 (by decide) c19 c20 (fun c21 => ?_) (fun c21 => ?_)
      · have h := h.1 c21
        refine rc_aload_n X dX8_finishes_92 rfl 2 rfl ?_
        refine rc_iload_n X dX8_finishes_93 rfl 1 rfl ?_
        refine rc_cVI (rest := [.int (rc_o r16), .ref (a0 + 1)]) X (mX8_lengthOn T0 h) gX8_finishes_X8_lengthOn rfl ⟨rfl, rfl⟩ dyX8_lengthOn ⟨Nat.le_of_ble_eq_true rfl, Nat.le_of_ble_eq_true rfl⟩ (rc_recv X T0.1 rfl) rfl rfl (Nat.le_of_ble_eq_true rfl) dX8_finishes_94 ⟨Nat.zero_le _, Nat.zero_le _⟩ (fun r23 I22 h => ?_)
        refine rc_subl [(0, .ref a0), (2, .int (rc_o (a1 / 3)))] [2, 1] rfl ?_
        exact gX8_finishes_97 X hr T0   h
      · have h := h.2 c21
        refine rc_iload_n X dX8_finishes_88 rfl 0 rfl ?_
        refine rc_goto X 97 dX8_finishes_89 (by decide) ?_
        refine rc_subl [(0, .ref a0), (2, .int (rc_o (a1 / 3)))] [2, 1] rfl ?_
        exact gX8_finishes_97 X hr T0   h
    · have h := h.2 c7
      refine rc_aload_n X dX8_finishes_31 rfl 1 rfl ?_
      refine rc_iload_n X dX8_finishes_32 rfl 0 rfl ?_
      refine rc_cVV (rest := []) X (mX8_comes T0 h) gX8_finishes_X8_comes rfl ⟨rfl, rfl⟩ dyX8_comes ⟨Nat.le_of_ble_eq_true rfl, Nat.le_of_ble_eq_true rfl⟩ (rc_recv X T0.1 rfl) rfl rfl (Nat.le_of_ble_eq_true rfl) dX8_finishes_33 ⟨Nat.zero_le _, Nat.zero_le _⟩ (fun I37 h => ?_)
      refine rc_goto X 133 dX8_finishes_36 (by decide) ?_
      exact rc_vret X hr dX8_finishes_133 h
  · have h := h.2 c4
    refine rc_aload_n X dX8_finishes_10 rfl 1 rfl ?_
    refine gfX8_v X T0.1 nX8_finishes_X8 qX8_finishes_1 dX8_finishes_11 ?_
    refine rc_iload_n X dX8_finishes_14 rfl 0 rfl ?_
    refine rc_iconst X dX8_finishes_15 ?_
    refine rc_cSI (rest := [.ref (a0 + 1)]) X (mX8_on  h) gX8_finishes_X8_on rfl ⟨rfl, rfl⟩ dyX8_on ⟨Nat.le_of_ble_eq_true rfl, Nat.le_of_ble_eq_true rfl⟩ rfl rfl (Nat.le_of_ble_eq_true rfl) dX8_finishes_16 ⟨Nat.zero_le _, Nat.zero_le _⟩ (fun r39 I38 h => ?_)
    refine rc_iconst X dX8_finishes_19 ?_
    obtain ⟨c40, h⟩ := h
    refine rc_iast X T0.2.1 (by decide) dX8_finishes_20 c40 (fun I41 e41 => ?_)
    have h := h I41 e41
    refine rc_goto X 133 dX8_finishes_21 (by decide) ?_
    exact rc_vret X hr dX8_finishes_133 h
theorem mX8_finishes {l : Launch} {G : rc_G} {a0 : Nat} {a1 : Int} {I : rc_M} {post : rc_M → Prop} (T0 : kX8 G a0) (h : wX8_finishes G a0 a1 I post) : rc_CV l yX8_finishes wsX8_finishes rmX8_finishes G [.ref a0, .int (rc_o a1)] I post :=
  rc_body (by decide +kernel) rfl rfl (Nat.le_of_ble_eq_true rfl) rfl (fun p e s m below meth c X hr => gX8_finishes_0 X hr T0 h)
/-! X8_works -/
abbrev rmX8_works : Room := { frames := 4, cells := 0, slots := 0, locals := 91 }
theorem dyX8_works : yX8_works.cls = RX8 ∧ yX8_works.cls ≠ "java/lang/invoke/MethodHandle" ∧ yX8_works.cls ≠ "java/lang/invoke/VarHandle" ∧ (parseMethodDescriptor yX8_works.desc).map (fun d => d.parameters.length) = some 0 := ⟨rfl, by decide +kernel, by decide +kernel, by decide +kernel⟩
theorem qX8_works_1 : Cond.fieldLink RX8 7 "ReelChangerModel" "v" "[I" ∈ wsX8_works := List.mem_of_getElem? (i := 1) (by decide +kernel)
theorem nX8_works_X8 : ∀ w ∈ wsX80, w ∈ wsX8_works := fun w h => List.mem_cons_of_mem _ (List.mem_append_right _ (h))
def wX8_works_99 (G : rc_G) (post : rc_M → Prop) (a0 : Nat) (k99 : Int → rc_M → Prop) (x1 : Int) (I : rc_M) : Prop :=
  rc_R x1 ∧ (rc_R (I (a0 + 1) 174) ∧ (((I (a0 + 1) 174) ≤ x1 → wX8_ticksFor G a0 (I (a0 + 1) 172) I (fun r11 I10 => ∀ I12, I12 = rc_s I10 (a0 + 1) 173 r11 → post I12)) ∧ (¬ (I (a0 + 1) 174) ≤ x1 → (0 ≤ (175 + x1) + 1 ∧ (175 + x1) + 1 < 199) ∧ ((0 ≤ 175 + x1 ∧ 175 + x1 < 199) ∧ (∀ I15, I15 = rc_s I (a0 + 1) (175 + x1) (I (a0 + 1) ((175 + x1) + 1)) → k99 (x1 + 1) I15)))))
set_option maxRecDepth 100000 in
set_option maxHeartbeats 4000000 in
theorem gX8_works_99 {p : Program} {l : Launch} {e : Env} {s : State} {m : MethodId} {below : List Frame} {meth : Method} {c : Code} {G : rc_G} {a0 : Nat} {I : rc_M} {post : rc_M → Prop} {k99 : Int → rc_M → Prop} {x1 : Int} (X : rc_X p s m ([.ref a0] : List Value).toArray meth c cX8_works 2 wsX8_works RX8 G (rc_A G)) (hr : meth.sig.returnType = none) (T0 : kX8 G a0) (hk99 : ∀ (x1 : Int) (J : rc_M), k99 x1 J → rc_g p l e rmX8_works s m ([.ref a0] : List Value).toArray below meth c 0 0 (MQ below (rc_QV G post) ([.ref a0] : List Value).toArray s 0 0 (rc_A G)) 2 G (rc_A G) 99 [(0, .ref a0), (1, .int (rc_o x1))] [] J)  (h : wX8_works_99 G post a0 k99 x1 I) : rc_g p l e rmX8_works s m ([.ref a0] : List Value).toArray below meth c 0 0 (MQ below (rc_QV G post) ([.ref a0] : List Value).toArray s 0 0 (rc_A G)) 2 G (rc_A G) 99 [(0, .ref a0), (1, .int (rc_o x1))] [] I := by
  unfold wX8_works_99 at h
  refine rc_iload_n X dX8_works_99 rfl 1 rfl ?_
  refine rc_aload_n X dX8_works_100 rfl 0 rfl ?_
  refine gfX8_v X T0.1 nX8_works_X8 qX8_works_1 dX8_works_101 ?_
  refine rc_sipush X dX8_works_104 (rc_b16 _ ⟨by decide, by decide⟩) ?_
  refine rc_iald X T0.2.1 (by decide) dX8_works_107 ⟨by decide, by decide⟩ ?_
  obtain ⟨c7, h⟩ := h
  obtain ⟨c8, h⟩ := h
  refine rc_ic_ge X 139 dX8_works_108 (by decide) c7 c8 (fun c9 => ?_) (fun c9 => ?_)
  · have h := h.1 c9
    refine rc_aload_n X dX8_works_139 rfl 0 rfl ?_
    refine gfX8_v X T0.1 nX8_works_X8 qX8_works_1 dX8_works_140 ?_
    refine rc_sipush X dX8_works_143 (rc_b16 _ ⟨by decide, by decide⟩) ?_
    refine rc_aload_n X dX8_works_146 rfl 0 rfl ?_
    refine rc_aload_n X dX8_works_147 rfl 0 rfl ?_
    refine gfX8_v X T0.1 nX8_works_X8 qX8_works_1 dX8_works_148 ?_
    refine rc_sipush X dX8_works_151 (rc_b16 _ ⟨by decide, by decide⟩) ?_
    refine rc_iald X T0.2.1 (by decide) dX8_works_154 ⟨by decide, by decide⟩ ?_
    refine rc_cVI (rest := [.int (rc_o 173), .ref (a0 + 1)]) X (mX8_ticksFor T0 h) gX8_works_X8_ticksFor rfl ⟨rfl, rfl⟩ dyX8_ticksFor ⟨Nat.le_of_ble_eq_true rfl, Nat.le_of_ble_eq_true rfl⟩ (rc_recv X T0.1 rfl) rfl rfl (Nat.le_of_ble_eq_true rfl) dX8_works_155 ⟨Nat.zero_le _, Nat.zero_le _⟩ (fun r11 I10 h => ?_)
    refine rc_iast X T0.2.1 (by decide) dX8_works_158 ⟨by decide, by decide⟩ (fun I12 e12 => ?_)
    have h := h I12 e12
    exact rc_vret X hr dX8_works_159 h
  · have h := h.2 c9
    refine rc_aload_n X dX8_works_111 rfl 0 rfl ?_
    refine gfX8_v X T0.1 nX8_works_X8 qX8_works_1 dX8_works_112 ?_
    refine rc_sipush X dX8_works_115 (rc_b16 _ ⟨by decide, by decide⟩) ?_
    refine rc_iload_n X dX8_works_118 rfl 1 rfl ?_
    refine rc_iadd X dX8_works_119 ?_
    refine rc_aload_n X dX8_works_120 rfl 0 rfl ?_
    refine gfX8_v X T0.1 nX8_works_X8 qX8_works_1 dX8_works_121 ?_
    refine rc_sipush X dX8_works_124 (rc_b16 _ ⟨by decide, by decide⟩) ?_
    refine rc_iload_n X dX8_works_127 rfl 1 rfl ?_
    refine rc_iadd X dX8_works_128 ?_
    refine rc_iconst X dX8_works_129 ?_
    refine rc_iadd X dX8_works_130 ?_
    obtain ⟨c13, h⟩ := h
    refine rc_iald X T0.2.1 (by decide) dX8_works_131 c13 ?_
    obtain ⟨c14, h⟩ := h
    refine rc_iast X T0.2.1 (by decide) dX8_works_132 c14 (fun I15 e15 => ?_)
    have h := h I15 e15
    refine rc_iinc X [(1, .int (rc_o (x1 + 1))), (0, .ref a0)] dX8_works_133 1 rfl (by decide) rfl ?_
    refine rc_goto X 99 dX8_works_136 (by decide) ?_
    refine rc_subl [(0, .ref a0), (1, .int (rc_o (x1 + 1)))] [1, 0] rfl ?_
    exact hk99 _ _ h
noncomputable def rX8_works_99 (G : rc_G) (post : rc_M → Prop) (a0 : Nat)  (n : Nat) : Int → rc_M → Prop :=
  Nat.rec (motive := fun _ => Int → rc_M → Prop) (fun _ _ => False) (fun _ ih => wX8_works_99 G post a0  ih) n
set_option maxRecDepth 100000 in
set_option maxHeartbeats 4000000 in
theorem sX8_works_99 {p : Program} {l : Launch} {e : Env} {s : State} {m : MethodId} {below : List Frame} {meth : Method} {c : Code} {G : rc_G} {a0 : Nat} {I : rc_M} {post : rc_M → Prop}  {n : Nat} {x1 : Int} (X : rc_X p s m ([.ref a0] : List Value).toArray meth c cX8_works 2 wsX8_works RX8 G (rc_A G)) (hr : meth.sig.returnType = none) (T0 : kX8 G a0)  (h : rX8_works_99 G post a0  n x1 I) : rc_g p l e rmX8_works s m ([.ref a0] : List Value).toArray below meth c 0 0 (MQ below (rc_QV G post) ([.ref a0] : List Value).toArray s 0 0 (rc_A G)) 2 G (rc_A G) 99 [(0, .ref a0), (1, .int (rc_o x1))] [] I := by
  induction n generalizing x1 I with
  | zero => exact h.elim
  | succ n ih => exact gX8_works_99 (k99 := rX8_works_99 G post a0  n) X hr T0  (fun x1 J h2 => ih h2) h
def wX8_works (G : rc_G) (a0 : Nat) (I : rc_M) (post : rc_M → Prop) : Prop :=
  rc_R (I (a0 + 1) 172) ∧ (((I (a0 + 1) 172) < 0 → rc_R (I (a0 + 1) 174) ∧ (((I (a0 + 1) 174) ≤ 0 → post I) ∧ (¬ (I (a0 + 1) 174) ≤ 0 → ∀ I5, I5 = rc_s I (a0 + 1) 172 (I (a0 + 1) 175) → ∀ I6, I6 = rc_s I5 (a0 + 1) 174 ((I5 (a0 + 1) 174) - 1) → ∃ n, rX8_works_99 G post a0  n 0 I6))) ∧ (¬ (I (a0 + 1) 172) < 0 → ∀ I16, I16 = rc_s I (a0 + 1) 173 ((I (a0 + 1) 173) - 1) → rc_R (I16 (a0 + 1) 173) ∧ ((¬ (I16 (a0 + 1) 173) = 0 → post I16) ∧ ((I16 (a0 + 1) 173) = 0 → wX8_finishes G a0 (I16 (a0 + 1) 172) I16 (fun I19 => ∀ I20, I20 = rc_s I19 (a0 + 1) 172 (-1) → post I20)))))
set_option maxRecDepth 100000 in
set_option maxHeartbeats 4000000 in
theorem gX8_works_0 {p : Program} {l : Launch} {e : Env} {s : State} {m : MethodId} {below : List Frame} {meth : Method} {c : Code} {G : rc_G} {a0 : Nat} {I : rc_M} {post : rc_M → Prop}  (X : rc_X p s m ([.ref a0] : List Value).toArray meth c cX8_works 2 wsX8_works RX8 G (rc_A G)) (hr : meth.sig.returnType = none) (T0 : kX8 G a0)  (h : wX8_works G a0 I post) : rc_g p l e rmX8_works s m ([.ref a0] : List Value).toArray below meth c 0 0 (MQ below (rc_QV G post) ([.ref a0] : List Value).toArray s 0 0 (rc_A G)) 2 G (rc_A G) 0 [(0, .ref a0)] [] I := by
  unfold wX8_works at h
  refine rc_aload_n X dX8_works_0 rfl 0 rfl ?_
  refine gfX8_v X T0.1 nX8_works_X8 qX8_works_1 dX8_works_1 ?_
  refine rc_sipush X dX8_works_4 (rc_b16 _ ⟨by decide, by decide⟩) ?_
  refine rc_iald X T0.2.1 (by decide) dX8_works_7 ⟨by decide, by decide⟩ ?_
  obtain ⟨c1, h⟩ := h
  refine rc_if_lt X 58 dX8_works_8 (by decide) c1 (fun c2 => ?_) (fun c2 => ?_)
  · have h := h.1 c2
    refine rc_aload_n X dX8_works_58 rfl 0 rfl ?_
    refine gfX8_v X T0.1 nX8_works_X8 qX8_works_1 dX8_works_59 ?_
    refine rc_sipush X dX8_works_62 (rc_b16 _ ⟨by decide, by decide⟩) ?_
    refine rc_iald X T0.2.1 (by decide) dX8_works_65 ⟨by decide, by decide⟩ ?_
    obtain ⟨c3, h⟩ := h
    refine rc_if_le X 159 dX8_works_66 (by decide) c3 (fun c4 => ?_) (fun c4 => ?_)
    · have h := h.1 c4
      exact rc_vret X hr dX8_works_159 h
    · have h := h.2 c4
      refine rc_aload_n X dX8_works_69 rfl 0 rfl ?_
      refine gfX8_v X T0.1 nX8_works_X8 qX8_works_1 dX8_works_70 ?_
      refine rc_sipush X dX8_works_73 (rc_b16 _ ⟨by decide, by decide⟩) ?_
      refine rc_aload_n X dX8_works_76 rfl 0 rfl ?_
      refine gfX8_v X T0.1 nX8_works_X8 qX8_works_1 dX8_works_77 ?_
      refine rc_sipush X dX8_works_80 (rc_b16 _ ⟨by decide, by decide⟩) ?_
      refine rc_iald X T0.2.1 (by decide) dX8_works_83 ⟨by decide, by decide⟩ ?_
      refine rc_iast X T0.2.1 (by decide) dX8_works_84 ⟨by decide, by decide⟩ (fun I5 e5 => ?_)
      have h := h I5 e5
      refine rc_aload_n X dX8_works_85 rfl 0 rfl ?_
      refine gfX8_v X T0.1 nX8_works_X8 qX8_works_1 dX8_works_86 ?_
      refine rc_sipush X dX8_works_89 (rc_b16 _ ⟨by decide, by decide⟩) ?_
      refine rc_dup2 X dX8_works_92 rfl rfl ?_
      refine rc_iald X T0.2.1 (by decide) dX8_works_93 ⟨by decide, by decide⟩ ?_
      refine rc_iconst X dX8_works_94 ?_
      refine rc_isub X dX8_works_95 ?_
      refine rc_iast X T0.2.1 (by decide) dX8_works_96 ⟨by decide, by decide⟩ (fun I6 e6 => ?_)
      have h := h I6 e6
      refine rc_iconst X dX8_works_97 ?_
      refine rc_istore_n X [(1, .int (rc_o 0)), (0, .ref a0)] dX8_works_98 rfl (by decide) rfl ?_
      refine rc_subl [(0, .ref a0), (1, .int (rc_o 0))] [1, 0] rfl ?_
      obtain ⟨n, h⟩ := h
      exact sX8_works_99 X hr T0  h
  · have h := h.2 c2
    refine rc_aload_n X dX8_works_11 rfl 0 rfl ?_
    refine gfX8_v X T0.1 nX8_works_X8 qX8_works_1 dX8_works_12 ?_
    refine rc_sipush X dX8_works_15 (rc_b16 _ ⟨by decide, by decide⟩) ?_
    refine rc_dup2 X dX8_works_18 rfl rfl ?_
    refine rc_iald X T0.2.1 (by decide) dX8_works_19 ⟨by decide, by decide⟩ ?_
    refine rc_iconst X dX8_works_20 ?_
    refine rc_isub X dX8_works_21 ?_
    refine rc_iast X T0.2.1 (by decide) dX8_works_22 ⟨by decide, by decide⟩ (fun I16 e16 => ?_)
    have h := h I16 e16
    refine rc_aload_n X dX8_works_23 rfl 0 rfl ?_
    refine gfX8_v X T0.1 nX8_works_X8 qX8_works_1 dX8_works_24 ?_
    refine rc_sipush X dX8_works_27 (rc_b16 _ ⟨by decide, by decide⟩) ?_
    refine rc_iald X T0.2.1 (by decide) dX8_works_30 ⟨by decide, by decide⟩ ?_
    obtain ⟨c17, h⟩ := h
    refine rc_if_ne X 159 dX8_works_31 (by decide) c17 (fun c18 => ?_) (fun c18 => ?_)
    · have h := h.1 c18
      exact rc_vret X hr dX8_works_159 h
    · have h := h.2 c18
      refine rc_aload_n X dX8_works_34 rfl 0 rfl ?_
      refine rc_aload_n X dX8_works_35 rfl 0 rfl ?_
      refine gfX8_v X T0.1 nX8_works_X8 qX8_works_1 dX8_works_36 ?_
      refine rc_sipush X dX8_works_39 (rc_b16 _ ⟨by decide, by decide⟩) ?_
      refine rc_iald X T0.2.1 (by decide) dX8_works_42 ⟨by decide, by decide⟩ ?_
      refine rc_cVV (rest := []) X (mX8_finishes T0 h) gX8_works_X8_finishes rfl ⟨rfl, rfl⟩ dyX8_finishes ⟨Nat.le_of_ble_eq_true rfl, Nat.le_of_ble_eq_true rfl⟩ (rc_recv X T0.1 rfl) rfl rfl (Nat.le_of_ble_eq_true rfl) dX8_works_43 ⟨Nat.zero_le _, Nat.zero_le _⟩ (fun I19 h => ?_)
      refine rc_aload_n X dX8_works_46 rfl 0 rfl ?_
      refine gfX8_v X T0.1 nX8_works_X8 qX8_works_1 dX8_works_47 ?_
      refine rc_sipush X dX8_works_50 (rc_b16 _ ⟨by decide, by decide⟩) ?_
      refine rc_iconst X dX8_works_53 ?_
      refine rc_iast X T0.2.1 (by decide) dX8_works_54 ⟨by decide, by decide⟩ (fun I20 e20 => ?_)
      have h := h I20 e20
      refine rc_goto X 159 dX8_works_55 (by decide) ?_
      exact rc_vret X hr dX8_works_159 h
theorem mX8_works {l : Launch} {G : rc_G} {a0 : Nat} {I : rc_M} {post : rc_M → Prop} (T0 : kX8 G a0) (h : wX8_works G a0 I post) : rc_CV l yX8_works wsX8_works rmX8_works G [.ref a0] I post :=
  rc_body (by decide +kernel) rfl rfl (Nat.le_of_ble_eq_true rfl) rfl (fun p e s m below meth c X hr => gX8_works_0 X hr T0 h)
/-! X8_adds -/
abbrev rmX8_adds : Room := { frames := 0, cells := 0, slots := 0, locals := 0 }
theorem dyX8_adds : yX8_adds.cls = RX8 ∧ yX8_adds.cls ≠ "java/lang/invoke/MethodHandle" ∧ yX8_adds.cls ≠ "java/lang/invoke/VarHandle" ∧ (parseMethodDescriptor yX8_adds.desc).map (fun d => d.parameters.length) = some 1 := ⟨rfl, by decide +kernel, by decide +kernel, by decide +kernel⟩
theorem qX8_adds_1 : Cond.fieldLink RX8 7 "ReelChangerModel" "v" "[I" ∈ wsX8_adds := List.mem_of_getElem? (i := 1) (by decide +kernel)
theorem nX8_adds_X8 : ∀ w ∈ wsX80, w ∈ wsX8_adds := fun w h => List.mem_cons_of_mem _ (List.mem_append_right _ (h))
def wX8_adds (G : rc_G) (a0 : Nat) (a1 : Int) (I : rc_M) (post : rc_M → Prop) : Prop :=
  (0 ≤ 175 + (I (a0 + 1) 174) ∧ 175 + (I (a0 + 1) 174) < 199) ∧ (∀ I2, I2 = rc_s I (a0 + 1) (175 + (I (a0 + 1) 174)) a1 → ∀ I3, I3 = rc_s I2 (a0 + 1) 174 ((I2 (a0 + 1) 174) + 1) → post I3)
set_option maxRecDepth 100000 in
set_option maxHeartbeats 4000000 in
theorem gX8_adds_0 {p : Program} {l : Launch} {e : Env} {s : State} {m : MethodId} {below : List Frame} {meth : Method} {c : Code} {G : rc_G} {a0 : Nat} {a1 : Int} {I : rc_M} {post : rc_M → Prop}  (X : rc_X p s m ([.ref a0, .int (rc_o a1)] : List Value).toArray meth c cX8_adds 2 wsX8_adds RX8 G (rc_A G)) (hr : meth.sig.returnType = none) (T0 : kX8 G a0)  (h : wX8_adds G a0 a1 I post) : rc_g p l e rmX8_adds s m ([.ref a0, .int (rc_o a1)] : List Value).toArray below meth c 0 0 (MQ below (rc_QV G post) ([.ref a0, .int (rc_o a1)] : List Value).toArray s 0 0 (rc_A G)) 2 G (rc_A G) 0 [(0, .ref a0), (1, .int (rc_o a1))] [] I := by
  unfold wX8_adds at h
  refine rc_aload_n X dX8_adds_0 rfl 0 rfl ?_
  refine gfX8_v X T0.1 nX8_adds_X8 qX8_adds_1 dX8_adds_1 ?_
  refine rc_sipush X dX8_adds_4 (rc_b16 _ ⟨by decide, by decide⟩) ?_
  refine rc_aload_n X dX8_adds_7 rfl 0 rfl ?_
  refine gfX8_v X T0.1 nX8_adds_X8 qX8_adds_1 dX8_adds_8 ?_
  refine rc_sipush X dX8_adds_11 (rc_b16 _ ⟨by decide, by decide⟩) ?_
  refine rc_iald X T0.2.1 (by decide) dX8_adds_14 ⟨by decide, by decide⟩ ?_
  refine rc_iadd X dX8_adds_15 ?_
  refine rc_iload_n X dX8_adds_16 rfl 1 rfl ?_
  obtain ⟨c1, h⟩ := h
  refine rc_iast X T0.2.1 (by decide) dX8_adds_17 c1 (fun I2 e2 => ?_)
  have h := h I2 e2
  refine rc_aload_n X dX8_adds_18 rfl 0 rfl ?_
  refine gfX8_v X T0.1 nX8_adds_X8 qX8_adds_1 dX8_adds_19 ?_
  refine rc_sipush X dX8_adds_22 (rc_b16 _ ⟨by decide, by decide⟩) ?_
  refine rc_dup2 X dX8_adds_25 rfl rfl ?_
  refine rc_iald X T0.2.1 (by decide) dX8_adds_26 ⟨by decide, by decide⟩ ?_
  refine rc_iconst X dX8_adds_27 ?_
  refine rc_iadd X dX8_adds_28 ?_
  refine rc_iast X T0.2.1 (by decide) dX8_adds_29 ⟨by decide, by decide⟩ (fun I3 e3 => ?_)
  have h := h I3 e3
  exact rc_vret X hr dX8_adds_30 h
theorem mX8_adds {l : Launch} {G : rc_G} {a0 : Nat} {a1 : Int} {I : rc_M} {post : rc_M → Prop} (T0 : kX8 G a0) (h : wX8_adds G a0 a1 I post) : rc_CV l yX8_adds wsX8_adds rmX8_adds G [.ref a0, .int (rc_o a1)] I post :=
  rc_body (by decide +kernel) rfl rfl (Nat.le_of_ble_eq_true rfl) rfl (fun p e s m below meth c X hr => gX8_adds_0 X hr T0 h)
/-! X8_starts -/
abbrev rmX8_starts : Room := { frames := 3, cells := 0, slots := 0, locals := 63 }
theorem dyX8_starts : yX8_starts.cls = RX8 ∧ yX8_starts.cls ≠ "java/lang/invoke/MethodHandle" ∧ yX8_starts.cls ≠ "java/lang/invoke/VarHandle" ∧ (parseMethodDescriptor yX8_starts.desc).map (fun d => d.parameters.length) = some 0 := ⟨rfl, by decide +kernel, by decide +kernel, by decide +kernel⟩
theorem qX8_starts_1 : Cond.fieldLink RX8 7 "ReelChangerModel" "v" "[I" ∈ wsX8_starts := List.mem_of_getElem? (i := 1) (by decide +kernel)
theorem nX8_starts_X8 : ∀ w ∈ wsX80, w ∈ wsX8_starts := fun w h => List.mem_cons_of_mem _ (List.mem_append_right _ (h))
def wX8_starts_196 (G : rc_G) (post : rc_M → Prop) (a0 : Nat)  (y0 : Int) (y1 : Int) (y2 : Int) (I : rc_M) : Prop :=
  (0 ≤ y2 ∧ y2 < 199) ∧ (∀ I28, I28 = rc_s I (a0 + 1) y2 (y1 + y0) → post I28)
set_option maxRecDepth 100000 in
set_option maxHeartbeats 4000000 in
theorem gX8_starts_196 {p : Program} {l : Launch} {e : Env} {s : State} {m : MethodId} {below : List Frame} {meth : Method} {c : Code} {G : rc_G} {a0 : Nat} {I : rc_M} {post : rc_M → Prop}  {y0 : Int} {y1 : Int} {y2 : Int} (X : rc_X p s m ([.ref a0] : List Value).toArray meth c cX8_starts 6 wsX8_starts RX8 G (rc_A G)) (hr : meth.sig.returnType = none) (T0 : kX8 G a0)   (h : wX8_starts_196 G post a0  y0 y1 y2 I) : rc_g p l e rmX8_starts s m ([.ref a0] : List Value).toArray below meth c 0 0 (MQ below (rc_QV G post) ([.ref a0] : List Value).toArray s 0 0 (rc_A G)) 6 G (rc_A G) 196 [] [.int (rc_o y0), .int (rc_o y1), .int (rc_o y2), .ref (a0 + 1)] I := by
  unfold wX8_starts_196 at h
  refine rc_iadd X dX8_starts_196 ?_
  obtain ⟨c27, h⟩ := h
  refine rc_iast X T0.2.1 (by decide) dX8_starts_197 c27 (fun I28 e28 => ?_)
  have h := h I28 e28
  exact rc_vret X hr dX8_starts_198 h
def wX8_starts_191 (G : rc_G) (post : rc_M → Prop) (a0 : Nat)  (y0 : Int) (y1 : Int) (I : rc_M) : Prop :=
  wX8_starts_196 G post a0  1 y0 y1 I
set_option maxRecDepth 100000 in
set_option maxHeartbeats 4000000 in
theorem gX8_starts_191 {p : Program} {l : Launch} {e : Env} {s : State} {m : MethodId} {below : List Frame} {meth : Method} {c : Code} {G : rc_G} {a0 : Nat} {I : rc_M} {post : rc_M → Prop}  {y0 : Int} {y1 : Int} (X : rc_X p s m ([.ref a0] : List Value).toArray meth c cX8_starts 6 wsX8_starts RX8 G (rc_A G)) (hr : meth.sig.returnType = none) (T0 : kX8 G a0)   (h : wX8_starts_191 G post a0  y0 y1 I) : rc_g p l e rmX8_starts s m ([.ref a0] : List Value).toArray below meth c 0 0 (MQ below (rc_QV G post) ([.ref a0] : List Value).toArray s 0 0 (rc_A G)) 6 G (rc_A G) 191 [] [.int (rc_o y0), .int (rc_o y1), .ref (a0 + 1)] I := by
  unfold wX8_starts_191 at h
  refine rc_iconst X dX8_starts_191 ?_
  refine rc_goto X 196 dX8_starts_192 (by decide) ?_
  refine rc_subl [] [] rfl ?_
  exact gX8_starts_196 X hr T0   h
def wX8_starts_104 (G : rc_G) (post : rc_M → Prop) (a0 : Nat)  (x1 : Int) (x2 : Int) (x4 : Int) (y0 : Int) (I : rc_M) : Prop :=
  wX8_on G x2 0 I (fun r11 I10 => (0 ≤ r11 ∧ r11 < 199) ∧ (rc_R (I10 (a0 + 1) r11) ∧ ((¬ (I10 (a0 + 1) r11) = 1 → post I10) ∧ ((I10 (a0 + 1) r11) = 1 → rc_R y0 ∧ ((y0 = 0 → post I10) ∧ (¬ y0 = 0 → wX8_on G x2 0 I10 (fun r18 I17 => (0 ≤ r18 ∧ r18 < 199) ∧ (∀ I20, I20 = rc_s I17 (a0 + 1) r18 2 → wX8_on G x2 2 I20 (fun r22 I21 => (0 ≤ r22 ∧ r22 < 199) ∧ (∀ I24, I24 = rc_s I21 (a0 + 1) r22 (-(I21 (a0 + 1) 141)) → rc_R (I24 (a0 + 1) 171) ∧ (((I24 (a0 + 1) 171) = 1 → wX8_starts_191 G post a0  (I24 (a0 + 1) 168) 168 I24) ∧ (¬ (I24 (a0 + 1) 171) = 1 → wX8_on G x1 2 I24 (fun r30 I29 => (0 ≤ r30 ∧ r30 < 199) ∧ (rc_R (I29 (a0 + 1) r30) ∧ (rc_R x4 ∧ (((I29 (a0 + 1) r30) ≤ x4 → wX8_starts_196 G post a0  0 (I24 (a0 + 1) 168) 168 I29) ∧ (¬ (I29 (a0 + 1) r30) ≤ x4 → wX8_starts_191 G post a0  (I24 (a0 + 1) 168) 168 I29)))))))))))))))))
set_option maxRecDepth 100000 in
set_option maxHeartbeats 4000000 in
theorem gX8_starts_104 {p : Program} {l : Launch} {e : Env} {s : State} {m : MethodId} {below : List Frame} {meth : Method} {c : Code} {G : rc_G} {a0 : Nat} {I : rc_M} {post : rc_M → Prop}  {x1 : Int} {x2 : Int} {x4 : Int} {y0 : Int} (X : rc_X p s m ([.ref a0] : List Value).toArray meth c cX8_starts 6 wsX8_starts RX8 G (rc_A G)) (hr : meth.sig.returnType = none) (T0 : kX8 G a0)   (h : wX8_starts_104 G post a0  x1 x2 x4 y0 I) : rc_g p l e rmX8_starts s m ([.ref a0] : List Value).toArray below meth c 0 0 (MQ below (rc_QV G post) ([.ref a0] : List Value).toArray s 0 0 (rc_A G)) 6 G (rc_A G) 104 [(0, .ref a0), (1, .int (rc_o x1)), (2, .int (rc_o x2)), (4, .int (rc_o x4))] [.int (rc_o y0)] I := by
  unfold wX8_starts_104 at h
  refine rc_istore X [(5, .int (rc_o y0)), (0, .ref a0), (1, .int (rc_o x1)), (2, .int (rc_o x2)), (4, .int (rc_o x4))] dX8_starts_104 (by decide) rfl ?_
  refine rc_aload_n X dX8_starts_106 rfl 1 rfl ?_
  refine gfX8_v X T0.1 nX8_starts_X8 qX8_starts_1 dX8_starts_107 ?_
  refine rc_iload_n X dX8_starts_110 rfl 3 rfl ?_
  refine rc_iconst X dX8_starts_111 ?_
  refine rc_cSI (rest := [.ref (a0 + 1)]) X (mX8_on  h) gX8_starts_X8_on rfl ⟨rfl, rfl⟩ dyX8_on ⟨Nat.le_of_ble_eq_true rfl, Nat.le_of_ble_eq_true rfl⟩ rfl rfl (Nat.le_of_ble_eq_true rfl) dX8_starts_112 ⟨Nat.zero_le _, Nat.zero_le _⟩ (fun r11 I10 h => ?_)
  obtain ⟨c12, h⟩ := h
  refine rc_iald X T0.2.1 (by decide) dX8_starts_115 c12 ?_
  refine rc_iconst X dX8_starts_116 ?_
  obtain ⟨c13, h⟩ := h
  refine rc_ic_ne X 198 dX8_starts_117 (by decide) c13 ⟨by decide, by decide⟩ (fun c14 => ?_) (fun c14 => ?_)
  · have h := h.1 c14
    exact rc_vret X hr dX8_starts_198 h
  · have h := h.2 c14
    refine rc_iload X dX8_starts_120 0 rfl ?_
    obtain ⟨c15, h⟩ := h
    refine rc_if_eq X 198 dX8_starts_122 (by decide) c15 (fun c16 => ?_) (fun c16 => ?_)
    · have h := h.1 c16
      exact rc_vret X hr dX8_starts_198 h
    · have h := h.2 c16
      refine rc_aload_n X dX8_starts_125 rfl 1 rfl ?_
      refine gfX8_v X T0.1 nX8_starts_X8 qX8_starts_1 dX8_starts_126 ?_
      refine rc_iload_n X dX8_starts_129 rfl 3 rfl ?_
      refine rc_iconst X dX8_starts_130 ?_
      refine rc_cSI (rest := [.ref (a0 + 1)]) X (mX8_on  h) gX8_starts_X8_on rfl ⟨rfl, rfl⟩ dyX8_on ⟨Nat.le_of_ble_eq_true rfl, Nat.le_of_ble_eq_true rfl⟩ rfl rfl (Nat.le_of_ble_eq_true rfl) dX8_starts_131 ⟨Nat.zero_le _, Nat.zero_le _⟩ (fun r18 I17 h => ?_)
      refine rc_iconst X dX8_starts_134 ?_
      obtain ⟨c19, h⟩ := h
      refine rc_iast X T0.2.1 (by decide) dX8_starts_135 c19 (fun I20 e20 => ?_)
      have h := h I20 e20
      refine rc_aload_n X dX8_starts_136 rfl 1 rfl ?_
      refine gfX8_v X T0.1 nX8_starts_X8 qX8_starts_1 dX8_starts_137 ?_
      refine rc_iload_n X dX8_starts_140 rfl 3 rfl ?_
      refine rc_iconst X dX8_starts_141 ?_
      refine rc_cSI (rest := [.ref (a0 + 1)]) X (mX8_on  h) gX8_starts_X8_on rfl ⟨rfl, rfl⟩ dyX8_on ⟨Nat.le_of_ble_eq_true rfl, Nat.le_of_ble_eq_true rfl⟩ rfl rfl (Nat.le_of_ble_eq_true rfl) dX8_starts_142 ⟨Nat.zero_le _, Nat.zero_le _⟩ (fun r22 I21 h => ?_)
      refine rc_aload_n X dX8_starts_145 rfl 1 rfl ?_
      refine gfX8_v X T0.1 nX8_starts_X8 qX8_starts_1 dX8_starts_146 ?_
      refine rc_sipush X dX8_starts_149 (rc_b16 _ ⟨by decide, by decide⟩) ?_
      refine rc_iald X T0.2.1 (by decide) dX8_starts_152 ⟨by decide, by decide⟩ ?_
      refine rc_ineg X dX8_starts_153 ?_
      obtain ⟨c23, h⟩ := h
      refine rc_iast X T0.2.1 (by decide) dX8_starts_154 c23 (fun I24 e24 => ?_)
      have h := h I24 e24
      refine rc_aload_n X dX8_starts_155 rfl 1 rfl ?_
      refine gfX8_v X T0.1 nX8_starts_X8 qX8_starts_1 dX8_starts_156 ?_
      refine rc_sipush X dX8_starts_159 (rc_b16 _ ⟨by decide, by decide⟩) ?_
      refine rc_dup2 X dX8_starts_162 rfl rfl ?_
      refine rc_iald X T0.2.1 (by decide) dX8_starts_163 ⟨by decide, by decide⟩ ?_
      refine rc_aload_n X dX8_starts_164 rfl 1 rfl ?_
      refine gfX8_v X T0.1 nX8_starts_X8 qX8_starts_1 dX8_starts_165 ?_
      refine rc_sipush X dX8_starts_168 (rc_b16 _ ⟨by decide, by decide⟩) ?_
      refine rc_iald X T0.2.1 (by decide) dX8_starts_171 ⟨by decide, by decide⟩ ?_
      refine rc_iconst X dX8_starts_172 ?_
      obtain ⟨c25, h⟩ := h
      refine rc_ic_eq X 191 dX8_starts_173 (by decide) c25 ⟨by decide, by decide⟩ (fun c26 => ?_) (fun c26 => ?_)
      · have h := h.1 c26
        refine rc_subl [] [] rfl ?_
        exact gX8_starts_191 X hr T0   h
      · have h := h.2 c26
        refine rc_aload_n X dX8_starts_176 rfl 1 rfl ?_
        refine gfX8_v X T0.1 nX8_starts_X8 qX8_starts_1 dX8_starts_177 ?_
        refine rc_iload_n X dX8_starts_180 rfl 2 rfl ?_
        refine rc_iconst X dX8_starts_181 ?_
        refine rc_cSI (rest := [.ref (a0 + 1), .int (rc_o (I24 (a0 + 1) 168)), .int (rc_o 168), .ref (a0 + 1)]) X (mX8_on  h) gX8_starts_X8_on rfl ⟨rfl, rfl⟩ dyX8_on ⟨Nat.le_of_ble_eq_true rfl, Nat.le_of_ble_eq_true rfl⟩ rfl rfl (Nat.le_of_ble_eq_true rfl) dX8_starts_182 ⟨Nat.zero_le _, Nat.zero_le _⟩ (fun r30 I29 h => ?_)
        obtain ⟨c31, h⟩ := h
        refine rc_iald X T0.2.1 (by decide) dX8_starts_185 c31 ?_
        refine rc_iload X dX8_starts_186 4 rfl ?_
        obtain ⟨c32, h⟩ := h
        obtain ⟨c33, h⟩ := h
        refine rc_ic_le X 195 dX8_starts_188 (by decide) c32 c33 (fun c34 => ?_) (fun c34 => ?_)
        · have h := h.1 c34
          refine rc_iconst X dX8_starts_195 ?_
          refine rc_subl [] [] rfl ?_
          exact gX8_starts_196 X hr T0   h
        · have h := h.2 c34
          refine rc_subl [] [] rfl ?_
          exact gX8_starts_191 X hr T0   h
def wX8_starts_99 (G : rc_G) (post : rc_M → Prop) (a0 : Nat)  (x1 : Int) (x2 : Int) (x4 : Int) (I : rc_M) : Prop :=
  wX8_starts_104 G post a0  x1 x2 x4 1 I
set_option maxRecDepth 100000 in
set_option maxHeartbeats 4000000 in
theorem gX8_starts_99 {p : Program} {l : Launch} {e : Env} {s : State} {m : MethodId} {below : List Frame} {meth : Method} {c : Code} {G : rc_G} {a0 : Nat} {I : rc_M} {post : rc_M → Prop}  {x1 : Int} {x2 : Int} {x4 : Int} (X : rc_X p s m ([.ref a0] : List Value).toArray meth c cX8_starts 6 wsX8_starts RX8 G (rc_A G)) (hr : meth.sig.returnType = none) (T0 : kX8 G a0)   (h : wX8_starts_99 G post a0  x1 x2 x4 I) : rc_g p l e rmX8_starts s m ([.ref a0] : List Value).toArray below meth c 0 0 (MQ below (rc_QV G post) ([.ref a0] : List Value).toArray s 0 0 (rc_A G)) 6 G (rc_A G) 99 [(0, .ref a0), (1, .int (rc_o x1)), (2, .int (rc_o x2)), (4, .int (rc_o x4))] [] I := by
  unfold wX8_starts_99 at h
  refine rc_iconst X dX8_starts_99 ?_
  refine rc_goto X 104 dX8_starts_100 (by decide) ?_
  refine rc_subl [(0, .ref a0), (1, .int (rc_o x1)), (2, .int (rc_o x2)), (4, .int (rc_o x4))] [0, 1, 2, 3] rfl ?_
  exact gX8_starts_104 X hr T0   h
def wX8_starts_103 (G : rc_G) (post : rc_M → Prop) (a0 : Nat)  (x1 : Int) (x2 : Int) (x4 : Int) (I : rc_M) : Prop :=
  wX8_starts_104 G post a0  x1 x2 x4 0 I
set_option maxRecDepth 100000 in
set_option maxHeartbeats 4000000 in
theorem gX8_starts_103 {p : Program} {l : Launch} {e : Env} {s : State} {m : MethodId} {below : List Frame} {meth : Method} {c : Code} {G : rc_G} {a0 : Nat} {I : rc_M} {post : rc_M → Prop}  {x1 : Int} {x2 : Int} {x4 : Int} (X : rc_X p s m ([.ref a0] : List Value).toArray meth c cX8_starts 6 wsX8_starts RX8 G (rc_A G)) (hr : meth.sig.returnType = none) (T0 : kX8 G a0)   (h : wX8_starts_103 G post a0  x1 x2 x4 I) : rc_g p l e rmX8_starts s m ([.ref a0] : List Value).toArray below meth c 0 0 (MQ below (rc_QV G post) ([.ref a0] : List Value).toArray s 0 0 (rc_A G)) 6 G (rc_A G) 103 [(0, .ref a0), (1, .int (rc_o x1)), (2, .int (rc_o x2)), (4, .int (rc_o x4))] [] I := by
  unfold wX8_starts_103 at h
  refine rc_iconst X dX8_starts_103 ?_
  refine rc_subl [(0, .ref a0), (1, .int (rc_o x1)), (2, .int (rc_o x2)), (4, .int (rc_o x4))] [0, 1, 2, 3] rfl ?_
  exact gX8_starts_104 X hr T0   h
def wX8_starts_66 (G : rc_G) (post : rc_M → Prop) (a0 : Nat)  (x1 : Int) (x2 : Int) (x3 : Int) (y0 : Int) (I : rc_M) : Prop :=
  rc_R (I (a0 + 1) 171) ∧ (((I (a0 + 1) 171) = 1 → wX8_starts_99 G post a0  x1 x2 y0 I) ∧ (¬ (I (a0 + 1) 171) = 1 → rc_R x3 ∧ ((x3 = 0 → wX8_starts_103 G post a0  x1 x2 y0 I) ∧ (¬ x3 = 0 → wX8_on G x1 2 I (fun r38 I37 => (0 ≤ r38 ∧ r38 < 199) ∧ (rc_R (I37 (a0 + 1) r38) ∧ (rc_R y0 ∧ (((I37 (a0 + 1) r38) < y0 → wX8_starts_103 G post a0  x1 x2 y0 I37) ∧ (¬ (I37 (a0 + 1) r38) < y0 → wX8_starts_99 G post a0  x1 x2 y0 I37)))))))))
set_option maxRecDepth 100000 in
set_option maxHeartbeats 4000000 in
theorem gX8_starts_66 {p : Program} {l : Launch} {e : Env} {s : State} {m : MethodId} {below : List Frame} {meth : Method} {c : Code} {G : rc_G} {a0 : Nat} {I : rc_M} {post : rc_M → Prop}  {x1 : Int} {x2 : Int} {x3 : Int} {y0 : Int} (X : rc_X p s m ([.ref a0] : List Value).toArray meth c cX8_starts 6 wsX8_starts RX8 G (rc_A G)) (hr : meth.sig.returnType = none) (T0 : kX8 G a0)   (h : wX8_starts_66 G post a0  x1 x2 x3 y0 I) : rc_g p l e rmX8_starts s m ([.ref a0] : List Value).toArray below meth c 0 0 (MQ below (rc_QV G post) ([.ref a0] : List Value).toArray s 0 0 (rc_A G)) 6 G (rc_A G) 66 [(0, .ref a0), (1, .int (rc_o x1)), (2, .int (rc_o x2)), (3, .int (rc_o x3))] [.int (rc_o y0)] I := by
  unfold wX8_starts_66 at h
  refine rc_istore X [(4, .int (rc_o y0)), (0, .ref a0), (1, .int (rc_o x1)), (2, .int (rc_o x2)), (3, .int (rc_o x3))] dX8_starts_66 (by decide) rfl ?_
  refine rc_aload_n X dX8_starts_68 rfl 1 rfl ?_
  refine gfX8_v X T0.1 nX8_starts_X8 qX8_starts_1 dX8_starts_69 ?_
  refine rc_sipush X dX8_starts_72 (rc_b16 _ ⟨by decide, by decide⟩) ?_
  refine rc_iald X T0.2.1 (by decide) dX8_starts_75 ⟨by decide, by decide⟩ ?_
  refine rc_iconst X dX8_starts_76 ?_
  obtain ⟨c8, h⟩ := h
  refine rc_ic_eq X 99 dX8_starts_77 (by decide) c8 ⟨by decide, by decide⟩ (fun c9 => ?_) (fun c9 => ?_)
  · have h := h.1 c9
    refine rc_subl [(0, .ref a0), (1, .int (rc_o x1)), (2, .int (rc_o x2)), (4, .int (rc_o y0))] [1, 2, 3, 0] rfl ?_
    exact gX8_starts_99 X hr T0   h
  · have h := h.2 c9
    refine rc_iload_n X dX8_starts_80 rfl 4 rfl ?_
    obtain ⟨c35, h⟩ := h
    refine rc_if_eq X 103 dX8_starts_81 (by decide) c35 (fun c36 => ?_) (fun c36 => ?_)
    · have h := h.1 c36
      refine rc_subl [(0, .ref a0), (1, .int (rc_o x1)), (2, .int (rc_o x2)), (4, .int (rc_o y0))] [1, 2, 3, 0] rfl ?_
      exact gX8_starts_103 X hr T0   h
    · have h := h.2 c36
      refine rc_aload_n X dX8_starts_84 rfl 1 rfl ?_
      refine gfX8_v X T0.1 nX8_starts_X8 qX8_starts_1 dX8_starts_85 ?_
      refine rc_iload_n X dX8_starts_88 rfl 2 rfl ?_
      refine rc_iconst X dX8_starts_89 ?_
      refine rc_cSI (rest := [.ref (a0 + 1)]) X (mX8_on  h) gX8_starts_X8_on rfl ⟨rfl, rfl⟩ dyX8_on ⟨Nat.le_of_ble_eq_true rfl, Nat.le_of_ble_eq_true rfl⟩ rfl rfl (Nat.le_of_ble_eq_true rfl) dX8_starts_90 ⟨Nat.zero_le _, Nat.zero_le _⟩ (fun r38 I37 h => ?_)
      obtain ⟨c39, h⟩ := h
      refine rc_iald X T0.2.1 (by decide) dX8_starts_93 c39 ?_
      refine rc_iload X dX8_starts_94 0 rfl ?_
      obtain ⟨c40, h⟩ := h
      obtain ⟨c41, h⟩ := h
      refine rc_ic_lt X 103 dX8_starts_96 (by decide) c40 c41 (fun c42 => ?_) (fun c42 => ?_)
      · have h := h.1 c42
        refine rc_subl [(0, .ref a0), (1, .int (rc_o x1)), (2, .int (rc_o x2)), (4, .int (rc_o y0))] [1, 2, 3, 0] rfl ?_
        exact gX8_starts_103 X hr T0   h
      · have h := h.2 c42
        refine rc_subl [(0, .ref a0), (1, .int (rc_o x1)), (2, .int (rc_o x2)), (4, .int (rc_o y0))] [1, 2, 3, 0] rfl ?_
        exact gX8_starts_99 X hr T0   h
def wX8_starts_43 (G : rc_G) (post : rc_M → Prop) (a0 : Nat)  (x1 : Int) (x2 : Int) (y0 : Int) (I : rc_M) : Prop :=
  rc_R y0 ∧ ((y0 = 0 → wX8_starts_66 G post a0  x1 x2 y0 0 I) ∧ (¬ y0 = 0 → wX8_lengthOn G a0 x1 I (fun r44 I43 => wX8_starts_66 G post a0  x1 x2 y0 (r44 - (I43 (a0 + 1) 142)) I43)))
set_option maxRecDepth 100000 in
set_option maxHeartbeats 4000000 in
theorem gX8_starts_43 {p : Program} {l : Launch} {e : Env} {s : State} {m : MethodId} {below : List Frame} {meth : Method} {c : Code} {G : rc_G} {a0 : Nat} {I : rc_M} {post : rc_M → Prop}  {x1 : Int} {x2 : Int} {y0 : Int} (X : rc_X p s m ([.ref a0] : List Value).toArray meth c cX8_starts 6 wsX8_starts RX8 G (rc_A G)) (hr : meth.sig.returnType = none) (T0 : kX8 G a0)   (h : wX8_starts_43 G post a0  x1 x2 y0 I) : rc_g p l e rmX8_starts s m ([.ref a0] : List Value).toArray below meth c 0 0 (MQ below (rc_QV G post) ([.ref a0] : List Value).toArray s 0 0 (rc_A G)) 6 G (rc_A G) 43 [(0, .ref a0), (1, .int (rc_o x1)), (2, .int (rc_o x2))] [.int (rc_o y0)] I := by
  unfold wX8_starts_43 at h
  refine rc_istore_n X [(3, .int (rc_o y0)), (0, .ref a0), (1, .int (rc_o x1)), (2, .int (rc_o x2))] dX8_starts_43 rfl (by decide) rfl ?_
  refine rc_iload_n X dX8_starts_44 rfl 0 rfl ?_
  obtain ⟨c6, h⟩ := h
  refine rc_if_eq X 65 dX8_starts_45 (by decide) c6 (fun c7 => ?_) (fun c7 => ?_)
  · have h := h.1 c7
    refine rc_iconst X dX8_starts_65 ?_
    refine rc_subl [(0, .ref a0), (1, .int (rc_o x1)), (2, .int (rc_o x2)), (3, .int (rc_o y0))] [1, 2, 3, 0] rfl ?_
    exact gX8_starts_66 X hr T0   h
  · have h := h.2 c7
    refine rc_aload_n X dX8_starts_48 rfl 1 rfl ?_
    refine rc_iload_n X dX8_starts_49 rfl 2 rfl ?_
    refine rc_cVI (rest := []) X (mX8_lengthOn T0 h) gX8_starts_X8_lengthOn rfl ⟨rfl, rfl⟩ dyX8_lengthOn ⟨Nat.le_of_ble_eq_true rfl, Nat.le_of_ble_eq_true rfl⟩ (rc_recv X T0.1 rfl) rfl rfl (Nat.le_of_ble_eq_true rfl) dX8_starts_50 ⟨Nat.zero_le _, Nat.zero_le _⟩ (fun r44 I43 h => ?_)
    refine rc_aload_n X dX8_starts_53 rfl 1 rfl ?_
    refine gfX8_v X T0.1 nX8_starts_X8 qX8_starts_1 dX8_starts_54 ?_
    refine rc_sipush X dX8_starts_57 (rc_b16 _ ⟨by decide, by decide⟩) ?_
    refine rc_iald X T0.2.1 (by decide) dX8_starts_60 ⟨by decide, by decide⟩ ?_
    refine rc_isub X dX8_starts_61 ?_
    refine rc_goto X 66 dX8_starts_62 (by decide) ?_
    refine rc_subl [(0, .ref a0), (1, .int (rc_o x1)), (2, .int (rc_o x2)), (3, .int (rc_o y0))] [1, 2, 3, 0] rfl ?_
    exact gX8_starts_66 X hr T0   h
def wX8_starts_42 (G : rc_G) (post : rc_M → Prop) (a0 : Nat)  (x1 : Int) (x2 : Int) (I : rc_M) : Prop :=
  wX8_starts_43 G post a0  x1 x2 0 I
set_option maxRecDepth 100000 in
set_option maxHeartbeats 4000000 in
theorem gX8_starts_42 {p : Program} {l : Launch} {e : Env} {s : State} {m : MethodId} {below : List Frame} {meth : Method} {c : Code} {G : rc_G} {a0 : Nat} {I : rc_M} {post : rc_M → Prop}  {x1 : Int} {x2 : Int} (X : rc_X p s m ([.ref a0] : List Value).toArray meth c cX8_starts 6 wsX8_starts RX8 G (rc_A G)) (hr : meth.sig.returnType = none) (T0 : kX8 G a0)   (h : wX8_starts_42 G post a0  x1 x2 I) : rc_g p l e rmX8_starts s m ([.ref a0] : List Value).toArray below meth c 0 0 (MQ below (rc_QV G post) ([.ref a0] : List Value).toArray s 0 0 (rc_A G)) 6 G (rc_A G) 42 [(0, .ref a0), (1, .int (rc_o x1)), (2, .int (rc_o x2))] [] I := by
  unfold wX8_starts_42 at h
  refine rc_iconst X dX8_starts_42 ?_
  refine rc_subl [(0, .ref a0), (1, .int (rc_o x1)), (2, .int (rc_o x2))] [0, 1, 2] rfl ?_
  exact gX8_starts_43 X hr T0   h
def wX8_starts (G : rc_G) (a0 : Nat) (I : rc_M) (post : rc_M → Prop) : Prop :=
  wX8_on G (I (a0 + 1) 165) 0 I (fun r2 I1 => (0 ≤ r2 ∧ r2 < 199) ∧ (rc_R (I1 (a0 + 1) r2) ∧ ((¬ (I1 (a0 + 1) r2) = 3 → wX8_starts_42 G post a0  (I (a0 + 1) 165) (1 - (I (a0 + 1) 165)) I1) ∧ ((I1 (a0 + 1) r2) = 3 → rc_R (I1 (a0 + 1) 171) ∧ ((¬ (I1 (a0 + 1) 171) = 0 → wX8_starts_42 G post a0  (I (a0 + 1) 165) (1 - (I (a0 + 1) 165)) I1) ∧ ((I1 (a0 + 1) 171) = 0 → wX8_starts_43 G post a0  (I (a0 + 1) 165) (1 - (I (a0 + 1) 165)) 1 I1))))))
set_option maxRecDepth 100000 in
set_option maxHeartbeats 4000000 in
theorem gX8_starts_0 {p : Program} {l : Launch} {e : Env} {s : State} {m : MethodId} {below : List Frame} {meth : Method} {c : Code} {G : rc_G} {a0 : Nat} {I : rc_M} {post : rc_M → Prop}  (X : rc_X p s m ([.ref a0] : List Value).toArray meth c cX8_starts 6 wsX8_starts RX8 G (rc_A G)) (hr : meth.sig.returnType = none) (T0 : kX8 G a0)  (h : wX8_starts G a0 I post) : rc_g p l e rmX8_starts s m ([.ref a0] : List Value).toArray below meth c 0 0 (MQ below (rc_QV G post) ([.ref a0] : List Value).toArray s 0 0 (rc_A G)) 6 G (rc_A G) 0 [(0, .ref a0)] [] I := by
  unfold wX8_starts at h
  refine rc_aload_n X dX8_starts_0 rfl 0 rfl ?_
  refine gfX8_v X T0.1 nX8_starts_X8 qX8_starts_1 dX8_starts_1 ?_
  refine rc_sipush X dX8_starts_4 (rc_b16 _ ⟨by decide, by decide⟩) ?_
  refine rc_iald X T0.2.1 (by decide) dX8_starts_7 ⟨by decide, by decide⟩ ?_
  refine rc_istore_n X [(1, .int (rc_o (I (a0 + 1) 165))), (0, .ref a0)] dX8_starts_8 rfl (by decide) rfl ?_
  refine rc_iconst X dX8_starts_9 ?_
  refine rc_iload_n X dX8_starts_10 rfl 0 rfl ?_
  refine rc_isub X dX8_starts_11 ?_
  refine rc_istore_n X [(2, .int (rc_o (1 - (I (a0 + 1) 165)))), (1, .int (rc_o (I (a0 + 1) 165))), (0, .ref a0)] dX8_starts_12 rfl (by decide) rfl ?_
  refine rc_aload_n X dX8_starts_13 rfl 2 rfl ?_
  refine gfX8_v X T0.1 nX8_starts_X8 qX8_starts_1 dX8_starts_14 ?_
  refine rc_iload_n X dX8_starts_17 rfl 1 rfl ?_
  refine rc_iconst X dX8_starts_18 ?_
  refine rc_cSI (rest := [.ref (a0 + 1)]) X (mX8_on  h) gX8_starts_X8_on rfl ⟨rfl, rfl⟩ dyX8_on ⟨Nat.le_of_ble_eq_true rfl, Nat.le_of_ble_eq_true rfl⟩ rfl rfl (Nat.le_of_ble_eq_true rfl) dX8_starts_19 ⟨Nat.zero_le _, Nat.zero_le _⟩ (fun r2 I1 h => ?_)
  obtain ⟨c3, h⟩ := h
  refine rc_iald X T0.2.1 (by decide) dX8_starts_22 c3 ?_
  refine rc_iconst X dX8_starts_23 ?_
  obtain ⟨c4, h⟩ := h
  refine rc_ic_ne X 42 dX8_starts_24 (by decide) c4 ⟨by decide, by decide⟩ (fun c5 => ?_) (fun c5 => ?_)
  · have h := h.1 c5
    refine rc_subl [(0, .ref a0), (1, .int (rc_o (I (a0 + 1) 165))), (2, .int (rc_o (1 - (I (a0 + 1) 165))))] [2, 1, 0] rfl ?_
    exact gX8_starts_42 X hr T0   h
  · have h := h.2 c5
    refine rc_aload_n X dX8_starts_27 rfl 2 rfl ?_
    refine gfX8_v X T0.1 nX8_starts_X8 qX8_starts_1 dX8_starts_28 ?_
    refine rc_sipush X dX8_starts_31 (rc_b16 _ ⟨by decide, by decide⟩) ?_
    refine rc_iald X T0.2.1 (by decide) dX8_starts_34 ⟨by decide, by decide⟩ ?_
    obtain ⟨c45, h⟩ := h
    refine rc_if_ne X 42 dX8_starts_35 (by decide) c45 (fun c46 => ?_) (fun c46 => ?_)
    · have h := h.1 c46
      refine rc_subl [(0, .ref a0), (1, .int (rc_o (I (a0 + 1) 165))), (2, .int (rc_o (1 - (I (a0 + 1) 165))))] [2, 1, 0] rfl ?_
      exact gX8_starts_42 X hr T0   h
    · have h := h.2 c46
      refine rc_iconst X dX8_starts_38 ?_
      refine rc_goto X 43 dX8_starts_39 (by decide) ?_
      refine rc_subl [(0, .ref a0), (1, .int (rc_o (I (a0 + 1) 165))), (2, .int (rc_o (1 - (I (a0 + 1) 165))))] [2, 1, 0] rfl ?_
      exact gX8_starts_43 X hr T0   h
theorem mX8_starts {l : Launch} {G : rc_G} {a0 : Nat} {I : rc_M} {post : rc_M → Prop} (T0 : kX8 G a0) (h : wX8_starts G a0 I post) : rc_CV l yX8_starts wsX8_starts rmX8_starts G [.ref a0] I post :=
  rc_body (by decide +kernel) rfl rfl (Nat.le_of_ble_eq_true rfl) rfl (fun p e s m below meth c X hr => gX8_starts_0 X hr T0 h)
/-! X8_goes -/
abbrev rmX8_goes : Room := { frames := 1, cells := 0, slots := 0, locals := 21 }
theorem dyX8_goes : yX8_goes.cls = RX8 ∧ yX8_goes.cls ≠ "java/lang/invoke/MethodHandle" ∧ yX8_goes.cls ≠ "java/lang/invoke/VarHandle" ∧ (parseMethodDescriptor yX8_goes.desc).map (fun d => d.parameters.length) = some 0 := ⟨rfl, by decide +kernel, by decide +kernel, by decide +kernel⟩
theorem qX8_goes_1 : Cond.fieldLink RX8 7 "ReelChangerModel" "v" "[I" ∈ wsX8_goes := List.mem_of_getElem? (i := 1) (by decide +kernel)
theorem nX8_goes_X8 : ∀ w ∈ wsX80, w ∈ wsX8_goes := fun w h => List.mem_cons_of_mem _ (List.mem_append_right _ (h))
def wX8_goes_51 (G : rc_G) (post : rc_M → Prop) (a0 : Nat) (k2 : Int → rc_M → Prop) (x1 : Int) (y0 : Int) (y1 : Int) (y2 : Int) (I : rc_M) : Prop :=
  (0 ≤ y2 ∧ y2 < 199) ∧ (∀ I12, I12 = rc_s I (a0 + 1) y2 (y1 + y0) → k2 (x1 + 1) I12)
set_option maxRecDepth 100000 in
set_option maxHeartbeats 4000000 in
theorem gX8_goes_51 {p : Program} {l : Launch} {e : Env} {s : State} {m : MethodId} {below : List Frame} {meth : Method} {c : Code} {G : rc_G} {a0 : Nat} {I : rc_M} {post : rc_M → Prop} {k2 : Int → rc_M → Prop} {x1 : Int} {y0 : Int} {y1 : Int} {y2 : Int} (X : rc_X p s m ([.ref a0] : List Value).toArray meth c cX8_goes 2 wsX8_goes RX8 G (rc_A G)) (hr : meth.sig.returnType = none) (T0 : kX8 G a0) (hk2 : ∀ (x1 : Int) (J : rc_M), k2 x1 J → rc_g p l e rmX8_goes s m ([.ref a0] : List Value).toArray below meth c 0 0 (MQ below (rc_QV G post) ([.ref a0] : List Value).toArray s 0 0 (rc_A G)) 2 G (rc_A G) 2 [(0, .ref a0), (1, .int (rc_o x1))] [] J)  (h : wX8_goes_51 G post a0 k2 x1 y0 y1 y2 I) : rc_g p l e rmX8_goes s m ([.ref a0] : List Value).toArray below meth c 0 0 (MQ below (rc_QV G post) ([.ref a0] : List Value).toArray s 0 0 (rc_A G)) 2 G (rc_A G) 51 [(0, .ref a0), (1, .int (rc_o x1))] [.int (rc_o y0), .int (rc_o y1), .int (rc_o y2), .ref (a0 + 1)] I := by
  unfold wX8_goes_51 at h
  refine rc_iadd X dX8_goes_51 ?_
  obtain ⟨c11, h⟩ := h
  refine rc_iast X T0.2.1 (by decide) dX8_goes_52 c11 (fun I12 e12 => ?_)
  have h := h I12 e12
  refine rc_iinc X [(1, .int (rc_o (x1 + 1))), (0, .ref a0)] dX8_goes_53 1 rfl (by decide) rfl ?_
  refine rc_goto X 2 dX8_goes_56 (by decide) ?_
  refine rc_subl [(0, .ref a0), (1, .int (rc_o (x1 + 1)))] [1, 0] rfl ?_
  exact hk2 _ _ h
def wX8_goes_46 (G : rc_G) (post : rc_M → Prop) (a0 : Nat) (k2 : Int → rc_M → Prop) (x1 : Int) (y0 : Int) (y1 : Int) (I : rc_M) : Prop :=
  wX8_goes_51 G post a0 k2 x1 1 y0 y1 I
set_option maxRecDepth 100000 in
set_option maxHeartbeats 4000000 in
theorem gX8_goes_46 {p : Program} {l : Launch} {e : Env} {s : State} {m : MethodId} {below : List Frame} {meth : Method} {c : Code} {G : rc_G} {a0 : Nat} {I : rc_M} {post : rc_M → Prop} {k2 : Int → rc_M → Prop} {x1 : Int} {y0 : Int} {y1 : Int} (X : rc_X p s m ([.ref a0] : List Value).toArray meth c cX8_goes 2 wsX8_goes RX8 G (rc_A G)) (hr : meth.sig.returnType = none) (T0 : kX8 G a0) (hk2 : ∀ (x1 : Int) (J : rc_M), k2 x1 J → rc_g p l e rmX8_goes s m ([.ref a0] : List Value).toArray below meth c 0 0 (MQ below (rc_QV G post) ([.ref a0] : List Value).toArray s 0 0 (rc_A G)) 2 G (rc_A G) 2 [(0, .ref a0), (1, .int (rc_o x1))] [] J)  (h : wX8_goes_46 G post a0 k2 x1 y0 y1 I) : rc_g p l e rmX8_goes s m ([.ref a0] : List Value).toArray below meth c 0 0 (MQ below (rc_QV G post) ([.ref a0] : List Value).toArray s 0 0 (rc_A G)) 2 G (rc_A G) 46 [(0, .ref a0), (1, .int (rc_o x1))] [.int (rc_o y0), .int (rc_o y1), .ref (a0 + 1)] I := by
  unfold wX8_goes_46 at h
  refine rc_iconst X dX8_goes_46 ?_
  refine rc_goto X 51 dX8_goes_47 (by decide) ?_
  refine rc_subl [(0, .ref a0), (1, .int (rc_o x1))] [0, 1] rfl ?_
  exact gX8_goes_51 X hr T0 hk2  h
def wX8_goes_2 (G : rc_G) (post : rc_M → Prop) (a0 : Nat) (k2 : Int → rc_M → Prop) (x1 : Int) (I : rc_M) : Prop :=
  rc_R x1 ∧ ((2 ≤ x1 → post I) ∧ (¬ 2 ≤ x1 → wX8_on G x1 2 I (fun r4 I3 => (0 ≤ r4 ∧ r4 < 199) ∧ (wX8_on G x1 0 I3 (fun r7 I6 => (0 ≤ r7 ∧ r7 < 199) ∧ (rc_R (I6 (a0 + 1) r7) ∧ (((I6 (a0 + 1) r7) = 2 → wX8_goes_46 G post a0 k2 x1 (I3 (a0 + 1) r4) r4 I6) ∧ (¬ (I6 (a0 + 1) r7) = 2 → wX8_on G x1 0 I6 (fun r14 I13 => (0 ≤ r14 ∧ r14 < 199) ∧ (rc_R (I13 (a0 + 1) r14) ∧ ((¬ (I13 (a0 + 1) r14) = 3 → wX8_goes_51 G post a0 k2 x1 0 (I3 (a0 + 1) r4) r4 I13) ∧ ((I13 (a0 + 1) r14) = 3 → wX8_goes_46 G post a0 k2 x1 (I3 (a0 + 1) r4) r4 I13))))))))))))
set_option maxRecDepth 100000 in
set_option maxHeartbeats 4000000 in
theorem gX8_goes_2 {p : Program} {l : Launch} {e : Env} {s : State} {m : MethodId} {below : List Frame} {meth : Method} {c : Code} {G : rc_G} {a0 : Nat} {I : rc_M} {post : rc_M → Prop} {k2 : Int → rc_M → Prop} {x1 : Int} (X : rc_X p s m ([.ref a0] : List Value).toArray meth c cX8_goes 2 wsX8_goes RX8 G (rc_A G)) (hr : meth.sig.returnType = none) (T0 : kX8 G a0) (hk2 : ∀ (x1 : Int) (J : rc_M), k2 x1 J → rc_g p l e rmX8_goes s m ([.ref a0] : List Value).toArray below meth c 0 0 (MQ below (rc_QV G post) ([.ref a0] : List Value).toArray s 0 0 (rc_A G)) 2 G (rc_A G) 2 [(0, .ref a0), (1, .int (rc_o x1))] [] J)  (h : wX8_goes_2 G post a0 k2 x1 I) : rc_g p l e rmX8_goes s m ([.ref a0] : List Value).toArray below meth c 0 0 (MQ below (rc_QV G post) ([.ref a0] : List Value).toArray s 0 0 (rc_A G)) 2 G (rc_A G) 2 [(0, .ref a0), (1, .int (rc_o x1))] [] I := by
  unfold wX8_goes_2 at h
  refine rc_iload_n X dX8_goes_2 rfl 1 rfl ?_
  refine rc_iconst X dX8_goes_3 ?_
  obtain ⟨c1, h⟩ := h
  refine rc_ic_ge X 59 dX8_goes_4 (by decide) c1 ⟨by decide, by decide⟩ (fun c2 => ?_) (fun c2 => ?_)
  · have h := h.1 c2
    exact rc_vret X hr dX8_goes_59 h
  · have h := h.2 c2
    refine rc_aload_n X dX8_goes_7 rfl 0 rfl ?_
    refine gfX8_v X T0.1 nX8_goes_X8 qX8_goes_1 dX8_goes_8 ?_
    refine rc_iload_n X dX8_goes_11 rfl 1 rfl ?_
    refine rc_iconst X dX8_goes_12 ?_
    refine rc_cSI (rest := [.ref (a0 + 1)]) X (mX8_on  h) gX8_goes_X8_on rfl ⟨rfl, rfl⟩ dyX8_on ⟨Nat.le_of_ble_eq_true rfl, Nat.le_of_ble_eq_true rfl⟩ rfl rfl (Nat.le_of_ble_eq_true rfl) dX8_goes_13 ⟨Nat.zero_le _, Nat.zero_le _⟩ (fun r4 I3 h => ?_)
    refine rc_dup2 X dX8_goes_16 rfl rfl ?_
    obtain ⟨c5, h⟩ := h
    refine rc_iald X T0.2.1 (by decide) dX8_goes_17 c5 ?_
    refine rc_aload_n X dX8_goes_18 rfl 0 rfl ?_
    refine gfX8_v X T0.1 nX8_goes_X8 qX8_goes_1 dX8_goes_19 ?_
    refine rc_iload_n X dX8_goes_22 rfl 1 rfl ?_
    refine rc_iconst X dX8_goes_23 ?_
    refine rc_cSI (rest := [.ref (a0 + 1), .int (rc_o (I3 (a0 + 1) r4)), .int (rc_o r4), .ref (a0 + 1)]) X (mX8_on  h) gX8_goes_X8_on rfl ⟨rfl, rfl⟩ dyX8_on ⟨Nat.le_of_ble_eq_true rfl, Nat.le_of_ble_eq_true rfl⟩ rfl rfl (Nat.le_of_ble_eq_true rfl) dX8_goes_24 ⟨Nat.zero_le _, Nat.zero_le _⟩ (fun r7 I6 h => ?_)
    obtain ⟨c8, h⟩ := h
    refine rc_iald X T0.2.1 (by decide) dX8_goes_27 c8 ?_
    refine rc_iconst X dX8_goes_28 ?_
    obtain ⟨c9, h⟩ := h
    refine rc_ic_eq X 46 dX8_goes_29 (by decide) c9 ⟨by decide, by decide⟩ (fun c10 => ?_) (fun c10 => ?_)
    · have h := h.1 c10
      refine rc_subl [(0, .ref a0), (1, .int (rc_o x1))] [0, 1] rfl ?_
      exact gX8_goes_46 X hr T0 hk2  h
    · have h := h.2 c10
      refine rc_aload_n X dX8_goes_32 rfl 0 rfl ?_
      refine gfX8_v X T0.1 nX8_goes_X8 qX8_goes_1 dX8_goes_33 ?_
      refine rc_iload_n X dX8_goes_36 rfl 1 rfl ?_
      refine rc_iconst X dX8_goes_37 ?_
      refine rc_cSI (rest := [.ref (a0 + 1), .int (rc_o (I3 (a0 + 1) r4)), .int (rc_o r4), .ref (a0 + 1)]) X (mX8_on  h) gX8_goes_X8_on rfl ⟨rfl, rfl⟩ dyX8_on ⟨Nat.le_of_ble_eq_true rfl, Nat.le_of_ble_eq_true rfl⟩ rfl rfl (Nat.le_of_ble_eq_true rfl) dX8_goes_38 ⟨Nat.zero_le _, Nat.zero_le _⟩ (fun r14 I13 h => ?_)
      obtain ⟨c15, h⟩ := h
      refine rc_iald X T0.2.1 (by decide) dX8_goes_41 c15 ?_
      refine rc_iconst X dX8_goes_42 ?_
      obtain ⟨c16, h⟩ := h
      refine rc_ic_ne X 50 dX8_goes_43 (by decide) c16 ⟨by decide, by decide⟩ (fun c17 => ?_) (fun c17 => ?_)
      · have h := h.1 c17
        refine rc_iconst X dX8_goes_50 ?_
        refine rc_subl [(0, .ref a0), (1, .int (rc_o x1))] [0, 1] rfl ?_
        exact gX8_goes_51 X hr T0 hk2  h
      · have h := h.2 c17
        refine rc_subl [(0, .ref a0), (1, .int (rc_o x1))] [0, 1] rfl ?_
        exact gX8_goes_46 X hr T0 hk2  h
noncomputable def rX8_goes_2 (G : rc_G) (post : rc_M → Prop) (a0 : Nat)  (n : Nat) : Int → rc_M → Prop :=
  Nat.rec (motive := fun _ => Int → rc_M → Prop) (fun _ _ => False) (fun _ ih => wX8_goes_2 G post a0  ih) n
set_option maxRecDepth 100000 in
set_option maxHeartbeats 4000000 in
theorem sX8_goes_2 {p : Program} {l : Launch} {e : Env} {s : State} {m : MethodId} {below : List Frame} {meth : Method} {c : Code} {G : rc_G} {a0 : Nat} {I : rc_M} {post : rc_M → Prop}  {n : Nat} {x1 : Int} (X : rc_X p s m ([.ref a0] : List Value).toArray meth c cX8_goes 2 wsX8_goes RX8 G (rc_A G)) (hr : meth.sig.returnType = none) (T0 : kX8 G a0)  (h : rX8_goes_2 G post a0  n x1 I) : rc_g p l e rmX8_goes s m ([.ref a0] : List Value).toArray below meth c 0 0 (MQ below (rc_QV G post) ([.ref a0] : List Value).toArray s 0 0 (rc_A G)) 2 G (rc_A G) 2 [(0, .ref a0), (1, .int (rc_o x1))] [] I := by
  induction n generalizing x1 I with
  | zero => exact h.elim
  | succ n ih => exact gX8_goes_2 (k2 := rX8_goes_2 G post a0  n) X hr T0  (fun x1 J h2 => ih h2) h
def wX8_goes (G : rc_G) (a0 : Nat) (I : rc_M) (post : rc_M → Prop) : Prop :=
  ∃ n, rX8_goes_2 G post a0  n 0 I
set_option maxRecDepth 100000 in
set_option maxHeartbeats 4000000 in
theorem gX8_goes_0 {p : Program} {l : Launch} {e : Env} {s : State} {m : MethodId} {below : List Frame} {meth : Method} {c : Code} {G : rc_G} {a0 : Nat} {I : rc_M} {post : rc_M → Prop}  (X : rc_X p s m ([.ref a0] : List Value).toArray meth c cX8_goes 2 wsX8_goes RX8 G (rc_A G)) (hr : meth.sig.returnType = none) (T0 : kX8 G a0)  (h : wX8_goes G a0 I post) : rc_g p l e rmX8_goes s m ([.ref a0] : List Value).toArray below meth c 0 0 (MQ below (rc_QV G post) ([.ref a0] : List Value).toArray s 0 0 (rc_A G)) 2 G (rc_A G) 0 [(0, .ref a0)] [] I := by
  unfold wX8_goes at h
  refine rc_iconst X dX8_goes_0 ?_
  refine rc_istore_n X [(1, .int (rc_o 0)), (0, .ref a0)] dX8_goes_1 rfl (by decide) rfl ?_
  refine rc_subl [(0, .ref a0), (1, .int (rc_o 0))] [1, 0] rfl ?_
  obtain ⟨n, h⟩ := h
  exact sX8_goes_2 X hr T0  h
theorem mX8_goes {l : Launch} {G : rc_G} {a0 : Nat} {I : rc_M} {post : rc_M → Prop} (T0 : kX8 G a0) (h : wX8_goes G a0 I post) : rc_CV l yX8_goes wsX8_goes rmX8_goes G [.ref a0] I post :=
  rc_body (by decide +kernel) rfl rfl (Nat.le_of_ble_eq_true rfl) rfl (fun p e s m below meth c X hr => gX8_goes_0 X hr T0 h)
/-! X8_wears -/
abbrev rmX8_wears : Room := { frames := 3, cells := 0, slots := 0, locals := 67 }
theorem dyX8_wears : yX8_wears.cls = RX8 ∧ yX8_wears.cls ≠ "java/lang/invoke/MethodHandle" ∧ yX8_wears.cls ≠ "java/lang/invoke/VarHandle" ∧ (parseMethodDescriptor yX8_wears.desc).map (fun d => d.parameters.length) = some 0 := ⟨rfl, by decide +kernel, by decide +kernel, by decide +kernel⟩
theorem qX8_wears_1 : Cond.fieldLink RX8 7 "ReelChangerModel" "v" "[I" ∈ wsX8_wears := List.mem_of_getElem? (i := 1) (by decide +kernel)
theorem nX8_wears_X8 : ∀ w ∈ wsX80, w ∈ wsX8_wears := fun w h => List.mem_cons_of_mem _ (List.mem_append_right _ (h))
def wX8_wears_233 (G : rc_G) (post : rc_M → Prop) (a0 : Nat)  (y0 : Int) (y1 : Int) (I : rc_M) : Prop :=
  (0 ≤ y1 ∧ y1 < 199) ∧ (∀ I51, I51 = rc_s I (a0 + 1) y1 y0 → post I51)
set_option maxRecDepth 100000 in
set_option maxHeartbeats 4000000 in
theorem gX8_wears_233 {p : Program} {l : Launch} {e : Env} {s : State} {m : MethodId} {below : List Frame} {meth : Method} {c : Code} {G : rc_G} {a0 : Nat} {I : rc_M} {post : rc_M → Prop}  {y0 : Int} {y1 : Int} (X : rc_X p s m ([.ref a0] : List Value).toArray meth c cX8_wears 4 wsX8_wears RX8 G (rc_A G)) (hr : meth.sig.returnType = none) (T0 : kX8 G a0)   (h : wX8_wears_233 G post a0  y0 y1 I) : rc_g p l e rmX8_wears s m ([.ref a0] : List Value).toArray below meth c 0 0 (MQ below (rc_QV G post) ([.ref a0] : List Value).toArray s 0 0 (rc_A G)) 4 G (rc_A G) 233 [] [.int (rc_o y0), .int (rc_o y1), .ref (a0 + 1)] I := by
  unfold wX8_wears_233 at h
  obtain ⟨c50, h⟩ := h
  refine rc_iast X T0.2.1 (by decide) dX8_wears_233 c50 (fun I51 e51 => ?_)
  have h := h I51 e51
  exact rc_vret X hr dX8_wears_234 h
def wX8_wears_133 (G : rc_G) (post : rc_M → Prop) (a0 : Nat) (k133 : Int → Int → rc_M → Prop) (x1 : Int) (x3 : Int) (I : rc_M) : Prop :=
  rc_R x3 ∧ ((x3 ≤ 0 → ∀ I38, I38 = rc_s I (a0 + 1) 175 ((3 * x1) + 2) → ∀ I39, I39 = rc_s I38 (a0 + 1) 174 ((I38 (a0 + 1) 174) + 1) → wX8_on G (1 - x1) 0 I39 (fun r41 I40 => wX8_on G (1 - x1) 0 I40 (fun r43 I42 => (0 ≤ r43 ∧ r43 < 199) ∧ (rc_R (I42 (a0 + 1) r43) ∧ ((¬ (I42 (a0 + 1) r43) = 2 → wX8_on G (1 - x1) 0 I42 (fun r48 I47 => (0 ≤ r48 ∧ r48 < 199) ∧ (wX8_wears_233 G post a0  (I47 (a0 + 1) r48) r41 I47))) ∧ ((I42 (a0 + 1) r43) = 2 → wX8_wears_233 G post a0  1 r41 I42)))))) ∧ (¬ x3 ≤ 0 → (0 ≤ (175 + x3) - 1 ∧ (175 + x3) - 1 < 199) ∧ ((0 ≤ 175 + x3 ∧ 175 + x3 < 199) ∧ (∀ I54, I54 = rc_s I (a0 + 1) (175 + x3) (I (a0 + 1) ((175 + x3) - 1)) → k133 x1 (x3 + (-1)) I54))))
set_option maxRecDepth 100000 in
set_option maxHeartbeats 4000000 in
theorem gX8_wears_133 {p : Program} {l : Launch} {e : Env} {s : State} {m : MethodId} {below : List Frame} {meth : Method} {c : Code} {G : rc_G} {a0 : Nat} {I : rc_M} {post : rc_M → Prop} {k133 : Int → Int → rc_M → Prop} {x1 : Int} {x3 : Int} (X : rc_X p s m ([.ref a0] : List Value).toArray meth c cX8_wears 4 wsX8_wears RX8 G (rc_A G)) (hr : meth.sig.returnType = none) (T0 : kX8 G a0) (hk133 : ∀ (x1 : Int) (x3 : Int) (J : rc_M), k133 x1 x3 J → rc_g p l e rmX8_wears s m ([.ref a0] : List Value).toArray below meth c 0 0 (MQ below (rc_QV G post) ([.ref a0] : List Value).toArray s 0 0 (rc_A G)) 4 G (rc_A G) 133 [(0, .ref a0), (1, .int (rc_o x1)), (3, .int (rc_o x3))] [] J)  (h : wX8_wears_133 G post a0 k133 x1 x3 I) : rc_g p l e rmX8_wears s m ([.ref a0] : List Value).toArray below meth c 0 0 (MQ below (rc_QV G post) ([.ref a0] : List Value).toArray s 0 0 (rc_A G)) 4 G (rc_A G) 133 [(0, .ref a0), (1, .int (rc_o x1)), (3, .int (rc_o x3))] [] I := by
  unfold wX8_wears_133 at h
  refine rc_iload_n X dX8_wears_133 rfl 2 rfl ?_
  obtain ⟨c36, h⟩ := h
  refine rc_if_le X 165 dX8_wears_134 (by decide) c36 (fun c37 => ?_) (fun c37 => ?_)
  · have h := h.1 c37
    refine rc_aload_n X dX8_wears_165 rfl 0 rfl ?_
    refine gfX8_v X T0.1 nX8_wears_X8 qX8_wears_1 dX8_wears_166 ?_
    refine rc_sipush X dX8_wears_169 (rc_b16 _ ⟨by decide, by decide⟩) ?_
    refine rc_iconst X dX8_wears_172 ?_
    refine rc_iload_n X dX8_wears_173 rfl 1 rfl ?_
    refine rc_imul X dX8_wears_174 ?_
    refine rc_iconst X dX8_wears_175 ?_
    refine rc_iadd X dX8_wears_176 ?_
    refine rc_iast X T0.2.1 (by decide) dX8_wears_177 ⟨by decide, by decide⟩ (fun I38 e38 => ?_)
    have h := h I38 e38
    refine rc_aload_n X dX8_wears_178 rfl 0 rfl ?_
    refine gfX8_v X T0.1 nX8_wears_X8 qX8_wears_1 dX8_wears_179 ?_
    refine rc_sipush X dX8_wears_182 (rc_b16 _ ⟨by decide, by decide⟩) ?_
    refine rc_dup2 X dX8_wears_185 rfl rfl ?_
    refine rc_iald X T0.2.1 (by decide) dX8_wears_186 ⟨by decide, by decide⟩ ?_
    refine rc_iconst X dX8_wears_187 ?_
    refine rc_iadd X dX8_wears_188 ?_
    refine rc_iast X T0.2.1 (by decide) dX8_wears_189 ⟨by decide, by decide⟩ (fun I39 e39 => ?_)
    have h := h I39 e39
    refine rc_aload_n X dX8_wears_190 rfl 0 rfl ?_
    refine gfX8_v X T0.1 nX8_wears_X8 qX8_wears_1 dX8_wears_191 ?_
    refine rc_iconst X dX8_wears_194 ?_
    refine rc_iload_n X dX8_wears_195 rfl 1 rfl ?_
    refine rc_isub X dX8_wears_196 ?_
    refine rc_iconst X dX8_wears_197 ?_
    refine rc_cSI (rest := [.ref (a0 + 1)]) X (mX8_on  h) gX8_wears_X8_on rfl ⟨rfl, rfl⟩ dyX8_on ⟨Nat.le_of_ble_eq_true rfl, Nat.le_of_ble_eq_true rfl⟩ rfl rfl (Nat.le_of_ble_eq_true rfl) dX8_wears_198 ⟨Nat.zero_le _, Nat.zero_le _⟩ (fun r41 I40 h => ?_)
    refine rc_aload_n X dX8_wears_201 rfl 0 rfl ?_
    refine gfX8_v X T0.1 nX8_wears_X8 qX8_wears_1 dX8_wears_202 ?_
    refine rc_iconst X dX8_wears_205 ?_
    refine rc_iload_n X dX8_wears_206 rfl 1 rfl ?_
    refine rc_isub X dX8_wears_207 ?_
    refine rc_iconst X dX8_wears_208 ?_
    refine rc_cSI (rest := [.ref (a0 + 1), .int (rc_o r41), .ref (a0 + 1)]) X (mX8_on  h) gX8_wears_X8_on rfl ⟨rfl, rfl⟩ dyX8_on ⟨Nat.le_of_ble_eq_true rfl, Nat.le_of_ble_eq_true rfl⟩ rfl rfl (Nat.le_of_ble_eq_true rfl) dX8_wears_209 ⟨Nat.zero_le _, Nat.zero_le _⟩ (fun r43 I42 h => ?_)
    obtain ⟨c44, h⟩ := h
    refine rc_iald X T0.2.1 (by decide) dX8_wears_212 c44 ?_
    refine rc_iconst X dX8_wears_213 ?_
    obtain ⟨c45, h⟩ := h
    refine rc_ic_ne X 221 dX8_wears_214 (by decide) c45 ⟨by decide, by decide⟩ (fun c46 => ?_) (fun c46 => ?_)
    · have h := h.1 c46
      refine rc_aload_n X dX8_wears_221 rfl 0 rfl ?_
      refine gfX8_v X T0.1 nX8_wears_X8 qX8_wears_1 dX8_wears_222 ?_
      refine rc_iconst X dX8_wears_225 ?_
      refine rc_iload_n X dX8_wears_226 rfl 1 rfl ?_
      refine rc_isub X dX8_wears_227 ?_
      refine rc_iconst X dX8_wears_228 ?_
      refine rc_cSI (rest := [.ref (a0 + 1), .int (rc_o r41), .ref (a0 + 1)]) X (mX8_on  h) gX8_wears_X8_on rfl ⟨rfl, rfl⟩ dyX8_on ⟨Nat.le_of_ble_eq_true rfl, Nat.le_of_ble_eq_true rfl⟩ rfl rfl (Nat.le_of_ble_eq_true rfl) dX8_wears_229 ⟨Nat.zero_le _, Nat.zero_le _⟩ (fun r48 I47 h => ?_)
      obtain ⟨c49, h⟩ := h
      refine rc_iald X T0.2.1 (by decide) dX8_wears_232 c49 ?_
      refine rc_subl [] [] rfl ?_
      exact gX8_wears_233 X hr T0   h
    · have h := h.2 c46
      refine rc_iconst X dX8_wears_217 ?_
      refine rc_goto X 233 dX8_wears_218 (by decide) ?_
      refine rc_subl [] [] rfl ?_
      exact gX8_wears_233 X hr T0   h
  · have h := h.2 c37
    refine rc_aload_n X dX8_wears_137 rfl 0 rfl ?_
    refine gfX8_v X T0.1 nX8_wears_X8 qX8_wears_1 dX8_wears_138 ?_
    refine rc_sipush X dX8_wears_141 (rc_b16 _ ⟨by decide, by decide⟩) ?_
    refine rc_iload_n X dX8_wears_144 rfl 2 rfl ?_
    refine rc_iadd X dX8_wears_145 ?_
    refine rc_aload_n X dX8_wears_146 rfl 0 rfl ?_
    refine gfX8_v X T0.1 nX8_wears_X8 qX8_wears_1 dX8_wears_147 ?_
    refine rc_sipush X dX8_wears_150 (rc_b16 _ ⟨by decide, by decide⟩) ?_
    refine rc_iload_n X dX8_wears_153 rfl 2 rfl ?_
    refine rc_iadd X dX8_wears_154 ?_
    refine rc_iconst X dX8_wears_155 ?_
    refine rc_isub X dX8_wears_156 ?_
    obtain ⟨c52, h⟩ := h
    refine rc_iald X T0.2.1 (by decide) dX8_wears_157 c52 ?_
    obtain ⟨c53, h⟩ := h
    refine rc_iast X T0.2.1 (by decide) dX8_wears_158 c53 (fun I54 e54 => ?_)
    have h := h I54 e54
    refine rc_iinc X [(3, .int (rc_o (x3 + (-1)))), (0, .ref a0), (1, .int (rc_o x1))] dX8_wears_159 2 rfl (by decide) rfl ?_
    refine rc_goto X 133 dX8_wears_162 (by decide) ?_
    refine rc_subl [(0, .ref a0), (1, .int (rc_o x1)), (3, .int (rc_o (x3 + (-1))))] [1, 2, 0] rfl ?_
    exact hk133 _ _ _ h
noncomputable def rX8_wears_133 (G : rc_G) (post : rc_M → Prop) (a0 : Nat)  (n : Nat) : Int → Int → rc_M → Prop :=
  Nat.rec (motive := fun _ => Int → Int → rc_M → Prop) (fun _ _ _ => False) (fun _ ih => wX8_wears_133 G post a0  ih) n
set_option maxRecDepth 100000 in
set_option maxHeartbeats 4000000 in
theorem sX8_wears_133 {p : Program} {l : Launch} {e : Env} {s : State} {m : MethodId} {below : List Frame} {meth : Method} {c : Code} {G : rc_G} {a0 : Nat} {I : rc_M} {post : rc_M → Prop}  {n : Nat} {x1 : Int} {x3 : Int} (X : rc_X p s m ([.ref a0] : List Value).toArray meth c cX8_wears 4 wsX8_wears RX8 G (rc_A G)) (hr : meth.sig.returnType = none) (T0 : kX8 G a0)  (h : rX8_wears_133 G post a0  n x1 x3 I) : rc_g p l e rmX8_wears s m ([.ref a0] : List Value).toArray below meth c 0 0 (MQ below (rc_QV G post) ([.ref a0] : List Value).toArray s 0 0 (rc_A G)) 4 G (rc_A G) 133 [(0, .ref a0), (1, .int (rc_o x1)), (3, .int (rc_o x3))] [] I := by
  induction n generalizing x1 x3 I with
  | zero => exact h.elim
  | succ n ih => exact gX8_wears_133 (k133 := rX8_wears_133 G post a0  n) X hr T0  (fun x1 x3 J h2 => ih h2) h
def wX8_wears_70 (G : rc_G) (post : rc_M → Prop) (a0 : Nat)  (x1 : Int) (x2 : Int) (y0 : Int) (y1 : Int) (y2 : Int) (I : rc_M) : Prop :=
  (0 ≤ y2 ∧ y2 < 199) ∧ (∀ I20, I20 = rc_s I (a0 + 1) y2 (y1 - y0) → (0 ≤ x2 ∧ x2 < 199) ∧ (rc_R (I20 (a0 + 1) x2) ∧ ((¬ (I20 (a0 + 1) x2) = 0 → post I20) ∧ ((I20 (a0 + 1) x2) = 0 → wX8_on G x1 0 I20 (fun r25 I24 => (0 ≤ r25 ∧ r25 < 199) ∧ (∀ I27, I27 = rc_s I24 (a0 + 1) r25 5 → wX8_on G x1 3 I27 (fun r29 I28 => wX8_on G x1 2 I28 (fun r31 I30 => (0 ≤ r31 ∧ r31 < 199) ∧ ((0 ≤ r29 ∧ r29 < 199) ∧ (∀ I34, I34 = rc_s I30 (a0 + 1) r29 (I30 (a0 + 1) r31) → ∀ I35, I35 = rc_s I34 (a0 + 1) 169 ((I34 (a0 + 1) 169) + 1) → ∃ n, rX8_wears_133 G post a0  n x1 (I35 (a0 + 1) 174) I35))))))))))
set_option maxRecDepth 100000 in
set_option maxHeartbeats 4000000 in
theorem gX8_wears_70 {p : Program} {l : Launch} {e : Env} {s : State} {m : MethodId} {below : List Frame} {meth : Method} {c : Code} {G : rc_G} {a0 : Nat} {I : rc_M} {post : rc_M → Prop}  {x1 : Int} {x2 : Int} {y0 : Int} {y1 : Int} {y2 : Int} (X : rc_X p s m ([.ref a0] : List Value).toArray meth c cX8_wears 4 wsX8_wears RX8 G (rc_A G)) (hr : meth.sig.returnType = none) (T0 : kX8 G a0)   (h : wX8_wears_70 G post a0  x1 x2 y0 y1 y2 I) : rc_g p l e rmX8_wears s m ([.ref a0] : List Value).toArray below meth c 0 0 (MQ below (rc_QV G post) ([.ref a0] : List Value).toArray s 0 0 (rc_A G)) 4 G (rc_A G) 70 [(0, .ref a0), (1, .int (rc_o x1)), (2, .int (rc_o x2))] [.int (rc_o y0), .int (rc_o y1), .int (rc_o y2), .ref (a0 + 1)] I := by
  unfold wX8_wears_70 at h
  refine rc_isub X dX8_wears_70 ?_
  obtain ⟨c19, h⟩ := h
  refine rc_iast X T0.2.1 (by decide) dX8_wears_71 c19 (fun I20 e20 => ?_)
  have h := h I20 e20
  refine rc_aload_n X dX8_wears_72 rfl 0 rfl ?_
  refine gfX8_v X T0.1 nX8_wears_X8 qX8_wears_1 dX8_wears_73 ?_
  refine rc_iload_n X dX8_wears_76 rfl 2 rfl ?_
  obtain ⟨c21, h⟩ := h
  refine rc_iald X T0.2.1 (by decide) dX8_wears_77 c21 ?_
  obtain ⟨c22, h⟩ := h
  refine rc_if_ne X 234 dX8_wears_78 (by decide) c22 (fun c23 => ?_) (fun c23 => ?_)
  · have h := h.1 c23
    exact rc_vret X hr dX8_wears_234 h
  · have h := h.2 c23
    refine rc_aload_n X dX8_wears_81 rfl 0 rfl ?_
    refine gfX8_v X T0.1 nX8_wears_X8 qX8_wears_1 dX8_wears_82 ?_
    refine rc_iload_n X dX8_wears_85 rfl 1 rfl ?_
    refine rc_iconst X dX8_wears_86 ?_
    refine rc_cSI (rest := [.ref (a0 + 1)]) X (mX8_on  h) gX8_wears_X8_on rfl ⟨rfl, rfl⟩ dyX8_on ⟨Nat.le_of_ble_eq_true rfl, Nat.le_of_ble_eq_true rfl⟩ rfl rfl (Nat.le_of_ble_eq_true rfl) dX8_wears_87 ⟨Nat.zero_le _, Nat.zero_le _⟩ (fun r25 I24 h => ?_)
    refine rc_iconst X dX8_wears_90 ?_
    obtain ⟨c26, h⟩ := h
    refine rc_iast X T0.2.1 (by decide) dX8_wears_91 c26 (fun I27 e27 => ?_)
    have h := h I27 e27
    refine rc_aload_n X dX8_wears_92 rfl 0 rfl ?_
    refine gfX8_v X T0.1 nX8_wears_X8 qX8_wears_1 dX8_wears_93 ?_
    refine rc_iload_n X dX8_wears_96 rfl 1 rfl ?_
    refine rc_iconst X dX8_wears_97 ?_
    refine rc_cSI (rest := [.ref (a0 + 1)]) X (mX8_on  h) gX8_wears_X8_on rfl ⟨rfl, rfl⟩ dyX8_on ⟨Nat.le_of_ble_eq_true rfl, Nat.le_of_ble_eq_true rfl⟩ rfl rfl (Nat.le_of_ble_eq_true rfl) dX8_wears_98 ⟨Nat.zero_le _, Nat.zero_le _⟩ (fun r29 I28 h => ?_)
    refine rc_aload_n X dX8_wears_101 rfl 0 rfl ?_
    refine gfX8_v X T0.1 nX8_wears_X8 qX8_wears_1 dX8_wears_102 ?_
    refine rc_iload_n X dX8_wears_105 rfl 1 rfl ?_
    refine rc_iconst X dX8_wears_106 ?_
    refine rc_cSI (rest := [.ref (a0 + 1), .int (rc_o r29), .ref (a0 + 1)]) X (mX8_on  h) gX8_wears_X8_on rfl ⟨rfl, rfl⟩ dyX8_on ⟨Nat.le_of_ble_eq_true rfl, Nat.le_of_ble_eq_true rfl⟩ rfl rfl (Nat.le_of_ble_eq_true rfl) dX8_wears_107 ⟨Nat.zero_le _, Nat.zero_le _⟩ (fun r31 I30 h => ?_)
    obtain ⟨c32, h⟩ := h
    refine rc_iald X T0.2.1 (by decide) dX8_wears_110 c32 ?_
    obtain ⟨c33, h⟩ := h
    refine rc_iast X T0.2.1 (by decide) dX8_wears_111 c33 (fun I34 e34 => ?_)
    have h := h I34 e34
    refine rc_aload_n X dX8_wears_112 rfl 0 rfl ?_
    refine gfX8_v X T0.1 nX8_wears_X8 qX8_wears_1 dX8_wears_113 ?_
    refine rc_sipush X dX8_wears_116 (rc_b16 _ ⟨by decide, by decide⟩) ?_
    refine rc_dup2 X dX8_wears_119 rfl rfl ?_
    refine rc_iald X T0.2.1 (by decide) dX8_wears_120 ⟨by decide, by decide⟩ ?_
    refine rc_iconst X dX8_wears_121 ?_
    refine rc_iadd X dX8_wears_122 ?_
    refine rc_iast X T0.2.1 (by decide) dX8_wears_123 ⟨by decide, by decide⟩ (fun I35 e35 => ?_)
    have h := h I35 e35
    refine rc_aload_n X dX8_wears_124 rfl 0 rfl ?_
    refine gfX8_v X T0.1 nX8_wears_X8 qX8_wears_1 dX8_wears_125 ?_
    refine rc_sipush X dX8_wears_128 (rc_b16 _ ⟨by decide, by decide⟩) ?_
    refine rc_iald X T0.2.1 (by decide) dX8_wears_131 ⟨by decide, by decide⟩ ?_
    refine rc_istore_n X [(3, .int (rc_o (I35 (a0 + 1) 174))), (0, .ref a0), (1, .int (rc_o x1)), (2, .int (rc_o x2))] dX8_wears_132 rfl (by decide) rfl ?_
    refine rc_subl [(0, .ref a0), (1, .int (rc_o x1)), (3, .int (rc_o (I35 (a0 + 1) 174)))] [1, 2, 0] rfl ?_
    obtain ⟨n, h⟩ := h
    exact sX8_wears_133 X hr T0  h
def wX8_wears (G : rc_G) (a0 : Nat) (I : rc_M) (post : rc_M → Prop) : Prop :=
  wX8_on G (I (a0 + 1) 165) 0 I (fun r2 I1 => (0 ≤ r2 ∧ r2 < 199) ∧ (rc_R (I1 (a0 + 1) r2) ∧ (((I1 (a0 + 1) r2) = 3 → wX8_reelOn G a0 (I (a0 + 1) 165) I1 (fun r7 I6 => wX8_on G (I (a0 + 1) 165) 2 I6 (fun r9 I8 => (0 ≤ r9 ∧ r9 < 199) ∧ (wX8_strengthAt G a0 r7 (I8 (a0 + 1) r9) I8 (fun r12 I11 => rc_R r12 ∧ ((0 ≤ r12 → (0 ≤ r12 ∧ r12 < 199) ∧ ((0 ≤ r12 ∧ r12 < 199) ∧ (rc_R (I11 (a0 + 1) r12) ∧ (((I11 (a0 + 1) r12) ≤ 0 → wX8_wears_70 G post a0  (I (a0 + 1) 165) r12 0 (I11 (a0 + 1) r12) r12 I11) ∧ (¬ (I11 (a0 + 1) r12) ≤ 0 → wX8_wears_70 G post a0  (I (a0 + 1) 165) r12 1 (I11 (a0 + 1) r12) r12 I11))))) ∧ (¬ 0 ≤ r12 → post I11))))))) ∧ (¬ (I1 (a0 + 1) r2) = 3 → post I1))))
set_option maxRecDepth 100000 in
set_option maxHeartbeats 4000000 in
theorem gX8_wears_0 {p : Program} {l : Launch} {e : Env} {s : State} {m : MethodId} {below : List Frame} {meth : Method} {c : Code} {G : rc_G} {a0 : Nat} {I : rc_M} {post : rc_M → Prop}  (X : rc_X p s m ([.ref a0] : List Value).toArray meth c cX8_wears 4 wsX8_wears RX8 G (rc_A G)) (hr : meth.sig.returnType = none) (T0 : kX8 G a0)  (h : wX8_wears G a0 I post) : rc_g p l e rmX8_wears s m ([.ref a0] : List Value).toArray below meth c 0 0 (MQ below (rc_QV G post) ([.ref a0] : List Value).toArray s 0 0 (rc_A G)) 4 G (rc_A G) 0 [(0, .ref a0)] [] I := by
  unfold wX8_wears at h
  refine rc_aload_n X dX8_wears_0 rfl 0 rfl ?_
  refine gfX8_v X T0.1 nX8_wears_X8 qX8_wears_1 dX8_wears_1 ?_
  refine rc_sipush X dX8_wears_4 (rc_b16 _ ⟨by decide, by decide⟩) ?_
  refine rc_iald X T0.2.1 (by decide) dX8_wears_7 ⟨by decide, by decide⟩ ?_
  refine rc_istore_n X [(1, .int (rc_o (I (a0 + 1) 165))), (0, .ref a0)] dX8_wears_8 rfl (by decide) rfl ?_
  refine rc_aload_n X dX8_wears_9 rfl 1 rfl ?_
  refine gfX8_v X T0.1 nX8_wears_X8 qX8_wears_1 dX8_wears_10 ?_
  refine rc_iload_n X dX8_wears_13 rfl 0 rfl ?_
  refine rc_iconst X dX8_wears_14 ?_
  refine rc_cSI (rest := [.ref (a0 + 1)]) X (mX8_on  h) gX8_wears_X8_on rfl ⟨rfl, rfl⟩ dyX8_on ⟨Nat.le_of_ble_eq_true rfl, Nat.le_of_ble_eq_true rfl⟩ rfl rfl (Nat.le_of_ble_eq_true rfl) dX8_wears_15 ⟨Nat.zero_le _, Nat.zero_le _⟩ (fun r2 I1 h => ?_)
  obtain ⟨c3, h⟩ := h
  refine rc_iald X T0.2.1 (by decide) dX8_wears_18 c3 ?_
  refine rc_iconst X dX8_wears_19 ?_
  obtain ⟨c4, h⟩ := h
  refine rc_ic_eq X 24 dX8_wears_20 (by decide) c4 ⟨by decide, by decide⟩ (fun c5 => ?_) (fun c5 => ?_)
  · have h := h.1 c5
    refine rc_aload_n X dX8_wears_24 rfl 1 rfl ?_
    refine rc_aload_n X dX8_wears_25 rfl 1 rfl ?_
    refine rc_iload_n X dX8_wears_26 rfl 0 rfl ?_
    refine rc_cVI (rest := [.ref a0]) X (mX8_reelOn T0 h) gX8_wears_X8_reelOn rfl ⟨rfl, rfl⟩ dyX8_reelOn ⟨Nat.le_of_ble_eq_true rfl, Nat.le_of_ble_eq_true rfl⟩ (rc_recv X T0.1 rfl) rfl rfl (Nat.le_of_ble_eq_true rfl) dX8_wears_27 ⟨Nat.zero_le _, Nat.zero_le _⟩ (fun r7 I6 h => ?_)
    refine rc_aload_n X dX8_wears_30 rfl 1 rfl ?_
    refine gfX8_v X T0.1 nX8_wears_X8 qX8_wears_1 dX8_wears_31 ?_
    refine rc_iload_n X dX8_wears_34 rfl 0 rfl ?_
    refine rc_iconst X dX8_wears_35 ?_
    refine rc_cSI (rest := [.ref (a0 + 1), .int (rc_o r7), .ref a0]) X (mX8_on  h) gX8_wears_X8_on rfl ⟨rfl, rfl⟩ dyX8_on ⟨Nat.le_of_ble_eq_true rfl, Nat.le_of_ble_eq_true rfl⟩ rfl rfl (Nat.le_of_ble_eq_true rfl) dX8_wears_36 ⟨Nat.zero_le _, Nat.zero_le _⟩ (fun r9 I8 h => ?_)
    obtain ⟨c10, h⟩ := h
    refine rc_iald X T0.2.1 (by decide) dX8_wears_39 c10 ?_
    refine rc_cVI (rest := []) X (mX8_strengthAt T0 h) gX8_wears_X8_strengthAt rfl ⟨rfl, rfl⟩ dyX8_strengthAt ⟨Nat.le_of_ble_eq_true rfl, Nat.le_of_ble_eq_true rfl⟩ (rc_recv X T0.1 rfl) rfl rfl (Nat.le_of_ble_eq_true rfl) dX8_wears_40 ⟨Nat.zero_le _, Nat.zero_le _⟩ (fun r12 I11 h => ?_)
    refine rc_istore_n X [(2, .int (rc_o r12)), (1, .int (rc_o (I (a0 + 1) 165))), (0, .ref a0)] dX8_wears_43 rfl (by decide) rfl ?_
    refine rc_iload_n X dX8_wears_44 rfl 0 rfl ?_
    obtain ⟨c13, h⟩ := h
    refine rc_if_ge X 49 dX8_wears_45 (by decide) c13 (fun c14 => ?_) (fun c14 => ?_)
    · have h := h.1 c14
      refine rc_aload_n X dX8_wears_49 rfl 2 rfl ?_
      refine gfX8_v X T0.1 nX8_wears_X8 qX8_wears_1 dX8_wears_50 ?_
      refine rc_iload_n X dX8_wears_53 rfl 0 rfl ?_
      refine rc_dup2 X dX8_wears_54 rfl rfl ?_
      obtain ⟨c15, h⟩ := h
      refine rc_iald X T0.2.1 (by decide) dX8_wears_55 c15 ?_
      refine rc_aload_n X dX8_wears_56 rfl 2 rfl ?_
      refine gfX8_v X T0.1 nX8_wears_X8 qX8_wears_1 dX8_wears_57 ?_
      refine rc_iload_n X dX8_wears_60 rfl 0 rfl ?_
      obtain ⟨c16, h⟩ := h
      refine rc_iald X T0.2.1 (by decide) dX8_wears_61 c16 ?_
      obtain ⟨c17, h⟩ := h
      refine rc_if_le X 69 dX8_wears_62 (by decide) c17 (fun c18 => ?_) (fun c18 => ?_)
      · have h := h.1 c18
        refine rc_iconst X dX8_wears_69 ?_
        refine rc_subl [(0, .ref a0), (1, .int (rc_o (I (a0 + 1) 165))), (2, .int (rc_o r12))] [2, 1, 0] rfl ?_
        exact gX8_wears_70 X hr T0   h
      · have h := h.2 c18
        refine rc_iconst X dX8_wears_65 ?_
        refine rc_goto X 70 dX8_wears_66 (by decide) ?_
        refine rc_subl [(0, .ref a0), (1, .int (rc_o (I (a0 + 1) 165))), (2, .int (rc_o r12))] [2, 1, 0] rfl ?_
        exact gX8_wears_70 X hr T0   h
    · have h := h.2 c14
      exact rc_vret X hr dX8_wears_48 h
  · have h := h.2 c5
    exact rc_vret X hr dX8_wears_23 h
theorem mX8_wears {l : Launch} {G : rc_G} {a0 : Nat} {I : rc_M} {post : rc_M → Prop} (T0 : kX8 G a0) (h : wX8_wears G a0 I post) : rc_CV l yX8_wears wsX8_wears rmX8_wears G [.ref a0] I post :=
  rc_body (by decide +kernel) rfl rfl (Nat.le_of_ble_eq_true rfl) rfl (fun p e s m below meth c X hr => gX8_wears_0 X hr T0 h)
/-! X8_threads -/
abbrev rmX8_threads : Room := { frames := 0, cells := 0, slots := 0, locals := 0 }
theorem dyX8_threads : yX8_threads.cls = RX8 ∧ yX8_threads.cls ≠ "java/lang/invoke/MethodHandle" ∧ yX8_threads.cls ≠ "java/lang/invoke/VarHandle" ∧ (parseMethodDescriptor yX8_threads.desc).map (fun d => d.parameters.length) = some 0 := ⟨rfl, by decide +kernel, by decide +kernel, by decide +kernel⟩
theorem qX8_threads_1 : Cond.fieldLink RX8 7 "ReelChangerModel" "v" "[I" ∈ wsX8_threads := List.mem_of_getElem? (i := 1) (by decide +kernel)
theorem nX8_threads_X8 : ∀ w ∈ wsX80, w ∈ wsX8_threads := fun w h => List.mem_cons_of_mem _ (List.mem_append_right _ (h))
def wX8_threads_67 (G : rc_G) (post : Int → rc_M → Prop) (a0 : Nat) (k33 : Int → Int → rc_M → Prop) (x2 : Int) (y0 : Int) (y1 : Int) (I : rc_M) : Prop :=
  k33 (y1 + y0) (x2 + 1) I
set_option maxRecDepth 100000 in
set_option maxHeartbeats 4000000 in
theorem gX8_threads_67 {p : Program} {l : Launch} {e : Env} {s : State} {m : MethodId} {below : List Frame} {meth : Method} {c : Code} {G : rc_G} {a0 : Nat} {I : rc_M} {post : Int → rc_M → Prop} {k33 : Int → Int → rc_M → Prop} {x2 : Int} {y0 : Int} {y1 : Int} (X : rc_X p s m ([.ref a0] : List Value).toArray meth c cX8_threads 3 wsX8_threads RX8 G (rc_A G)) (hr : meth.sig.returnType = some .int) (T0 : kX8 G a0) (hk33 : ∀ (x1 : Int) (x2 : Int) (J : rc_M), k33 x1 x2 J → rc_g p l e rmX8_threads s m ([.ref a0] : List Value).toArray below meth c 0 0 (MQ below (rc_QI G post) ([.ref a0] : List Value).toArray s 0 0 (rc_A G)) 3 G (rc_A G) 33 [(0, .ref a0), (1, .int (rc_o x1)), (2, .int (rc_o x2))] [] J)  (h : wX8_threads_67 G post a0 k33 x2 y0 y1 I) : rc_g p l e rmX8_threads s m ([.ref a0] : List Value).toArray below meth c 0 0 (MQ below (rc_QI G post) ([.ref a0] : List Value).toArray s 0 0 (rc_A G)) 3 G (rc_A G) 67 [(0, .ref a0), (2, .int (rc_o x2))] [.int (rc_o y0), .int (rc_o y1)] I := by
  unfold wX8_threads_67 at h
  refine rc_iadd X dX8_threads_67 ?_
  refine rc_istore_n X [(1, .int (rc_o (y1 + y0))), (0, .ref a0), (2, .int (rc_o x2))] dX8_threads_68 rfl (by decide) rfl ?_
  refine rc_iinc X [(2, .int (rc_o (x2 + 1))), (1, .int (rc_o (y1 + y0))), (0, .ref a0)] dX8_threads_69 2 rfl (by decide) rfl ?_
  refine rc_goto X 33 dX8_threads_72 (by decide) ?_
  refine rc_subl [(0, .ref a0), (1, .int (rc_o (y1 + y0))), (2, .int (rc_o (x2 + 1)))] [2, 1, 0] rfl ?_
  exact hk33 _ _ _ h
def wX8_threads_33 (G : rc_G) (post : Int → rc_M → Prop) (a0 : Nat) (k33 : Int → Int → rc_M → Prop) (x1 : Int) (x2 : Int) (I : rc_M) : Prop :=
  rc_R x2 ∧ (rc_R (I (a0 + 1) 174) ∧ (((I (a0 + 1) 174) ≤ x2 → post x1 I) ∧ (¬ (I (a0 + 1) 174) ≤ x2 → (0 ≤ 175 + x2 ∧ 175 + x2 < 199) ∧ ((0 ≤ (I (a0 + 1) (175 + x2)) ∧ (I (a0 + 1) (175 + x2)) < 2147483648) ∧ (rc_R ((I (a0 + 1) (175 + x2)) % 3) ∧ ((¬ ((I (a0 + 1) (175 + x2)) % 3) = 1 → wX8_threads_67 G post a0 k33 x2 0 x1 I) ∧ (((I (a0 + 1) (175 + x2)) % 3) = 1 → wX8_threads_67 G post a0 k33 x2 1 x1 I)))))))
set_option maxRecDepth 100000 in
set_option maxHeartbeats 4000000 in
theorem gX8_threads_33 {p : Program} {l : Launch} {e : Env} {s : State} {m : MethodId} {below : List Frame} {meth : Method} {c : Code} {G : rc_G} {a0 : Nat} {I : rc_M} {post : Int → rc_M → Prop} {k33 : Int → Int → rc_M → Prop} {x1 : Int} {x2 : Int} (X : rc_X p s m ([.ref a0] : List Value).toArray meth c cX8_threads 3 wsX8_threads RX8 G (rc_A G)) (hr : meth.sig.returnType = some .int) (T0 : kX8 G a0) (hk33 : ∀ (x1 : Int) (x2 : Int) (J : rc_M), k33 x1 x2 J → rc_g p l e rmX8_threads s m ([.ref a0] : List Value).toArray below meth c 0 0 (MQ below (rc_QI G post) ([.ref a0] : List Value).toArray s 0 0 (rc_A G)) 3 G (rc_A G) 33 [(0, .ref a0), (1, .int (rc_o x1)), (2, .int (rc_o x2))] [] J)  (h : wX8_threads_33 G post a0 k33 x1 x2 I) : rc_g p l e rmX8_threads s m ([.ref a0] : List Value).toArray below meth c 0 0 (MQ below (rc_QI G post) ([.ref a0] : List Value).toArray s 0 0 (rc_A G)) 3 G (rc_A G) 33 [(0, .ref a0), (1, .int (rc_o x1)), (2, .int (rc_o x2))] [] I := by
  unfold wX8_threads_33 at h
  refine rc_iload_n X dX8_threads_33 rfl 2 rfl ?_
  refine rc_aload_n X dX8_threads_34 rfl 0 rfl ?_
  refine gfX8_v X T0.1 nX8_threads_X8 qX8_threads_1 dX8_threads_35 ?_
  refine rc_sipush X dX8_threads_38 (rc_b16 _ ⟨by decide, by decide⟩) ?_
  refine rc_iald X T0.2.1 (by decide) dX8_threads_41 ⟨by decide, by decide⟩ ?_
  obtain ⟨c3, h⟩ := h
  obtain ⟨c4, h⟩ := h
  refine rc_ic_ge X 75 dX8_threads_42 (by decide) c3 c4 (fun c5 => ?_) (fun c5 => ?_)
  · have h := h.1 c5
    refine rc_iload_n X dX8_threads_75 rfl 1 rfl ?_
    exact rc_iret X hr dX8_threads_76 h
  · have h := h.2 c5
    refine rc_iload_n X dX8_threads_45 rfl 1 rfl ?_
    refine rc_aload_n X dX8_threads_46 rfl 0 rfl ?_
    refine gfX8_v X T0.1 nX8_threads_X8 qX8_threads_1 dX8_threads_47 ?_
    refine rc_sipush X dX8_threads_50 (rc_b16 _ ⟨by decide, by decide⟩) ?_
    refine rc_iload_n X dX8_threads_53 rfl 2 rfl ?_
    refine rc_iadd X dX8_threads_54 ?_
    obtain ⟨c6, h⟩ := h
    refine rc_iald X T0.2.1 (by decide) dX8_threads_55 c6 ?_
    refine rc_iconst X dX8_threads_56 ?_
    obtain ⟨c7, h⟩ := h
    refine rc_irem X dX8_threads_57 c7 ⟨by decide, by decide⟩ ?_
    refine rc_iconst X dX8_threads_58 ?_
    obtain ⟨c8, h⟩ := h
    refine rc_ic_ne X 66 dX8_threads_59 (by decide) c8 ⟨by decide, by decide⟩ (fun c9 => ?_) (fun c9 => ?_)
    · have h := h.1 c9
      refine rc_iconst X dX8_threads_66 ?_
      refine rc_subl [(0, .ref a0), (2, .int (rc_o x2))] [0, 2] rfl ?_
      exact gX8_threads_67 X hr T0 hk33  h
    · have h := h.2 c9
      refine rc_iconst X dX8_threads_62 ?_
      refine rc_goto X 67 dX8_threads_63 (by decide) ?_
      refine rc_subl [(0, .ref a0), (2, .int (rc_o x2))] [0, 2] rfl ?_
      exact gX8_threads_67 X hr T0 hk33  h
noncomputable def rX8_threads_33 (G : rc_G) (post : Int → rc_M → Prop) (a0 : Nat)  (n : Nat) : Int → Int → rc_M → Prop :=
  Nat.rec (motive := fun _ => Int → Int → rc_M → Prop) (fun _ _ _ => False) (fun _ ih => wX8_threads_33 G post a0  ih) n
set_option maxRecDepth 100000 in
set_option maxHeartbeats 4000000 in
theorem sX8_threads_33 {p : Program} {l : Launch} {e : Env} {s : State} {m : MethodId} {below : List Frame} {meth : Method} {c : Code} {G : rc_G} {a0 : Nat} {I : rc_M} {post : Int → rc_M → Prop}  {n : Nat} {x1 : Int} {x2 : Int} (X : rc_X p s m ([.ref a0] : List Value).toArray meth c cX8_threads 3 wsX8_threads RX8 G (rc_A G)) (hr : meth.sig.returnType = some .int) (T0 : kX8 G a0)  (h : rX8_threads_33 G post a0  n x1 x2 I) : rc_g p l e rmX8_threads s m ([.ref a0] : List Value).toArray below meth c 0 0 (MQ below (rc_QI G post) ([.ref a0] : List Value).toArray s 0 0 (rc_A G)) 3 G (rc_A G) 33 [(0, .ref a0), (1, .int (rc_o x1)), (2, .int (rc_o x2))] [] I := by
  induction n generalizing x1 x2 I with
  | zero => exact h.elim
  | succ n ih => exact gX8_threads_33 (k33 := rX8_threads_33 G post a0  n) X hr T0  (fun x1 x2 J h2 => ih h2) h
def wX8_threads_30 (G : rc_G) (post : Int → rc_M → Prop) (a0 : Nat)  (y0 : Int) (I : rc_M) : Prop :=
  ∃ n, rX8_threads_33 G post a0  n y0 0 I
set_option maxRecDepth 100000 in
set_option maxHeartbeats 4000000 in
theorem gX8_threads_30 {p : Program} {l : Launch} {e : Env} {s : State} {m : MethodId} {below : List Frame} {meth : Method} {c : Code} {G : rc_G} {a0 : Nat} {I : rc_M} {post : Int → rc_M → Prop}  {y0 : Int} (X : rc_X p s m ([.ref a0] : List Value).toArray meth c cX8_threads 3 wsX8_threads RX8 G (rc_A G)) (hr : meth.sig.returnType = some .int) (T0 : kX8 G a0)   (h : wX8_threads_30 G post a0  y0 I) : rc_g p l e rmX8_threads s m ([.ref a0] : List Value).toArray below meth c 0 0 (MQ below (rc_QI G post) ([.ref a0] : List Value).toArray s 0 0 (rc_A G)) 3 G (rc_A G) 30 [(0, .ref a0)] [.int (rc_o y0)] I := by
  unfold wX8_threads_30 at h
  refine rc_istore_n X [(1, .int (rc_o y0)), (0, .ref a0)] dX8_threads_30 rfl (by decide) rfl ?_
  refine rc_iconst X dX8_threads_31 ?_
  refine rc_istore_n X [(2, .int (rc_o 0)), (1, .int (rc_o y0)), (0, .ref a0)] dX8_threads_32 rfl (by decide) rfl ?_
  refine rc_subl [(0, .ref a0), (1, .int (rc_o y0)), (2, .int (rc_o 0))] [2, 1, 0] rfl ?_
  obtain ⟨n, h⟩ := h
  exact sX8_threads_33 X hr T0  h
def wX8_threads_29 (G : rc_G) (post : Int → rc_M → Prop) (a0 : Nat)   (I : rc_M) : Prop :=
  wX8_threads_30 G post a0  0 I
set_option maxRecDepth 100000 in
set_option maxHeartbeats 4000000 in
theorem gX8_threads_29 {p : Program} {l : Launch} {e : Env} {s : State} {m : MethodId} {below : List Frame} {meth : Method} {c : Code} {G : rc_G} {a0 : Nat} {I : rc_M} {post : Int → rc_M → Prop}   (X : rc_X p s m ([.ref a0] : List Value).toArray meth c cX8_threads 3 wsX8_threads RX8 G (rc_A G)) (hr : meth.sig.returnType = some .int) (T0 : kX8 G a0)   (h : wX8_threads_29 G post a0   I) : rc_g p l e rmX8_threads s m ([.ref a0] : List Value).toArray below meth c 0 0 (MQ below (rc_QI G post) ([.ref a0] : List Value).toArray s 0 0 (rc_A G)) 3 G (rc_A G) 29 [(0, .ref a0)] [] I := by
  unfold wX8_threads_29 at h
  refine rc_iconst X dX8_threads_29 ?_
  refine rc_subl [(0, .ref a0)] [0] rfl ?_
  exact gX8_threads_30 X hr T0   h
def wX8_threads (G : rc_G) (a0 : Nat) (I : rc_M) (post : Int → rc_M → Prop) : Prop :=
  rc_R (I (a0 + 1) 172) ∧ (((I (a0 + 1) 172) < 0 → wX8_threads_29 G post a0   I) ∧ (¬ (I (a0 + 1) 172) < 0 → (0 ≤ (I (a0 + 1) 172) ∧ (I (a0 + 1) 172) < 2147483648) ∧ (rc_R ((I (a0 + 1) 172) % 3) ∧ ((¬ ((I (a0 + 1) 172) % 3) = 1 → wX8_threads_29 G post a0   I) ∧ (((I (a0 + 1) 172) % 3) = 1 → wX8_threads_30 G post a0  1 I)))))
set_option maxRecDepth 100000 in
set_option maxHeartbeats 4000000 in
theorem gX8_threads_0 {p : Program} {l : Launch} {e : Env} {s : State} {m : MethodId} {below : List Frame} {meth : Method} {c : Code} {G : rc_G} {a0 : Nat} {I : rc_M} {post : Int → rc_M → Prop}  (X : rc_X p s m ([.ref a0] : List Value).toArray meth c cX8_threads 3 wsX8_threads RX8 G (rc_A G)) (hr : meth.sig.returnType = some .int) (T0 : kX8 G a0)  (h : wX8_threads G a0 I post) : rc_g p l e rmX8_threads s m ([.ref a0] : List Value).toArray below meth c 0 0 (MQ below (rc_QI G post) ([.ref a0] : List Value).toArray s 0 0 (rc_A G)) 3 G (rc_A G) 0 [(0, .ref a0)] [] I := by
  unfold wX8_threads at h
  refine rc_aload_n X dX8_threads_0 rfl 0 rfl ?_
  refine gfX8_v X T0.1 nX8_threads_X8 qX8_threads_1 dX8_threads_1 ?_
  refine rc_sipush X dX8_threads_4 (rc_b16 _ ⟨by decide, by decide⟩) ?_
  refine rc_iald X T0.2.1 (by decide) dX8_threads_7 ⟨by decide, by decide⟩ ?_
  obtain ⟨c1, h⟩ := h
  refine rc_if_lt X 29 dX8_threads_8 (by decide) c1 (fun c2 => ?_) (fun c2 => ?_)
  · have h := h.1 c2
    refine rc_subl [(0, .ref a0)] [0] rfl ?_
    exact gX8_threads_29 X hr T0   h
  · have h := h.2 c2
    refine rc_aload_n X dX8_threads_11 rfl 0 rfl ?_
    refine gfX8_v X T0.1 nX8_threads_X8 qX8_threads_1 dX8_threads_12 ?_
    refine rc_sipush X dX8_threads_15 (rc_b16 _ ⟨by decide, by decide⟩) ?_
    refine rc_iald X T0.2.1 (by decide) dX8_threads_18 ⟨by decide, by decide⟩ ?_
    refine rc_iconst X dX8_threads_19 ?_
    obtain ⟨c10, h⟩ := h
    refine rc_irem X dX8_threads_20 c10 ⟨by decide, by decide⟩ ?_
    refine rc_iconst X dX8_threads_21 ?_
    obtain ⟨c11, h⟩ := h
    refine rc_ic_ne X 29 dX8_threads_22 (by decide) c11 ⟨by decide, by decide⟩ (fun c12 => ?_) (fun c12 => ?_)
    · have h := h.1 c12
      refine rc_subl [(0, .ref a0)] [0] rfl ?_
      exact gX8_threads_29 X hr T0   h
    · have h := h.2 c12
      refine rc_iconst X dX8_threads_25 ?_
      refine rc_goto X 30 dX8_threads_26 (by decide) ?_
      refine rc_subl [(0, .ref a0)] [0] rfl ?_
      exact gX8_threads_30 X hr T0   h
theorem mX8_threads {l : Launch} {G : rc_G} {a0 : Nat} {I : rc_M} {post : Int → rc_M → Prop} (T0 : kX8 G a0) (h : wX8_threads G a0 I post) : rc_CI l yX8_threads wsX8_threads rmX8_threads G [.ref a0] I post :=
  rc_body (by decide +kernel) rfl rfl (Nat.le_of_ble_eq_true rfl) rfl (fun p e s m below meth c X hr => gX8_threads_0 X hr T0 h)
/-! X8_runsOut -/
abbrev rmX8_runsOut : Room := { frames := 3, cells := 0, slots := 0, locals := 63 }
theorem dyX8_runsOut : yX8_runsOut.cls = RX8 ∧ yX8_runsOut.cls ≠ "java/lang/invoke/MethodHandle" ∧ yX8_runsOut.cls ≠ "java/lang/invoke/VarHandle" ∧ (parseMethodDescriptor yX8_runsOut.desc).map (fun d => d.parameters.length) = some 0 := ⟨rfl, by decide +kernel, by decide +kernel, by decide +kernel⟩
theorem qX8_runsOut_1 : Cond.fieldLink RX8 7 "ReelChangerModel" "v" "[I" ∈ wsX8_runsOut := List.mem_of_getElem? (i := 1) (by decide +kernel)
theorem nX8_runsOut_X8 : ∀ w ∈ wsX80, w ∈ wsX8_runsOut := fun w h => List.mem_cons_of_mem _ (List.mem_append_right _ (h))
def wX8_runsOut_86 (G : rc_G) (post : rc_M → Prop) (a0 : Nat)  (x1 : Int) (x2 : Int) (y0 : Int) (y1 : Int) (I : rc_M) : Prop :=
  wX8_on G x1 2 I (fun r19 I18 => (0 ≤ r19 ∧ r19 < 199) ∧ (rc_R (I18 (a0 + 1) r19) ∧ (rc_R (y1 - y0) ∧ (((y1 - y0) ≤ (I18 (a0 + 1) r19) → wX8_on G x1 0 I18 (fun r25 I24 => (0 ≤ r25 ∧ r25 < 199) ∧ (∀ I27, I27 = rc_s I24 (a0 + 1) r25 4 → ∀ I28, I28 = rc_s I27 (a0 + 1) 171 1 → rc_R x2 ∧ ((x2 = 0 → wX8_adds G a0 ((3 * x1) + 0) I28 (fun I31 => wX8_threads G a0 I31 (fun r33 I32 => rc_R ((I31 (a0 + 1) 149) - (I31 (a0 + 1) 170)) ∧ (rc_R r33 ∧ ((((I31 (a0 + 1) 149) - (I31 (a0 + 1) 170)) ≤ r33 → post I32) ∧ (¬ ((I31 (a0 + 1) 149) - (I31 (a0 + 1) 170)) ≤ r33 → wX8_adds G a0 ((3 * x1) + 1) I32 (fun I37 => post I37))))))) ∧ (¬ x2 = 0 → ∀ I38, I38 = rc_s I28 (a0 + 1) 163 1 → post I38))))) ∧ (¬ (y1 - y0) ≤ (I18 (a0 + 1) r19) → post I18)))))
set_option maxRecDepth 100000 in
set_option maxHeartbeats 4000000 in
theorem gX8_runsOut_86 {p : Program} {l : Launch} {e : Env} {s : State} {m : MethodId} {below : List Frame} {meth : Method} {c : Code} {G : rc_G} {a0 : Nat} {I : rc_M} {post : rc_M → Prop}  {x1 : Int} {x2 : Int} {y0 : Int} {y1 : Int} (X : rc_X p s m ([.ref a0] : List Value).toArray meth c cX8_runsOut 4 wsX8_runsOut RX8 G (rc_A G)) (hr : meth.sig.returnType = none) (T0 : kX8 G a0)   (h : wX8_runsOut_86 G post a0  x1 x2 y0 y1 I) : rc_g p l e rmX8_runsOut s m ([.ref a0] : List Value).toArray below meth c 0 0 (MQ below (rc_QV G post) ([.ref a0] : List Value).toArray s 0 0 (rc_A G)) 4 G (rc_A G) 86 [(0, .ref a0), (1, .int (rc_o x1)), (2, .int (rc_o x2))] [.int (rc_o y0), .int (rc_o y1)] I := by
  unfold wX8_runsOut_86 at h
  refine rc_isub X dX8_runsOut_86 ?_
  refine rc_istore_n X [(3, .int (rc_o (y1 - y0))), (0, .ref a0), (1, .int (rc_o x1)), (2, .int (rc_o x2))] dX8_runsOut_87 rfl (by decide) rfl ?_
  refine rc_aload_n X dX8_runsOut_88 rfl 1 rfl ?_
  refine gfX8_v X T0.1 nX8_runsOut_X8 qX8_runsOut_1 dX8_runsOut_89 ?_
  refine rc_iload_n X dX8_runsOut_92 rfl 2 rfl ?_
  refine rc_iconst X dX8_runsOut_93 ?_
  refine rc_cSI (rest := [.ref (a0 + 1)]) X (mX8_on  h) gX8_runsOut_X8_on rfl ⟨rfl, rfl⟩ dyX8_on ⟨Nat.le_of_ble_eq_true rfl, Nat.le_of_ble_eq_true rfl⟩ rfl rfl (Nat.le_of_ble_eq_true rfl) dX8_runsOut_94 ⟨Nat.zero_le _, Nat.zero_le _⟩ (fun r19 I18 h => ?_)
  obtain ⟨c20, h⟩ := h
  refine rc_iald X T0.2.1 (by decide) dX8_runsOut_97 c20 ?_
  refine rc_iload_n X dX8_runsOut_98 rfl 0 rfl ?_
  obtain ⟨c21, h⟩ := h
  obtain ⟨c22, h⟩ := h
  refine rc_ic_ge X 103 dX8_runsOut_99 (by decide) c21 c22 (fun c23 => ?_) (fun c23 => ?_)
  · have h := h.1 c23
    refine rc_aload_n X dX8_runsOut_103 rfl 1 rfl ?_
    refine gfX8_v X T0.1 nX8_runsOut_X8 qX8_runsOut_1 dX8_runsOut_104 ?_
    refine rc_iload_n X dX8_runsOut_107 rfl 2 rfl ?_
    refine rc_iconst X dX8_runsOut_108 ?_
    refine rc_cSI (rest := [.ref (a0 + 1)]) X (mX8_on  h) gX8_runsOut_X8_on rfl ⟨rfl, rfl⟩ dyX8_on ⟨Nat.le_of_ble_eq_true rfl, Nat.le_of_ble_eq_true rfl⟩ rfl rfl (Nat.le_of_ble_eq_true rfl) dX8_runsOut_109 ⟨Nat.zero_le _, Nat.zero_le _⟩ (fun r25 I24 h => ?_)
    refine rc_iconst X dX8_runsOut_112 ?_
    obtain ⟨c26, h⟩ := h
    refine rc_iast X T0.2.1 (by decide) dX8_runsOut_113 c26 (fun I27 e27 => ?_)
    have h := h I27 e27
    refine rc_aload_n X dX8_runsOut_114 rfl 1 rfl ?_
    refine gfX8_v X T0.1 nX8_runsOut_X8 qX8_runsOut_1 dX8_runsOut_115 ?_
    refine rc_sipush X dX8_runsOut_118 (rc_b16 _ ⟨by decide, by decide⟩) ?_
    refine rc_iconst X dX8_runsOut_121 ?_
    refine rc_iast X T0.2.1 (by decide) dX8_runsOut_122 ⟨by decide, by decide⟩ (fun I28 e28 => ?_)
    have h := h I28 e28
    refine rc_iload_n X dX8_runsOut_123 rfl 3 rfl ?_
    obtain ⟨c29, h⟩ := h
    refine rc_if_eq X 137 dX8_runsOut_124 (by decide) c29 (fun c30 => ?_) (fun c30 => ?_)
    · have h := h.1 c30
      refine rc_aload_n X dX8_runsOut_137 rfl 1 rfl ?_
      refine rc_iconst X dX8_runsOut_138 ?_
      refine rc_iload_n X dX8_runsOut_139 rfl 2 rfl ?_
      refine rc_imul X dX8_runsOut_140 ?_
      refine rc_iconst X dX8_runsOut_141 ?_
      refine rc_iadd X dX8_runsOut_142 ?_
      refine rc_cVV (rest := []) X (mX8_adds T0 h) gX8_runsOut_X8_adds rfl ⟨rfl, rfl⟩ dyX8_adds ⟨Nat.le_of_ble_eq_true rfl, Nat.le_of_ble_eq_true rfl⟩ (rc_recv X T0.1 rfl) rfl rfl (Nat.le_of_ble_eq_true rfl) dX8_runsOut_143 ⟨Nat.zero_le _, Nat.zero_le _⟩ (fun I31 h => ?_)
      refine rc_aload_n X dX8_runsOut_146 rfl 1 rfl ?_
      refine gfX8_v X T0.1 nX8_runsOut_X8 qX8_runsOut_1 dX8_runsOut_147 ?_
      refine rc_sipush X dX8_runsOut_150 (rc_b16 _ ⟨by decide, by decide⟩) ?_
      refine rc_iald X T0.2.1 (by decide) dX8_runsOut_153 ⟨by decide, by decide⟩ ?_
      refine rc_aload_n X dX8_runsOut_154 rfl 1 rfl ?_
      refine gfX8_v X T0.1 nX8_runsOut_X8 qX8_runsOut_1 dX8_runsOut_155 ?_
      refine rc_sipush X dX8_runsOut_158 (rc_b16 _ ⟨by decide, by decide⟩) ?_
      refine rc_iald X T0.2.1 (by decide) dX8_runsOut_161 ⟨by decide, by decide⟩ ?_
      refine rc_isub X dX8_runsOut_162 ?_
      refine rc_aload_n X dX8_runsOut_163 rfl 1 rfl ?_
      refine rc_cVI (rest := [.int (rc_o ((I31 (a0 + 1) 149) - (I31 (a0 + 1) 170)))]) X (mX8_threads T0 h) gX8_runsOut_X8_threads rfl ⟨rfl, rfl⟩ dyX8_threads ⟨Nat.le_of_ble_eq_true rfl, Nat.le_of_ble_eq_true rfl⟩ (rc_recv X T0.1 rfl) rfl rfl (Nat.le_of_ble_eq_true rfl) dX8_runsOut_164 ⟨Nat.zero_le _, Nat.zero_le _⟩ (fun r33 I32 h => ?_)
      obtain ⟨c34, h⟩ := h
      obtain ⟨c35, h⟩ := h
      refine rc_ic_le X 179 dX8_runsOut_167 (by decide) c34 c35 (fun c36 => ?_) (fun c36 => ?_)
      · have h := h.1 c36
        exact rc_vret X hr dX8_runsOut_179 h
      · have h := h.2 c36
        refine rc_aload_n X dX8_runsOut_170 rfl 1 rfl ?_
        refine rc_iconst X dX8_runsOut_171 ?_
        refine rc_iload_n X dX8_runsOut_172 rfl 2 rfl ?_
        refine rc_imul X dX8_runsOut_173 ?_
        refine rc_iconst X dX8_runsOut_174 ?_
        refine rc_iadd X dX8_runsOut_175 ?_
        refine rc_cVV (rest := []) X (mX8_adds T0 h) gX8_runsOut_X8_adds rfl ⟨rfl, rfl⟩ dyX8_adds ⟨Nat.le_of_ble_eq_true rfl, Nat.le_of_ble_eq_true rfl⟩ (rc_recv X T0.1 rfl) rfl rfl (Nat.le_of_ble_eq_true rfl) dX8_runsOut_176 ⟨Nat.zero_le _, Nat.zero_le _⟩ (fun I37 h => ?_)
        exact rc_vret X hr dX8_runsOut_179 h
    · have h := h.2 c30
      refine rc_aload_n X dX8_runsOut_127 rfl 1 rfl ?_
      refine gfX8_v X T0.1 nX8_runsOut_X8 qX8_runsOut_1 dX8_runsOut_128 ?_
      refine rc_sipush X dX8_runsOut_131 (rc_b16 _ ⟨by decide, by decide⟩) ?_
      refine rc_iconst X dX8_runsOut_134 ?_
      refine rc_iast X T0.2.1 (by decide) dX8_runsOut_135 ⟨by decide, by decide⟩ (fun I38 e38 => ?_)
      have h := h I38 e38
      exact rc_vret X hr dX8_runsOut_136 h
  · have h := h.2 c23
    exact rc_vret X hr dX8_runsOut_102 h
def wX8_runsOut_64 (G : rc_G) (post : rc_M → Prop) (a0 : Nat)  (x1 : Int) (y0 : Int) (I : rc_M) : Prop :=
  wX8_lengthOn G a0 x1 I (fun r15 I14 => rc_R y0 ∧ ((y0 = 0 → wX8_runsOut_86 G post a0  x1 y0 (I14 (a0 + 1) 143) r15 I14) ∧ (¬ y0 = 0 → wX8_runsOut_86 G post a0  x1 y0 0 r15 I14)))
set_option maxRecDepth 100000 in
set_option maxHeartbeats 4000000 in
theorem gX8_runsOut_64 {p : Program} {l : Launch} {e : Env} {s : State} {m : MethodId} {below : List Frame} {meth : Method} {c : Code} {G : rc_G} {a0 : Nat} {I : rc_M} {post : rc_M → Prop}  {x1 : Int} {y0 : Int} (X : rc_X p s m ([.ref a0] : List Value).toArray meth c cX8_runsOut 4 wsX8_runsOut RX8 G (rc_A G)) (hr : meth.sig.returnType = none) (T0 : kX8 G a0)   (h : wX8_runsOut_64 G post a0  x1 y0 I) : rc_g p l e rmX8_runsOut s m ([.ref a0] : List Value).toArray below meth c 0 0 (MQ below (rc_QV G post) ([.ref a0] : List Value).toArray s 0 0 (rc_A G)) 4 G (rc_A G) 64 [(0, .ref a0), (1, .int (rc_o x1))] [.int (rc_o y0)] I := by
  unfold wX8_runsOut_64 at h
  refine rc_istore_n X [(2, .int (rc_o y0)), (0, .ref a0), (1, .int (rc_o x1))] dX8_runsOut_64 rfl (by decide) rfl ?_
  refine rc_aload_n X dX8_runsOut_65 rfl 1 rfl ?_
  refine rc_iload_n X dX8_runsOut_66 rfl 2 rfl ?_
  refine rc_cVI (rest := []) X (mX8_lengthOn T0 h) gX8_runsOut_X8_lengthOn rfl ⟨rfl, rfl⟩ dyX8_lengthOn ⟨Nat.le_of_ble_eq_true rfl, Nat.le_of_ble_eq_true rfl⟩ (rc_recv X T0.1 rfl) rfl rfl (Nat.le_of_ble_eq_true rfl) dX8_runsOut_67 ⟨Nat.zero_le _, Nat.zero_le _⟩ (fun r15 I14 h => ?_)
  refine rc_iload_n X dX8_runsOut_70 rfl 0 rfl ?_
  obtain ⟨c16, h⟩ := h
  refine rc_if_eq X 78 dX8_runsOut_71 (by decide) c16 (fun c17 => ?_) (fun c17 => ?_)
  · have h := h.1 c17
    refine rc_aload_n X dX8_runsOut_78 rfl 1 rfl ?_
    refine gfX8_v X T0.1 nX8_runsOut_X8 qX8_runsOut_1 dX8_runsOut_79 ?_
    refine rc_sipush X dX8_runsOut_82 (rc_b16 _ ⟨by decide, by decide⟩) ?_
    refine rc_iald X T0.2.1 (by decide) dX8_runsOut_85 ⟨by decide, by decide⟩ ?_
    refine rc_subl [(0, .ref a0), (1, .int (rc_o x1)), (2, .int (rc_o y0))] [1, 2, 0] rfl ?_
    exact gX8_runsOut_86 X hr T0   h
  · have h := h.2 c17
    refine rc_iconst X dX8_runsOut_74 ?_
    refine rc_goto X 86 dX8_runsOut_75 (by decide) ?_
    refine rc_subl [(0, .ref a0), (1, .int (rc_o x1)), (2, .int (rc_o y0))] [1, 2, 0] rfl ?_
    exact gX8_runsOut_86 X hr T0   h
def wX8_runsOut (G : rc_G) (a0 : Nat) (I : rc_M) (post : rc_M → Prop) : Prop :=
  wX8_on G (I (a0 + 1) 165) 0 I (fun r2 I1 => (0 ≤ r2 ∧ r2 < 199) ∧ (rc_R (I1 (a0 + 1) r2) ∧ ((¬ (I1 (a0 + 1) r2) = 3 → post I1) ∧ ((I1 (a0 + 1) r2) = 3 → rc_R (I1 (a0 + 1) 171) ∧ ((¬ (I1 (a0 + 1) 171) = 1 → wX8_on G (I (a0 + 1) 165) 1 I1 (fun r9 I8 => (0 ≤ r9 ∧ r9 < 199) ∧ (rc_R (I8 (a0 + 1) r9) ∧ (rc_R ((I8 (a0 + 1) 149) - 1) ∧ ((¬ (I8 (a0 + 1) r9) = ((I8 (a0 + 1) 149) - 1) → wX8_runsOut_64 G post a0  (I (a0 + 1) 165) 0 I8) ∧ ((I8 (a0 + 1) r9) = ((I8 (a0 + 1) 149) - 1) → wX8_runsOut_64 G post a0  (I (a0 + 1) 165) 1 I8)))))) ∧ ((I1 (a0 + 1) 171) = 1 → post I1))))))
set_option maxRecDepth 100000 in
set_option maxHeartbeats 4000000 in
theorem gX8_runsOut_0 {p : Program} {l : Launch} {e : Env} {s : State} {m : MethodId} {below : List Frame} {meth : Method} {c : Code} {G : rc_G} {a0 : Nat} {I : rc_M} {post : rc_M → Prop}  (X : rc_X p s m ([.ref a0] : List Value).toArray meth c cX8_runsOut 4 wsX8_runsOut RX8 G (rc_A G)) (hr : meth.sig.returnType = none) (T0 : kX8 G a0)  (h : wX8_runsOut G a0 I post) : rc_g p l e rmX8_runsOut s m ([.ref a0] : List Value).toArray below meth c 0 0 (MQ below (rc_QV G post) ([.ref a0] : List Value).toArray s 0 0 (rc_A G)) 4 G (rc_A G) 0 [(0, .ref a0)] [] I := by
  unfold wX8_runsOut at h
  refine rc_aload_n X dX8_runsOut_0 rfl 0 rfl ?_
  refine gfX8_v X T0.1 nX8_runsOut_X8 qX8_runsOut_1 dX8_runsOut_1 ?_
  refine rc_sipush X dX8_runsOut_4 (rc_b16 _ ⟨by decide, by decide⟩) ?_
  refine rc_iald X T0.2.1 (by decide) dX8_runsOut_7 ⟨by decide, by decide⟩ ?_
  refine rc_istore_n X [(1, .int (rc_o (I (a0 + 1) 165))), (0, .ref a0)] dX8_runsOut_8 rfl (by decide) rfl ?_
  refine rc_aload_n X dX8_runsOut_9 rfl 1 rfl ?_
  refine gfX8_v X T0.1 nX8_runsOut_X8 qX8_runsOut_1 dX8_runsOut_10 ?_
  refine rc_iload_n X dX8_runsOut_13 rfl 0 rfl ?_
  refine rc_iconst X dX8_runsOut_14 ?_
  refine rc_cSI (rest := [.ref (a0 + 1)]) X (mX8_on  h) gX8_runsOut_X8_on rfl ⟨rfl, rfl⟩ dyX8_on ⟨Nat.le_of_ble_eq_true rfl, Nat.le_of_ble_eq_true rfl⟩ rfl rfl (Nat.le_of_ble_eq_true rfl) dX8_runsOut_15 ⟨Nat.zero_le _, Nat.zero_le _⟩ (fun r2 I1 h => ?_)
  obtain ⟨c3, h⟩ := h
  refine rc_iald X T0.2.1 (by decide) dX8_runsOut_18 c3 ?_
  refine rc_iconst X dX8_runsOut_19 ?_
  obtain ⟨c4, h⟩ := h
  refine rc_ic_ne X 35 dX8_runsOut_20 (by decide) c4 ⟨by decide, by decide⟩ (fun c5 => ?_) (fun c5 => ?_)
  · have h := h.1 c5
    exact rc_vret X hr dX8_runsOut_35 h
  · have h := h.2 c5
    refine rc_aload_n X dX8_runsOut_23 rfl 1 rfl ?_
    refine gfX8_v X T0.1 nX8_runsOut_X8 qX8_runsOut_1 dX8_runsOut_24 ?_
    refine rc_sipush X dX8_runsOut_27 (rc_b16 _ ⟨by decide, by decide⟩) ?_
    refine rc_iald X T0.2.1 (by decide) dX8_runsOut_30 ⟨by decide, by decide⟩ ?_
    refine rc_iconst X dX8_runsOut_31 ?_
    obtain ⟨c6, h⟩ := h
    refine rc_ic_ne X 36 dX8_runsOut_32 (by decide) c6 ⟨by decide, by decide⟩ (fun c7 => ?_) (fun c7 => ?_)
    · have h := h.1 c7
      refine rc_aload_n X dX8_runsOut_36 rfl 1 rfl ?_
      refine gfX8_v X T0.1 nX8_runsOut_X8 qX8_runsOut_1 dX8_runsOut_37 ?_
      refine rc_iload_n X dX8_runsOut_40 rfl 0 rfl ?_
      refine rc_iconst X dX8_runsOut_41 ?_
      refine rc_cSI (rest := [.ref (a0 + 1)]) X (mX8_on  h) gX8_runsOut_X8_on rfl ⟨rfl, rfl⟩ dyX8_on ⟨Nat.le_of_ble_eq_true rfl, Nat.le_of_ble_eq_true rfl⟩ rfl rfl (Nat.le_of_ble_eq_true rfl) dX8_runsOut_42 ⟨Nat.zero_le _, Nat.zero_le _⟩ (fun r9 I8 h => ?_)
      obtain ⟨c10, h⟩ := h
      refine rc_iald X T0.2.1 (by decide) dX8_runsOut_45 c10 ?_
      refine rc_aload_n X dX8_runsOut_46 rfl 1 rfl ?_
      refine gfX8_v X T0.1 nX8_runsOut_X8 qX8_runsOut_1 dX8_runsOut_47 ?_
      refine rc_sipush X dX8_runsOut_50 (rc_b16 _ ⟨by decide, by decide⟩) ?_
      refine rc_iald X T0.2.1 (by decide) dX8_runsOut_53 ⟨by decide, by decide⟩ ?_
      refine rc_iconst X dX8_runsOut_54 ?_
      refine rc_isub X dX8_runsOut_55 ?_
      obtain ⟨c11, h⟩ := h
      obtain ⟨c12, h⟩ := h
      refine rc_ic_ne X 63 dX8_runsOut_56 (by decide) c11 c12 (fun c13 => ?_) (fun c13 => ?_)
      · have h := h.1 c13
        refine rc_iconst X dX8_runsOut_63 ?_
        refine rc_subl [(0, .ref a0), (1, .int (rc_o (I (a0 + 1) 165)))] [1, 0] rfl ?_
        exact gX8_runsOut_64 X hr T0   h
      · have h := h.2 c13
        refine rc_iconst X dX8_runsOut_59 ?_
        refine rc_goto X 64 dX8_runsOut_60 (by decide) ?_
        refine rc_subl [(0, .ref a0), (1, .int (rc_o (I (a0 + 1) 165)))] [1, 0] rfl ?_
        exact gX8_runsOut_64 X hr T0   h
    · have h := h.2 c7
      exact rc_vret X hr dX8_runsOut_35 h
theorem mX8_runsOut {l : Launch} {G : rc_G} {a0 : Nat} {I : rc_M} {post : rc_M → Prop} (T0 : kX8 G a0) (h : wX8_runsOut G a0 I post) : rc_CV l yX8_runsOut wsX8_runsOut rmX8_runsOut G [.ref a0] I post :=
  rc_body (by decide +kernel) rfl rfl (Nat.le_of_ble_eq_true rfl) rfl (fun p e s m below meth c X hr => gX8_runsOut_0 X hr T0 h)
/-! X8_changes -/
abbrev rmX8_changes : Room := { frames := 1, cells := 0, slots := 0, locals := 21 }
theorem dyX8_changes : yX8_changes.cls = RX8 ∧ yX8_changes.cls ≠ "java/lang/invoke/MethodHandle" ∧ yX8_changes.cls ≠ "java/lang/invoke/VarHandle" ∧ (parseMethodDescriptor yX8_changes.desc).map (fun d => d.parameters.length) = some 0 := ⟨rfl, by decide +kernel, by decide +kernel, by decide +kernel⟩
theorem qX8_changes_1 : Cond.fieldLink RX8 7 "ReelChangerModel" "v" "[I" ∈ wsX8_changes := List.mem_of_getElem? (i := 1) (by decide +kernel)
theorem nX8_changes_X8 : ∀ w ∈ wsX80, w ∈ wsX8_changes := fun w h => List.mem_cons_of_mem _ (List.mem_append_right _ (h))
def wX8_changes (G : rc_G) (a0 : Nat) (I : rc_M) (post : rc_M → Prop) : Prop :=
  rc_R (I (a0 + 1) 171) ∧ ((¬ (I (a0 + 1) 171) = 1 → post I) ∧ ((I (a0 + 1) 171) = 1 → rc_R (I (a0 + 1) 163) ∧ ((¬ (I (a0 + 1) 163) = 0 → post I) ∧ ((I (a0 + 1) 163) = 0 → wX8_on G (1 - (I (a0 + 1) 165)) 0 I (fun r6 I5 => (0 ≤ r6 ∧ r6 < 199) ∧ (rc_R (I5 (a0 + 1) r6) ∧ ((¬ (I5 (a0 + 1) r6) = 2 → post I5) ∧ ((I5 (a0 + 1) r6) = 2 → wX8_on G (1 - (I (a0 + 1) 165)) 2 I5 (fun r11 I10 => (0 ≤ r11 ∧ r11 < 199) ∧ (rc_R (I10 (a0 + 1) r11) ∧ (((I10 (a0 + 1) r11) < 0 → post I10) ∧ (¬ (I10 (a0 + 1) r11) < 0 → wX8_on G (1 - (I (a0 + 1) 165)) 0 I10 (fun r16 I15 => (0 ≤ r16 ∧ r16 < 199) ∧ (∀ I18, I18 = rc_s I15 (a0 + 1) r16 3 → ∀ I19, I19 = rc_s I18 (a0 + 1) 165 (1 - (I (a0 + 1) 165)) → ∀ I20, I20 = rc_s I19 (a0 + 1) 171 0 → wX8_on G (1 - (I (a0 + 1) 165)) 2 I20 (fun r22 I21 => (0 ≤ r22 ∧ r22 < 199) ∧ (∀ I24, I24 = rc_s I21 (a0 + 1) 167 ((I20 (a0 + 1) 167) + (I21 (a0 + 1) r22)) → post I24))))))))))))))))
set_option maxRecDepth 100000 in
set_option maxHeartbeats 4000000 in
theorem gX8_changes_0 {p : Program} {l : Launch} {e : Env} {s : State} {m : MethodId} {below : List Frame} {meth : Method} {c : Code} {G : rc_G} {a0 : Nat} {I : rc_M} {post : rc_M → Prop}  (X : rc_X p s m ([.ref a0] : List Value).toArray meth c cX8_changes 2 wsX8_changes RX8 G (rc_A G)) (hr : meth.sig.returnType = none) (T0 : kX8 G a0)  (h : wX8_changes G a0 I post) : rc_g p l e rmX8_changes s m ([.ref a0] : List Value).toArray below meth c 0 0 (MQ below (rc_QV G post) ([.ref a0] : List Value).toArray s 0 0 (rc_A G)) 2 G (rc_A G) 0 [(0, .ref a0)] [] I := by
  unfold wX8_changes at h
  refine rc_iconst X dX8_changes_0 ?_
  refine rc_aload_n X dX8_changes_1 rfl 0 rfl ?_
  refine gfX8_v X T0.1 nX8_changes_X8 qX8_changes_1 dX8_changes_2 ?_
  refine rc_sipush X dX8_changes_5 (rc_b16 _ ⟨by decide, by decide⟩) ?_
  refine rc_iald X T0.2.1 (by decide) dX8_changes_8 ⟨by decide, by decide⟩ ?_
  refine rc_isub X dX8_changes_9 ?_
  refine rc_istore_n X [(1, .int (rc_o (1 - (I (a0 + 1) 165)))), (0, .ref a0)] dX8_changes_10 rfl (by decide) rfl ?_
  refine rc_aload_n X dX8_changes_11 rfl 1 rfl ?_
  refine gfX8_v X T0.1 nX8_changes_X8 qX8_changes_1 dX8_changes_12 ?_
  refine rc_sipush X dX8_changes_15 (rc_b16 _ ⟨by decide, by decide⟩) ?_
  refine rc_iald X T0.2.1 (by decide) dX8_changes_18 ⟨by decide, by decide⟩ ?_
  refine rc_iconst X dX8_changes_19 ?_
  obtain ⟨c1, h⟩ := h
  refine rc_ic_ne X 111 dX8_changes_20 (by decide) c1 ⟨by decide, by decide⟩ (fun c2 => ?_) (fun c2 => ?_)
  · have h := h.1 c2
    exact rc_vret X hr dX8_changes_111 h
  · have h := h.2 c2
    refine rc_aload_n X dX8_changes_23 rfl 1 rfl ?_
    refine gfX8_v X T0.1 nX8_changes_X8 qX8_changes_1 dX8_changes_24 ?_
    refine rc_sipush X dX8_changes_27 (rc_b16 _ ⟨by decide, by decide⟩) ?_
    refine rc_iald X T0.2.1 (by decide) dX8_changes_30 ⟨by decide, by decide⟩ ?_
    obtain ⟨c3, h⟩ := h
    refine rc_if_ne X 111 dX8_changes_31 (by decide) c3 (fun c4 => ?_) (fun c4 => ?_)
    · have h := h.1 c4
      exact rc_vret X hr dX8_changes_111 h
    · have h := h.2 c4
      refine rc_aload_n X dX8_changes_34 rfl 1 rfl ?_
      refine gfX8_v X T0.1 nX8_changes_X8 qX8_changes_1 dX8_changes_35 ?_
      refine rc_iload_n X dX8_changes_38 rfl 0 rfl ?_
      refine rc_iconst X dX8_changes_39 ?_
      refine rc_cSI (rest := [.ref (a0 + 1)]) X (mX8_on  h) gX8_changes_X8_on rfl ⟨rfl, rfl⟩ dyX8_on ⟨Nat.le_of_ble_eq_true rfl, Nat.le_of_ble_eq_true rfl⟩ rfl rfl (Nat.le_of_ble_eq_true rfl) dX8_changes_40 ⟨Nat.zero_le _, Nat.zero_le _⟩ (fun r6 I5 h => ?_)
      obtain ⟨c7, h⟩ := h
      refine rc_iald X T0.2.1 (by decide) dX8_changes_43 c7 ?_
      refine rc_iconst X dX8_changes_44 ?_
      obtain ⟨c8, h⟩ := h
      refine rc_ic_ne X 111 dX8_changes_45 (by decide) c8 ⟨by decide, by decide⟩ (fun c9 => ?_) (fun c9 => ?_)
      · have h := h.1 c9
        exact rc_vret X hr dX8_changes_111 h
      · have h := h.2 c9
        refine rc_aload_n X dX8_changes_48 rfl 1 rfl ?_
        refine gfX8_v X T0.1 nX8_changes_X8 qX8_changes_1 dX8_changes_49 ?_
        refine rc_iload_n X dX8_changes_52 rfl 0 rfl ?_
        refine rc_iconst X dX8_changes_53 ?_
        refine rc_cSI (rest := [.ref (a0 + 1)]) X (mX8_on  h) gX8_changes_X8_on rfl ⟨rfl, rfl⟩ dyX8_on ⟨Nat.le_of_ble_eq_true rfl, Nat.le_of_ble_eq_true rfl⟩ rfl rfl (Nat.le_of_ble_eq_true rfl) dX8_changes_54 ⟨Nat.zero_le _, Nat.zero_le _⟩ (fun r11 I10 h => ?_)
        obtain ⟨c12, h⟩ := h
        refine rc_iald X T0.2.1 (by decide) dX8_changes_57 c12 ?_
        obtain ⟨c13, h⟩ := h
        refine rc_if_lt X 111 dX8_changes_58 (by decide) c13 (fun c14 => ?_) (fun c14 => ?_)
        · have h := h.1 c14
          exact rc_vret X hr dX8_changes_111 h
        · have h := h.2 c14
          refine rc_aload_n X dX8_changes_61 rfl 1 rfl ?_
          refine gfX8_v X T0.1 nX8_changes_X8 qX8_changes_1 dX8_changes_62 ?_
          refine rc_iload_n X dX8_changes_65 rfl 0 rfl ?_
          refine rc_iconst X dX8_changes_66 ?_
          refine rc_cSI (rest := [.ref (a0 + 1)]) X (mX8_on  h) gX8_changes_X8_on rfl ⟨rfl, rfl⟩ dyX8_on ⟨Nat.le_of_ble_eq_true rfl, Nat.le_of_ble_eq_true rfl⟩ rfl rfl (Nat.le_of_ble_eq_true rfl) dX8_changes_67 ⟨Nat.zero_le _, Nat.zero_le _⟩ (fun r16 I15 h => ?_)
          refine rc_iconst X dX8_changes_70 ?_
          obtain ⟨c17, h⟩ := h
          refine rc_iast X T0.2.1 (by decide) dX8_changes_71 c17 (fun I18 e18 => ?_)
          have h := h I18 e18
          refine rc_aload_n X dX8_changes_72 rfl 1 rfl ?_
          refine gfX8_v X T0.1 nX8_changes_X8 qX8_changes_1 dX8_changes_73 ?_
          refine rc_sipush X dX8_changes_76 (rc_b16 _ ⟨by decide, by decide⟩) ?_
          refine rc_iload_n X dX8_changes_79 rfl 0 rfl ?_
          refine rc_iast X T0.2.1 (by decide) dX8_changes_80 ⟨by decide, by decide⟩ (fun I19 e19 => ?_)
          have h := h I19 e19
          refine rc_aload_n X dX8_changes_81 rfl 1 rfl ?_
          refine gfX8_v X T0.1 nX8_changes_X8 qX8_changes_1 dX8_changes_82 ?_
          refine rc_sipush X dX8_changes_85 (rc_b16 _ ⟨by decide, by decide⟩) ?_
          refine rc_iconst X dX8_changes_88 ?_
          refine rc_iast X T0.2.1 (by decide) dX8_changes_89 ⟨by decide, by decide⟩ (fun I20 e20 => ?_)
          have h := h I20 e20
          refine rc_aload_n X dX8_changes_90 rfl 1 rfl ?_
          refine gfX8_v X T0.1 nX8_changes_X8 qX8_changes_1 dX8_changes_91 ?_
          refine rc_sipush X dX8_changes_94 (rc_b16 _ ⟨by decide, by decide⟩) ?_
          refine rc_dup2 X dX8_changes_97 rfl rfl ?_
          refine rc_iald X T0.2.1 (by decide) dX8_changes_98 ⟨by decide, by decide⟩ ?_
          refine rc_aload_n X dX8_changes_99 rfl 1 rfl ?_
          refine gfX8_v X T0.1 nX8_changes_X8 qX8_changes_1 dX8_changes_100 ?_
          refine rc_iload_n X dX8_changes_103 rfl 0 rfl ?_
          refine rc_iconst X dX8_changes_104 ?_
          refine rc_cSI (rest := [.ref (a0 + 1), .int (rc_o (I20 (a0 + 1) 167)), .int (rc_o 167), .ref (a0 + 1)]) X (mX8_on  h) gX8_changes_X8_on rfl ⟨rfl, rfl⟩ dyX8_on ⟨Nat.le_of_ble_eq_true rfl, Nat.le_of_ble_eq_true rfl⟩ rfl rfl (Nat.le_of_ble_eq_true rfl) dX8_changes_105 ⟨Nat.zero_le _, Nat.zero_le _⟩ (fun r22 I21 h => ?_)
          obtain ⟨c23, h⟩ := h
          refine rc_iald X T0.2.1 (by decide) dX8_changes_108 c23 ?_
          refine rc_iadd X dX8_changes_109 ?_
          refine rc_iast X T0.2.1 (by decide) dX8_changes_110 ⟨by decide, by decide⟩ (fun I24 e24 => ?_)
          have h := h I24 e24
          exact rc_vret X hr dX8_changes_111 h
theorem mX8_changes {l : Launch} {G : rc_G} {a0 : Nat} {I : rc_M} {post : rc_M → Prop} (T0 : kX8 G a0) (h : wX8_changes G a0 I post) : rc_CV l yX8_changes wsX8_changes rmX8_changes G [.ref a0] I post :=
  rc_body (by decide +kernel) rfl rfl (Nat.le_of_ble_eq_true rfl) rfl (fun p e s m below meth c X hr => gX8_changes_0 X hr T0 h)
/-! X8_ticks -/
abbrev rmX8_ticks : Room := { frames := 5, cells := 0, slots := 0, locals := 112 }
theorem dyX8_ticks : yX8_ticks.cls = RX8 ∧ yX8_ticks.cls ≠ "java/lang/invoke/MethodHandle" ∧ yX8_ticks.cls ≠ "java/lang/invoke/VarHandle" ∧ (parseMethodDescriptor yX8_ticks.desc).map (fun d => d.parameters.length) = some 0 := ⟨rfl, by decide +kernel, by decide +kernel, by decide +kernel⟩
theorem qX8_ticks_1 : Cond.fieldLink RX8 7 "ReelChangerModel" "v" "[I" ∈ wsX8_ticks := List.mem_of_getElem? (i := 1) (by decide +kernel)
theorem nX8_ticks_X8 : ∀ w ∈ wsX80, w ∈ wsX8_ticks := fun w h => List.mem_cons_of_mem _ (List.mem_append_right _ (h))
def wX8_ticks_94 (G : rc_G) (post : rc_M → Prop) (a0 : Nat)  (y0 : Int) (y1 : Int) (y2 : Int) (I : rc_M) : Prop :=
  (0 ≤ y2 ∧ y2 < 199) ∧ (∀ I11, I11 = rc_s I (a0 + 1) y2 (y1 + y0) → post I11)
set_option maxRecDepth 100000 in
set_option maxHeartbeats 4000000 in
theorem gX8_ticks_94 {p : Program} {l : Launch} {e : Env} {s : State} {m : MethodId} {below : List Frame} {meth : Method} {c : Code} {G : rc_G} {a0 : Nat} {I : rc_M} {post : rc_M → Prop}  {y0 : Int} {y1 : Int} {y2 : Int} (X : rc_X p s m ([.ref a0] : List Value).toArray meth c cX8_ticks 1 wsX8_ticks RX8 G (rc_A G)) (hr : meth.sig.returnType = none) (T0 : kX8 G a0)   (h : wX8_ticks_94 G post a0  y0 y1 y2 I) : rc_g p l e rmX8_ticks s m ([.ref a0] : List Value).toArray below meth c 0 0 (MQ below (rc_QV G post) ([.ref a0] : List Value).toArray s 0 0 (rc_A G)) 1 G (rc_A G) 94 [] [.int (rc_o y0), .int (rc_o y1), .int (rc_o y2), .ref (a0 + 1)] I := by
  unfold wX8_ticks_94 at h
  refine rc_iadd X dX8_ticks_94 ?_
  obtain ⟨c10, h⟩ := h
  refine rc_iast X T0.2.1 (by decide) dX8_ticks_95 c10 (fun I11 e11 => ?_)
  have h := h I11 e11
  exact rc_vret X hr dX8_ticks_96 h
def wX8_ticks_93 (G : rc_G) (post : rc_M → Prop) (a0 : Nat)  (y0 : Int) (y1 : Int) (I : rc_M) : Prop :=
  wX8_ticks_94 G post a0  0 y0 y1 I
set_option maxRecDepth 100000 in
set_option maxHeartbeats 4000000 in
theorem gX8_ticks_93 {p : Program} {l : Launch} {e : Env} {s : State} {m : MethodId} {below : List Frame} {meth : Method} {c : Code} {G : rc_G} {a0 : Nat} {I : rc_M} {post : rc_M → Prop}  {y0 : Int} {y1 : Int} (X : rc_X p s m ([.ref a0] : List Value).toArray meth c cX8_ticks 1 wsX8_ticks RX8 G (rc_A G)) (hr : meth.sig.returnType = none) (T0 : kX8 G a0)   (h : wX8_ticks_93 G post a0  y0 y1 I) : rc_g p l e rmX8_ticks s m ([.ref a0] : List Value).toArray below meth c 0 0 (MQ below (rc_QV G post) ([.ref a0] : List Value).toArray s 0 0 (rc_A G)) 1 G (rc_A G) 93 [] [.int (rc_o y0), .int (rc_o y1), .ref (a0 + 1)] I := by
  unfold wX8_ticks_93 at h
  refine rc_iconst X dX8_ticks_93 ?_
  refine rc_subl [] [] rfl ?_
  exact gX8_ticks_94 X hr T0   h
def wX8_ticks_89 (G : rc_G) (post : rc_M → Prop) (a0 : Nat)  (y0 : Int) (y1 : Int) (I : rc_M) : Prop :=
  wX8_ticks_94 G post a0  1 y0 y1 I
set_option maxRecDepth 100000 in
set_option maxHeartbeats 4000000 in
theorem gX8_ticks_89 {p : Program} {l : Launch} {e : Env} {s : State} {m : MethodId} {below : List Frame} {meth : Method} {c : Code} {G : rc_G} {a0 : Nat} {I : rc_M} {post : rc_M → Prop}  {y0 : Int} {y1 : Int} (X : rc_X p s m ([.ref a0] : List Value).toArray meth c cX8_ticks 1 wsX8_ticks RX8 G (rc_A G)) (hr : meth.sig.returnType = none) (T0 : kX8 G a0)   (h : wX8_ticks_89 G post a0  y0 y1 I) : rc_g p l e rmX8_ticks s m ([.ref a0] : List Value).toArray below meth c 0 0 (MQ below (rc_QV G post) ([.ref a0] : List Value).toArray s 0 0 (rc_A G)) 1 G (rc_A G) 89 [] [.int (rc_o y0), .int (rc_o y1), .ref (a0 + 1)] I := by
  unfold wX8_ticks_89 at h
  refine rc_iconst X dX8_ticks_89 ?_
  refine rc_goto X 94 dX8_ticks_90 (by decide) ?_
  refine rc_subl [] [] rfl ?_
  exact gX8_ticks_94 X hr T0   h
def wX8_ticks (G : rc_G) (a0 : Nat) (I : rc_M) (post : rc_M → Prop) : Prop :=
  wX8_works G a0 I (fun I1 => wX8_starts G a0 I1 (fun I2 => wX8_goes G a0 I2 (fun I3 => wX8_wears G a0 I3 (fun I4 => wX8_runsOut G a0 I4 (fun I5 => wX8_changes G a0 I5 (fun I6 => ∀ I7, I7 = rc_s I6 (a0 + 1) 164 ((I6 (a0 + 1) 164) + 1) → rc_R (I7 (a0 + 1) 163) ∧ ((¬ (I7 (a0 + 1) 163) = 0 → wX8_ticks_93 G post a0  (I7 (a0 + 1) 166) 166 I7) ∧ ((I7 (a0 + 1) 163) = 0 → wX8_on G (I7 (a0 + 1) 165) 0 I7 (fun r13 I12 => (0 ≤ r13 ∧ r13 < 199) ∧ (rc_R (I12 (a0 + 1) r13) ∧ ((¬ (I12 (a0 + 1) r13) = 3 → wX8_ticks_89 G post a0  (I7 (a0 + 1) 166) 166 I12) ∧ ((I12 (a0 + 1) r13) = 3 → rc_R (I12 (a0 + 1) 171) ∧ ((¬ (I12 (a0 + 1) 171) = 1 → wX8_ticks_93 G post a0  (I7 (a0 + 1) 166) 166 I12) ∧ ((I12 (a0 + 1) 171) = 1 → wX8_ticks_89 G post a0  (I7 (a0 + 1) 166) 166 I12))))))))))))))
set_option maxRecDepth 100000 in
set_option maxHeartbeats 4000000 in
theorem gX8_ticks_0 {p : Program} {l : Launch} {e : Env} {s : State} {m : MethodId} {below : List Frame} {meth : Method} {c : Code} {G : rc_G} {a0 : Nat} {I : rc_M} {post : rc_M → Prop}  (X : rc_X p s m ([.ref a0] : List Value).toArray meth c cX8_ticks 1 wsX8_ticks RX8 G (rc_A G)) (hr : meth.sig.returnType = none) (T0 : kX8 G a0)  (h : wX8_ticks G a0 I post) : rc_g p l e rmX8_ticks s m ([.ref a0] : List Value).toArray below meth c 0 0 (MQ below (rc_QV G post) ([.ref a0] : List Value).toArray s 0 0 (rc_A G)) 1 G (rc_A G) 0 [(0, .ref a0)] [] I := by
  unfold wX8_ticks at h
  refine rc_aload_n X dX8_ticks_0 rfl 0 rfl ?_
  refine rc_cVV (rest := []) X (mX8_works T0 h) gX8_ticks_X8_works rfl ⟨rfl, rfl⟩ dyX8_works ⟨Nat.le_of_ble_eq_true rfl, Nat.le_of_ble_eq_true rfl⟩ (rc_recv X T0.1 rfl) rfl rfl (Nat.le_of_ble_eq_true rfl) dX8_ticks_1 ⟨Nat.zero_le _, Nat.zero_le _⟩ (fun I1 h => ?_)
  refine rc_aload_n X dX8_ticks_4 rfl 0 rfl ?_
  refine rc_cVV (rest := []) X (mX8_starts T0 h) gX8_ticks_X8_starts rfl ⟨rfl, rfl⟩ dyX8_starts ⟨Nat.le_of_ble_eq_true rfl, Nat.le_of_ble_eq_true rfl⟩ (rc_recv X T0.1 rfl) rfl rfl (Nat.le_of_ble_eq_true rfl) dX8_ticks_5 ⟨Nat.zero_le _, Nat.zero_le _⟩ (fun I2 h => ?_)
  refine rc_aload_n X dX8_ticks_8 rfl 0 rfl ?_
  refine rc_cVV (rest := []) X (mX8_goes T0 h) gX8_ticks_X8_goes rfl ⟨rfl, rfl⟩ dyX8_goes ⟨Nat.le_of_ble_eq_true rfl, Nat.le_of_ble_eq_true rfl⟩ (rc_recv X T0.1 rfl) rfl rfl (Nat.le_of_ble_eq_true rfl) dX8_ticks_9 ⟨Nat.zero_le _, Nat.zero_le _⟩ (fun I3 h => ?_)
  refine rc_aload_n X dX8_ticks_12 rfl 0 rfl ?_
  refine rc_cVV (rest := []) X (mX8_wears T0 h) gX8_ticks_X8_wears rfl ⟨rfl, rfl⟩ dyX8_wears ⟨Nat.le_of_ble_eq_true rfl, Nat.le_of_ble_eq_true rfl⟩ (rc_recv X T0.1 rfl) rfl rfl (Nat.le_of_ble_eq_true rfl) dX8_ticks_13 ⟨Nat.zero_le _, Nat.zero_le _⟩ (fun I4 h => ?_)
  refine rc_aload_n X dX8_ticks_16 rfl 0 rfl ?_
  refine rc_cVV (rest := []) X (mX8_runsOut T0 h) gX8_ticks_X8_runsOut rfl ⟨rfl, rfl⟩ dyX8_runsOut ⟨Nat.le_of_ble_eq_true rfl, Nat.le_of_ble_eq_true rfl⟩ (rc_recv X T0.1 rfl) rfl rfl (Nat.le_of_ble_eq_true rfl) dX8_ticks_17 ⟨Nat.zero_le _, Nat.zero_le _⟩ (fun I5 h => ?_)
  refine rc_aload_n X dX8_ticks_20 rfl 0 rfl ?_
  refine rc_cVV (rest := []) X (mX8_changes T0 h) gX8_ticks_X8_changes rfl ⟨rfl, rfl⟩ dyX8_changes ⟨Nat.le_of_ble_eq_true rfl, Nat.le_of_ble_eq_true rfl⟩ (rc_recv X T0.1 rfl) rfl rfl (Nat.le_of_ble_eq_true rfl) dX8_ticks_21 ⟨Nat.zero_le _, Nat.zero_le _⟩ (fun I6 h => ?_)
  refine rc_aload_n X dX8_ticks_24 rfl 0 rfl ?_
  refine gfX8_v X T0.1 nX8_ticks_X8 qX8_ticks_1 dX8_ticks_25 ?_
  refine rc_sipush X dX8_ticks_28 (rc_b16 _ ⟨by decide, by decide⟩) ?_
  refine rc_dup2 X dX8_ticks_31 rfl rfl ?_
  refine rc_iald X T0.2.1 (by decide) dX8_ticks_32 ⟨by decide, by decide⟩ ?_
  refine rc_iconst X dX8_ticks_33 ?_
  refine rc_iadd X dX8_ticks_34 ?_
  refine rc_iast X T0.2.1 (by decide) dX8_ticks_35 ⟨by decide, by decide⟩ (fun I7 e7 => ?_)
  have h := h I7 e7
  refine rc_aload_n X dX8_ticks_36 rfl 0 rfl ?_
  refine gfX8_v X T0.1 nX8_ticks_X8 qX8_ticks_1 dX8_ticks_37 ?_
  refine rc_sipush X dX8_ticks_40 (rc_b16 _ ⟨by decide, by decide⟩) ?_
  refine rc_dup2 X dX8_ticks_43 rfl rfl ?_
  refine rc_iald X T0.2.1 (by decide) dX8_ticks_44 ⟨by decide, by decide⟩ ?_
  refine rc_aload_n X dX8_ticks_45 rfl 0 rfl ?_
  refine gfX8_v X T0.1 nX8_ticks_X8 qX8_ticks_1 dX8_ticks_46 ?_
  refine rc_sipush X dX8_ticks_49 (rc_b16 _ ⟨by decide, by decide⟩) ?_
  refine rc_iald X T0.2.1 (by decide) dX8_ticks_52 ⟨by decide, by decide⟩ ?_
  obtain ⟨c8, h⟩ := h
  refine rc_if_ne X 93 dX8_ticks_53 (by decide) c8 (fun c9 => ?_) (fun c9 => ?_)
  · have h := h.1 c9
    refine rc_subl [] [] rfl ?_
    exact gX8_ticks_93 X hr T0   h
  · have h := h.2 c9
    refine rc_aload_n X dX8_ticks_56 rfl 0 rfl ?_
    refine gfX8_v X T0.1 nX8_ticks_X8 qX8_ticks_1 dX8_ticks_57 ?_
    refine rc_aload_n X dX8_ticks_60 rfl 0 rfl ?_
    refine gfX8_v X T0.1 nX8_ticks_X8 qX8_ticks_1 dX8_ticks_61 ?_
    refine rc_sipush X dX8_ticks_64 (rc_b16 _ ⟨by decide, by decide⟩) ?_
    refine rc_iald X T0.2.1 (by decide) dX8_ticks_67 ⟨by decide, by decide⟩ ?_
    refine rc_iconst X dX8_ticks_68 ?_
    refine rc_cSI (rest := [.ref (a0 + 1), .int (rc_o (I7 (a0 + 1) 166)), .int (rc_o 166), .ref (a0 + 1)]) X (mX8_on  h) gX8_ticks_X8_on rfl ⟨rfl, rfl⟩ dyX8_on ⟨Nat.le_of_ble_eq_true rfl, Nat.le_of_ble_eq_true rfl⟩ rfl rfl (Nat.le_of_ble_eq_true rfl) dX8_ticks_69 ⟨Nat.zero_le _, Nat.zero_le _⟩ (fun r13 I12 h => ?_)
    obtain ⟨c14, h⟩ := h
    refine rc_iald X T0.2.1 (by decide) dX8_ticks_72 c14 ?_
    refine rc_iconst X dX8_ticks_73 ?_
    obtain ⟨c15, h⟩ := h
    refine rc_ic_ne X 89 dX8_ticks_74 (by decide) c15 ⟨by decide, by decide⟩ (fun c16 => ?_) (fun c16 => ?_)
    · have h := h.1 c16
      refine rc_subl [] [] rfl ?_
      exact gX8_ticks_89 X hr T0   h
    · have h := h.2 c16
      refine rc_aload_n X dX8_ticks_77 rfl 0 rfl ?_
      refine gfX8_v X T0.1 nX8_ticks_X8 qX8_ticks_1 dX8_ticks_78 ?_
      refine rc_sipush X dX8_ticks_81 (rc_b16 _ ⟨by decide, by decide⟩) ?_
      refine rc_iald X T0.2.1 (by decide) dX8_ticks_84 ⟨by decide, by decide⟩ ?_
      refine rc_iconst X dX8_ticks_85 ?_
      obtain ⟨c17, h⟩ := h
      refine rc_ic_ne X 93 dX8_ticks_86 (by decide) c17 ⟨by decide, by decide⟩ (fun c18 => ?_) (fun c18 => ?_)
      · have h := h.1 c18
        refine rc_subl [] [] rfl ?_
        exact gX8_ticks_93 X hr T0   h
      · have h := h.2 c18
        refine rc_subl [] [] rfl ?_
        exact gX8_ticks_89 X hr T0   h
theorem mX8_ticks {l : Launch} {G : rc_G} {a0 : Nat} {I : rc_M} {post : rc_M → Prop} (T0 : kX8 G a0) (h : wX8_ticks G a0 I post) : rc_CV l yX8_ticks wsX8_ticks rmX8_ticks G [.ref a0] I post :=
  rc_body (by decide +kernel) rfl rfl (Nat.le_of_ble_eq_true rfl) rfl (fun p e s m below meth c X hr => gX8_ticks_0 X hr T0 h)
/-! X8_passes -/
abbrev rmX8_passes : Room := { frames := 6, cells := 0, slots := 0, locals := 132 }
theorem dyX8_passes : yX8_passes.cls = RX8 ∧ yX8_passes.cls ≠ "java/lang/invoke/MethodHandle" ∧ yX8_passes.cls ≠ "java/lang/invoke/VarHandle" ∧ (parseMethodDescriptor yX8_passes.desc).map (fun d => d.parameters.length) = some 1 := ⟨rfl, by decide +kernel, by decide +kernel, by decide +kernel⟩
theorem qX8_passes_1 : Cond.fieldLink RX8 7 "ReelChangerModel" "v" "[I" ∈ wsX8_passes := List.mem_of_getElem? (i := 1) (by decide +kernel)
theorem nX8_passes_X8 : ∀ w ∈ wsX80, w ∈ wsX8_passes := fun w h => List.mem_cons_of_mem _ (List.mem_append_right _ (h))
def wX8_passes_2 (G : rc_G) (post : Int → rc_M → Prop) (a0 : Nat) (a1 : Int) (k2 : Int → rc_M → Prop) (x2 : Int) (I : rc_M) : Prop :=
  rc_R x2 ∧ (rc_R a1 ∧ ((a1 ≤ x2 → post x2 I) ∧ (¬ a1 ≤ x2 → rc_R (I (a0 + 1) 163) ∧ ((¬ (I (a0 + 1) 163) = 0 → post x2 I) ∧ ((I (a0 + 1) 163) = 0 → wX8_ticks G a0 I (fun I6 => k2 (x2 + 1) I6))))))
set_option maxRecDepth 100000 in
set_option maxHeartbeats 4000000 in
theorem gX8_passes_2 {p : Program} {l : Launch} {e : Env} {s : State} {m : MethodId} {below : List Frame} {meth : Method} {c : Code} {G : rc_G} {a0 : Nat} {a1 : Int} {I : rc_M} {post : Int → rc_M → Prop} {k2 : Int → rc_M → Prop} {x2 : Int} (X : rc_X p s m ([.ref a0, .int (rc_o a1)] : List Value).toArray meth c cX8_passes 3 wsX8_passes RX8 G (rc_A G)) (hr : meth.sig.returnType = some .int) (T0 : kX8 G a0) (hk2 : ∀ (x2 : Int) (J : rc_M), k2 x2 J → rc_g p l e rmX8_passes s m ([.ref a0, .int (rc_o a1)] : List Value).toArray below meth c 0 0 (MQ below (rc_QI G post) ([.ref a0, .int (rc_o a1)] : List Value).toArray s 0 0 (rc_A G)) 3 G (rc_A G) 2 [(0, .ref a0), (1, .int (rc_o a1)), (2, .int (rc_o x2))] [] J)  (h : wX8_passes_2 G post a0 a1 k2 x2 I) : rc_g p l e rmX8_passes s m ([.ref a0, .int (rc_o a1)] : List Value).toArray below meth c 0 0 (MQ below (rc_QI G post) ([.ref a0, .int (rc_o a1)] : List Value).toArray s 0 0 (rc_A G)) 3 G (rc_A G) 2 [(0, .ref a0), (1, .int (rc_o a1)), (2, .int (rc_o x2))] [] I := by
  unfold wX8_passes_2 at h
  refine rc_iload_n X dX8_passes_2 rfl 2 rfl ?_
  refine rc_iload_n X dX8_passes_3 rfl 1 rfl ?_
  obtain ⟨c1, h⟩ := h
  obtain ⟨c2, h⟩ := h
  refine rc_ic_ge X 28 dX8_passes_4 (by decide) c1 c2 (fun c3 => ?_) (fun c3 => ?_)
  · have h := h.1 c3
    refine rc_iload_n X dX8_passes_28 rfl 2 rfl ?_
    exact rc_iret X hr dX8_passes_29 h
  · have h := h.2 c3
    refine rc_aload_n X dX8_passes_7 rfl 0 rfl ?_
    refine gfX8_v X T0.1 nX8_passes_X8 qX8_passes_1 dX8_passes_8 ?_
    refine rc_sipush X dX8_passes_11 (rc_b16 _ ⟨by decide, by decide⟩) ?_
    refine rc_iald X T0.2.1 (by decide) dX8_passes_14 ⟨by decide, by decide⟩ ?_
    obtain ⟨c4, h⟩ := h
    refine rc_if_ne X 28 dX8_passes_15 (by decide) c4 (fun c5 => ?_) (fun c5 => ?_)
    · have h := h.1 c5
      refine rc_iload_n X dX8_passes_28 rfl 2 rfl ?_
      exact rc_iret X hr dX8_passes_29 h
    · have h := h.2 c5
      refine rc_aload_n X dX8_passes_18 rfl 0 rfl ?_
      refine rc_cVV (rest := []) X (mX8_ticks T0 h) gX8_passes_X8_ticks rfl ⟨rfl, rfl⟩ dyX8_ticks ⟨Nat.le_of_ble_eq_true rfl, Nat.le_of_ble_eq_true rfl⟩ (rc_recv X T0.1 rfl) rfl rfl (Nat.le_of_ble_eq_true rfl) dX8_passes_19 ⟨Nat.zero_le _, Nat.zero_le _⟩ (fun I6 h => ?_)
      refine rc_iinc X [(2, .int (rc_o (x2 + 1))), (0, .ref a0), (1, .int (rc_o a1))] dX8_passes_22 2 rfl (by decide) rfl ?_
      refine rc_goto X 2 dX8_passes_25 (by decide) ?_
      refine rc_subl [(0, .ref a0), (1, .int (rc_o a1)), (2, .int (rc_o (x2 + 1)))] [1, 2, 0] rfl ?_
      exact hk2 _ _ h
noncomputable def rX8_passes_2 (G : rc_G) (post : Int → rc_M → Prop) (a0 : Nat) (a1 : Int)  (n : Nat) : Int → rc_M → Prop :=
  Nat.rec (motive := fun _ => Int → rc_M → Prop) (fun _ _ => False) (fun _ ih => wX8_passes_2 G post a0 a1  ih) n
set_option maxRecDepth 100000 in
set_option maxHeartbeats 4000000 in
theorem sX8_passes_2 {p : Program} {l : Launch} {e : Env} {s : State} {m : MethodId} {below : List Frame} {meth : Method} {c : Code} {G : rc_G} {a0 : Nat} {a1 : Int} {I : rc_M} {post : Int → rc_M → Prop}  {n : Nat} {x2 : Int} (X : rc_X p s m ([.ref a0, .int (rc_o a1)] : List Value).toArray meth c cX8_passes 3 wsX8_passes RX8 G (rc_A G)) (hr : meth.sig.returnType = some .int) (T0 : kX8 G a0)  (h : rX8_passes_2 G post a0 a1  n x2 I) : rc_g p l e rmX8_passes s m ([.ref a0, .int (rc_o a1)] : List Value).toArray below meth c 0 0 (MQ below (rc_QI G post) ([.ref a0, .int (rc_o a1)] : List Value).toArray s 0 0 (rc_A G)) 3 G (rc_A G) 2 [(0, .ref a0), (1, .int (rc_o a1)), (2, .int (rc_o x2))] [] I := by
  induction n generalizing x2 I with
  | zero => exact h.elim
  | succ n ih => exact gX8_passes_2 (k2 := rX8_passes_2 G post a0 a1  n) X hr T0  (fun x2 J h2 => ih h2) h
def wX8_passes (G : rc_G) (a0 : Nat) (a1 : Int) (I : rc_M) (post : Int → rc_M → Prop) : Prop :=
  ∃ n, rX8_passes_2 G post a0 a1  n 0 I
set_option maxRecDepth 100000 in
set_option maxHeartbeats 4000000 in
theorem gX8_passes_0 {p : Program} {l : Launch} {e : Env} {s : State} {m : MethodId} {below : List Frame} {meth : Method} {c : Code} {G : rc_G} {a0 : Nat} {a1 : Int} {I : rc_M} {post : Int → rc_M → Prop}  (X : rc_X p s m ([.ref a0, .int (rc_o a1)] : List Value).toArray meth c cX8_passes 3 wsX8_passes RX8 G (rc_A G)) (hr : meth.sig.returnType = some .int) (T0 : kX8 G a0)  (h : wX8_passes G a0 a1 I post) : rc_g p l e rmX8_passes s m ([.ref a0, .int (rc_o a1)] : List Value).toArray below meth c 0 0 (MQ below (rc_QI G post) ([.ref a0, .int (rc_o a1)] : List Value).toArray s 0 0 (rc_A G)) 3 G (rc_A G) 0 [(0, .ref a0), (1, .int (rc_o a1))] [] I := by
  unfold wX8_passes at h
  refine rc_iconst X dX8_passes_0 ?_
  refine rc_istore_n X [(2, .int (rc_o 0)), (0, .ref a0), (1, .int (rc_o a1))] dX8_passes_1 rfl (by decide) rfl ?_
  refine rc_subl [(0, .ref a0), (1, .int (rc_o a1)), (2, .int (rc_o 0))] [1, 2, 0] rfl ?_
  obtain ⟨n, h⟩ := h
  exact sX8_passes_2 X hr T0  h
theorem mX8_passes {l : Launch} {G : rc_G} {a0 : Nat} {a1 : Int} {I : rc_M} {post : Int → rc_M → Prop} (T0 : kX8 G a0) (h : wX8_passes G a0 a1 I post) : rc_CI l yX8_passes wsX8_passes rmX8_passes G [.ref a0, .int (rc_o a1)] I post :=
  rc_body (by decide +kernel) rfl rfl (Nat.le_of_ble_eq_true rfl) rfl (fun p e s m below meth c X hr => gX8_passes_0 X hr T0 h)
/-! X8_pass -/
abbrev rmX8_pass : Room := { frames := 7, cells := 0, slots := 0, locals := 154 }
theorem dyX8_pass : yX8_pass.cls = RX8 ∧ yX8_pass.cls ≠ "java/lang/invoke/MethodHandle" ∧ yX8_pass.cls ≠ "java/lang/invoke/VarHandle" ∧ (parseMethodDescriptor yX8_pass.desc).map (fun d => d.parameters.length) = some 1 := ⟨rfl, by decide +kernel, by decide +kernel, by decide +kernel⟩
theorem qX8_pass_2 : Cond.constant RX8 103 (-100003) ∈ wsX8_pass := List.mem_of_getElem? (i := 2) (by decide +kernel)
theorem qX8_pass_1 : Cond.constant RX8 51 (-100002) ∈ wsX8_pass := List.mem_of_getElem? (i := 1) (by decide +kernel)
def wX8_pass (G : rc_G) (a0 : Nat) (a1 : Int) (I : rc_M) (post : Int → rc_M → Prop) : Prop :=
  wX8_in G a1 1 2000 I (fun r2 I1 => rc_R r2 ∧ ((¬ r2 = 0 → wX8_isRunning G a0 I1 (fun r6 I5 => rc_R r6 ∧ ((r6 = 0 → post (-100003) I5) ∧ (¬ r6 = 0 → wX8_passes G a0 a1 I5 (fun r10 I9 => post r10 I9))))) ∧ (r2 = 0 → post (-100002) I1)))
set_option maxRecDepth 100000 in
set_option maxHeartbeats 4000000 in
theorem gX8_pass_0 {p : Program} {l : Launch} {e : Env} {s : State} {m : MethodId} {below : List Frame} {meth : Method} {c : Code} {G : rc_G} {a0 : Nat} {a1 : Int} {I : rc_M} {post : Int → rc_M → Prop}  (X : rc_X p s m ([.ref a0, .int (rc_o a1)] : List Value).toArray meth c cX8_pass 2 wsX8_pass RX8 G (rc_A G)) (hr : meth.sig.returnType = some .int) (T0 : kX8 G a0)  (h : wX8_pass G a0 a1 I post) : rc_g p l e rmX8_pass s m ([.ref a0, .int (rc_o a1)] : List Value).toArray below meth c 0 0 (MQ below (rc_QI G post) ([.ref a0, .int (rc_o a1)] : List Value).toArray s 0 0 (rc_A G)) 2 G (rc_A G) 0 [(0, .ref a0), (1, .int (rc_o a1))] [] I := by
  unfold wX8_pass at h
  refine rc_iload_n X dX8_pass_0 rfl 1 rfl ?_
  refine rc_iconst X dX8_pass_1 ?_
  refine rc_sipush X dX8_pass_2 (rc_b16 _ ⟨by decide, by decide⟩) ?_
  refine rc_cSI (rest := []) X (mX8_in  h) gX8_pass_X8_in rfl ⟨rfl, rfl⟩ dyX8_in ⟨Nat.le_of_ble_eq_true rfl, Nat.le_of_ble_eq_true rfl⟩ rfl rfl (Nat.le_of_ble_eq_true rfl) dX8_pass_5 ⟨Nat.zero_le _, Nat.zero_le _⟩ (fun r2 I1 h => ?_)
  obtain ⟨c3, h⟩ := h
  refine rc_if_ne X 14 dX8_pass_8 (by decide) c3 (fun c4 => ?_) (fun c4 => ?_)
  · have h := h.1 c4
    refine rc_aload_n X dX8_pass_14 rfl 0 rfl ?_
    refine rc_cVI (rest := []) X (mX8_isRunning T0 h) gX8_pass_X8_isRunning rfl ⟨rfl, rfl⟩ dyX8_isRunning ⟨Nat.le_of_ble_eq_true rfl, Nat.le_of_ble_eq_true rfl⟩ (rc_recv X T0.1 rfl) rfl rfl (Nat.le_of_ble_eq_true rfl) dX8_pass_15 ⟨Nat.zero_le _, Nat.zero_le _⟩ (fun r6 I5 h => ?_)
    obtain ⟨c7, h⟩ := h
    refine rc_if_eq X 29 dX8_pass_18 (by decide) c7 (fun c8 => ?_) (fun c8 => ?_)
    · have h := h.1 c8
      refine rc_ldc (n := (-100003)) X qX8_pass_2 (by decide +kernel) dX8_pass_29 ?_
      exact rc_iret X hr dX8_pass_31 h
    · have h := h.2 c8
      refine rc_aload_n X dX8_pass_21 rfl 0 rfl ?_
      refine rc_iload_n X dX8_pass_22 rfl 1 rfl ?_
      refine rc_cVI (rest := []) X (mX8_passes T0 h) gX8_pass_X8_passes rfl ⟨rfl, rfl⟩ dyX8_passes ⟨Nat.le_of_ble_eq_true rfl, Nat.le_of_ble_eq_true rfl⟩ (rc_recv X T0.1 rfl) rfl rfl (Nat.le_of_ble_eq_true rfl) dX8_pass_23 ⟨Nat.zero_le _, Nat.zero_le _⟩ (fun r10 I9 h => ?_)
      refine rc_goto X 31 dX8_pass_26 (by decide) ?_
      exact rc_iret X hr dX8_pass_31 h
  · have h := h.2 c4
    refine rc_ldc (n := (-100002)) X qX8_pass_1 (by decide +kernel) dX8_pass_11 ?_
    exact rc_iret X hr dX8_pass_13 h
theorem mX8_pass {l : Launch} {G : rc_G} {a0 : Nat} {a1 : Int} {I : rc_M} {post : Int → rc_M → Prop} (T0 : kX8 G a0) (h : wX8_pass G a0 a1 I post) : rc_CI l yX8_pass wsX8_pass rmX8_pass G [.ref a0, .int (rc_o a1)] I post :=
  rc_body (by decide +kernel) rfl rfl (Nat.le_of_ble_eq_true rfl) rfl (fun p e s m below meth c X hr => gX8_pass_0 X hr T0 h)
/-! X8_showTells -/
abbrev rmX8_showTells : Room := { frames := 1, cells := 0, slots := 0, locals := 20 }
theorem dyX8_showTells : yX8_showTells.cls = RX8 ∧ yX8_showTells.cls ≠ "java/lang/invoke/MethodHandle" ∧ yX8_showTells.cls ≠ "java/lang/invoke/VarHandle" ∧ (parseMethodDescriptor yX8_showTells.desc).map (fun d => d.parameters.length) = some 1 := ⟨rfl, by decide +kernel, by decide +kernel, by decide +kernel⟩
theorem qX8_showTells_1 : Cond.fieldLink RX8 7 "ReelChangerModel" "v" "[I" ∈ wsX8_showTells := List.mem_of_getElem? (i := 1) (by decide +kernel)
theorem nX8_showTells_X8 : ∀ w ∈ wsX80, w ∈ wsX8_showTells := fun w h => List.mem_cons_of_mem _ (List.mem_append_right _ (h))
def wX8_showTells (G : rc_G) (a0 : Nat) (a1 : Int) (I : rc_M) (post : Int → rc_M → Prop) : Prop :=
  rc_R a1 ∧ ((a1 = 0 → wX8_isRunning G a0 I (fun r3 I2 => rc_R r3 ∧ ((r3 = 0 → post 0 I2) ∧ (¬ r3 = 0 → post 1 I2)))) ∧ (a1 = 1 → post (I (a0 + 1) 164) I) ∧ (a1 = 2 → post (I (a0 + 1) 165) I) ∧ (a1 = 3 → post (I (a0 + 1) 166) I) ∧ (a1 = 4 → post (I (a0 + 1) 167) I) ∧ (a1 = 5 → post (I (a0 + 1) 168) I) ∧ (a1 = 6 → post (I (a0 + 1) 169) I) ∧ (a1 = 7 → post (I (a0 + 1) 170) I) ∧ (a1 = 8 → post (I (a0 + 1) 174) I) ∧ ((a1 < 0 ∨ 8 < a1) → rc_R (I (a0 + 1) 172) ∧ ((0 ≤ (I (a0 + 1) 172) → post (I (a0 + 1) 173) I) ∧ (¬ 0 ≤ (I (a0 + 1) 172) → post 0 I))))
set_option maxRecDepth 100000 in
set_option maxHeartbeats 4000000 in
theorem gX8_showTells_0 {p : Program} {l : Launch} {e : Env} {s : State} {m : MethodId} {below : List Frame} {meth : Method} {c : Code} {G : rc_G} {a0 : Nat} {a1 : Int} {I : rc_M} {post : Int → rc_M → Prop}  (X : rc_X p s m ([.ref a0, .int (rc_o a1)] : List Value).toArray meth c cX8_showTells 2 wsX8_showTells RX8 G (rc_A G)) (hr : meth.sig.returnType = some .int) (T0 : kX8 G a0)  (h : wX8_showTells G a0 a1 I post) : rc_g p l e rmX8_showTells s m ([.ref a0, .int (rc_o a1)] : List Value).toArray below meth c 0 0 (MQ below (rc_QI G post) ([.ref a0, .int (rc_o a1)] : List Value).toArray s 0 0 (rc_A G)) 2 G (rc_A G) 0 [(0, .ref a0), (1, .int (rc_o a1))] [] I := by
  unfold wX8_showTells at h
  refine rc_iload_n X dX8_showTells_0 rfl 1 rfl ?_
  obtain ⟨c1, h⟩ := h
  by_cases c8 : a1 = 0
  · have h := h.1 c8
    refine rc_tsAt X 52 0 dX8_showTells_1 c1 c8 (by decide) (by decide) rfl (by decide) ?_
    refine rc_aload_n X dX8_showTells_52 rfl 0 rfl ?_
    refine rc_cVI (rest := []) X (mX8_isRunning T0 h) gX8_showTells_X8_isRunning rfl ⟨rfl, rfl⟩ dyX8_isRunning ⟨Nat.le_of_ble_eq_true rfl, Nat.le_of_ble_eq_true rfl⟩ (rc_recv X T0.1 rfl) rfl rfl (Nat.le_of_ble_eq_true rfl) dX8_showTells_53 ⟨Nat.zero_le _, Nat.zero_le _⟩ (fun r3 I2 h => ?_)
    obtain ⟨c4, h⟩ := h
    refine rc_if_eq X 63 dX8_showTells_56 (by decide) c4 (fun c5 => ?_) (fun c5 => ?_)
    · have h := h.1 c5
      refine rc_iconst X dX8_showTells_63 ?_
      exact rc_iret X hr dX8_showTells_64 h
    · have h := h.2 c5
      refine rc_iconst X dX8_showTells_59 ?_
      refine rc_goto X 64 dX8_showTells_60 (by decide) ?_
      exact rc_iret X hr dX8_showTells_64 h
  by_cases c9 : a1 = 1
  · have h := h.2.1 c9
    refine rc_tsAt X 65 1 dX8_showTells_1 c1 c9 (by decide) (by decide) rfl (by decide) ?_
    refine rc_aload_n X dX8_showTells_65 rfl 0 rfl ?_
    refine gfX8_v X T0.1 nX8_showTells_X8 qX8_showTells_1 dX8_showTells_66 ?_
    refine rc_sipush X dX8_showTells_69 (rc_b16 _ ⟨by decide, by decide⟩) ?_
    refine rc_iald X T0.2.1 (by decide) dX8_showTells_72 ⟨by decide, by decide⟩ ?_
    exact rc_iret X hr dX8_showTells_73 h
  by_cases c10 : a1 = 2
  · have h := h.2.2.1 c10
    refine rc_tsAt X 74 2 dX8_showTells_1 c1 c10 (by decide) (by decide) rfl (by decide) ?_
    refine rc_aload_n X dX8_showTells_74 rfl 0 rfl ?_
    refine gfX8_v X T0.1 nX8_showTells_X8 qX8_showTells_1 dX8_showTells_75 ?_
    refine rc_sipush X dX8_showTells_78 (rc_b16 _ ⟨by decide, by decide⟩) ?_
    refine rc_iald X T0.2.1 (by decide) dX8_showTells_81 ⟨by decide, by decide⟩ ?_
    exact rc_iret X hr dX8_showTells_82 h
  by_cases c11 : a1 = 3
  · have h := h.2.2.2.1 c11
    refine rc_tsAt X 83 3 dX8_showTells_1 c1 c11 (by decide) (by decide) rfl (by decide) ?_
    refine rc_aload_n X dX8_showTells_83 rfl 0 rfl ?_
    refine gfX8_v X T0.1 nX8_showTells_X8 qX8_showTells_1 dX8_showTells_84 ?_
    refine rc_sipush X dX8_showTells_87 (rc_b16 _ ⟨by decide, by decide⟩) ?_
    refine rc_iald X T0.2.1 (by decide) dX8_showTells_90 ⟨by decide, by decide⟩ ?_
    exact rc_iret X hr dX8_showTells_91 h
  by_cases c12 : a1 = 4
  · have h := h.2.2.2.2.1 c12
    refine rc_tsAt X 92 4 dX8_showTells_1 c1 c12 (by decide) (by decide) rfl (by decide) ?_
    refine rc_aload_n X dX8_showTells_92 rfl 0 rfl ?_
    refine gfX8_v X T0.1 nX8_showTells_X8 qX8_showTells_1 dX8_showTells_93 ?_
    refine rc_sipush X dX8_showTells_96 (rc_b16 _ ⟨by decide, by decide⟩) ?_
    refine rc_iald X T0.2.1 (by decide) dX8_showTells_99 ⟨by decide, by decide⟩ ?_
    exact rc_iret X hr dX8_showTells_100 h
  by_cases c13 : a1 = 5
  · have h := h.2.2.2.2.2.1 c13
    refine rc_tsAt X 101 5 dX8_showTells_1 c1 c13 (by decide) (by decide) rfl (by decide) ?_
    refine rc_aload_n X dX8_showTells_101 rfl 0 rfl ?_
    refine gfX8_v X T0.1 nX8_showTells_X8 qX8_showTells_1 dX8_showTells_102 ?_
    refine rc_sipush X dX8_showTells_105 (rc_b16 _ ⟨by decide, by decide⟩) ?_
    refine rc_iald X T0.2.1 (by decide) dX8_showTells_108 ⟨by decide, by decide⟩ ?_
    exact rc_iret X hr dX8_showTells_109 h
  by_cases c14 : a1 = 6
  · have h := h.2.2.2.2.2.2.1 c14
    refine rc_tsAt X 110 6 dX8_showTells_1 c1 c14 (by decide) (by decide) rfl (by decide) ?_
    refine rc_aload_n X dX8_showTells_110 rfl 0 rfl ?_
    refine gfX8_v X T0.1 nX8_showTells_X8 qX8_showTells_1 dX8_showTells_111 ?_
    refine rc_sipush X dX8_showTells_114 (rc_b16 _ ⟨by decide, by decide⟩) ?_
    refine rc_iald X T0.2.1 (by decide) dX8_showTells_117 ⟨by decide, by decide⟩ ?_
    exact rc_iret X hr dX8_showTells_118 h
  by_cases c15 : a1 = 7
  · have h := h.2.2.2.2.2.2.2.1 c15
    refine rc_tsAt X 119 7 dX8_showTells_1 c1 c15 (by decide) (by decide) rfl (by decide) ?_
    refine rc_aload_n X dX8_showTells_119 rfl 0 rfl ?_
    refine gfX8_v X T0.1 nX8_showTells_X8 qX8_showTells_1 dX8_showTells_120 ?_
    refine rc_sipush X dX8_showTells_123 (rc_b16 _ ⟨by decide, by decide⟩) ?_
    refine rc_iald X T0.2.1 (by decide) dX8_showTells_126 ⟨by decide, by decide⟩ ?_
    exact rc_iret X hr dX8_showTells_127 h
  by_cases c16 : a1 = 8
  · have h := h.2.2.2.2.2.2.2.2.1 c16
    refine rc_tsAt X 128 8 dX8_showTells_1 c1 c16 (by decide) (by decide) rfl (by decide) ?_
    refine rc_aload_n X dX8_showTells_128 rfl 0 rfl ?_
    refine gfX8_v X T0.1 nX8_showTells_X8 qX8_showTells_1 dX8_showTells_129 ?_
    refine rc_sipush X dX8_showTells_132 (rc_b16 _ ⟨by decide, by decide⟩) ?_
    refine rc_iald X T0.2.1 (by decide) dX8_showTells_135 ⟨by decide, by decide⟩ ?_
    exact rc_iret X hr dX8_showTells_136 h
  have h := h.2.2.2.2.2.2.2.2.2 (by omega)
  refine rc_tsOut X 137 dX8_showTells_1 c1 (by omega) (by decide) ?_
  refine rc_aload_n X dX8_showTells_137 rfl 0 rfl ?_
  refine gfX8_v X T0.1 nX8_showTells_X8 qX8_showTells_1 dX8_showTells_138 ?_
  refine rc_sipush X dX8_showTells_141 (rc_b16 _ ⟨by decide, by decide⟩) ?_
  refine rc_iald X T0.2.1 (by decide) dX8_showTells_144 ⟨by decide, by decide⟩ ?_
  obtain ⟨c6, h⟩ := h
  refine rc_if_ge X 152 dX8_showTells_145 (by decide) c6 (fun c7 => ?_) (fun c7 => ?_)
  · have h := h.1 c7
    refine rc_aload_n X dX8_showTells_152 rfl 0 rfl ?_
    refine gfX8_v X T0.1 nX8_showTells_X8 qX8_showTells_1 dX8_showTells_153 ?_
    refine rc_sipush X dX8_showTells_156 (rc_b16 _ ⟨by decide, by decide⟩) ?_
    refine rc_iald X T0.2.1 (by decide) dX8_showTells_159 ⟨by decide, by decide⟩ ?_
    exact rc_iret X hr dX8_showTells_160 h
  · have h := h.2 c7
    refine rc_iconst X dX8_showTells_148 ?_
    refine rc_goto X 160 dX8_showTells_149 (by decide) ?_
    exact rc_iret X hr dX8_showTells_160 h
theorem mX8_showTells {l : Launch} {G : rc_G} {a0 : Nat} {a1 : Int} {I : rc_M} {post : Int → rc_M → Prop} (T0 : kX8 G a0) (h : wX8_showTells G a0 a1 I post) : rc_CI l yX8_showTells wsX8_showTells rmX8_showTells G [.ref a0, .int (rc_o a1)] I post :=
  rc_body (by decide +kernel) rfl rfl (Nat.le_of_ble_eq_true rfl) rfl (fun p e s m below meth c X hr => gX8_showTells_0 X hr T0 h)
/-! X8_tell -/
abbrev rmX8_tell : Room := { frames := 2, cells := 0, slots := 0, locals := 41 }
theorem dyX8_tell : yX8_tell.cls = RX8 ∧ yX8_tell.cls ≠ "java/lang/invoke/MethodHandle" ∧ yX8_tell.cls ≠ "java/lang/invoke/VarHandle" ∧ (parseMethodDescriptor yX8_tell.desc).map (fun d => d.parameters.length) = some 1 := ⟨rfl, by decide +kernel, by decide +kernel, by decide +kernel⟩
theorem qX8_tell_1 : Cond.constant RX8 64 (-100001) ∈ wsX8_tell := List.mem_of_getElem? (i := 1) (by decide +kernel)
def wX8_tell (G : rc_G) (a0 : Nat) (a1 : Int) (I : rc_M) (post : Int → rc_M → Prop) : Prop :=
  wX8_in G a1 0 9 I (fun r2 I1 => rc_R r2 ∧ ((r2 = 0 → post (-100001) I1) ∧ (¬ r2 = 0 → wX8_showTells G a0 a1 I1 (fun r6 I5 => post r6 I5))))
set_option maxRecDepth 100000 in
set_option maxHeartbeats 4000000 in
theorem gX8_tell_0 {p : Program} {l : Launch} {e : Env} {s : State} {m : MethodId} {below : List Frame} {meth : Method} {c : Code} {G : rc_G} {a0 : Nat} {a1 : Int} {I : rc_M} {post : Int → rc_M → Prop}  (X : rc_X p s m ([.ref a0, .int (rc_o a1)] : List Value).toArray meth c cX8_tell 2 wsX8_tell RX8 G (rc_A G)) (hr : meth.sig.returnType = some .int) (T0 : kX8 G a0)  (h : wX8_tell G a0 a1 I post) : rc_g p l e rmX8_tell s m ([.ref a0, .int (rc_o a1)] : List Value).toArray below meth c 0 0 (MQ below (rc_QI G post) ([.ref a0, .int (rc_o a1)] : List Value).toArray s 0 0 (rc_A G)) 2 G (rc_A G) 0 [(0, .ref a0), (1, .int (rc_o a1))] [] I := by
  unfold wX8_tell at h
  refine rc_iload_n X dX8_tell_0 rfl 1 rfl ?_
  refine rc_iconst X dX8_tell_1 ?_
  refine rc_bipush X dX8_tell_2 (rc_b8 _ ⟨by decide, by decide⟩) ?_
  refine rc_cSI (rest := []) X (mX8_in  h) gX8_tell_X8_in rfl ⟨rfl, rfl⟩ dyX8_in ⟨Nat.le_of_ble_eq_true rfl, Nat.le_of_ble_eq_true rfl⟩ rfl rfl (Nat.le_of_ble_eq_true rfl) dX8_tell_4 ⟨Nat.zero_le _, Nat.zero_le _⟩ (fun r2 I1 h => ?_)
  obtain ⟨c3, h⟩ := h
  refine rc_if_eq X 18 dX8_tell_7 (by decide) c3 (fun c4 => ?_) (fun c4 => ?_)
  · have h := h.1 c4
    refine rc_ldc (n := (-100001)) X qX8_tell_1 (by decide +kernel) dX8_tell_18 ?_
    exact rc_iret X hr dX8_tell_20 h
  · have h := h.2 c4
    refine rc_aload_n X dX8_tell_10 rfl 0 rfl ?_
    refine rc_iload_n X dX8_tell_11 rfl 1 rfl ?_
    refine rc_cVI (rest := []) X (mX8_showTells T0 h) gX8_tell_X8_showTells rfl ⟨rfl, rfl⟩ dyX8_showTells ⟨Nat.le_of_ble_eq_true rfl, Nat.le_of_ble_eq_true rfl⟩ (rc_recv X T0.1 rfl) rfl rfl (Nat.le_of_ble_eq_true rfl) dX8_tell_12 ⟨Nat.zero_le _, Nat.zero_le _⟩ (fun r6 I5 h => ?_)
    refine rc_goto X 20 dX8_tell_15 (by decide) ?_
    exact rc_iret X hr dX8_tell_20 h
theorem mX8_tell {l : Launch} {G : rc_G} {a0 : Nat} {a1 : Int} {I : rc_M} {post : Int → rc_M → Prop} (T0 : kX8 G a0) (h : wX8_tell G a0 a1 I post) : rc_CI l yX8_tell wsX8_tell rmX8_tell G [.ref a0, .int (rc_o a1)] I post :=
  rc_body (by decide +kernel) rfl rfl (Nat.le_of_ble_eq_true rfl) rfl (fun p e s m below meth c X hr => gX8_tell_0 X hr T0 h)
/-! X8_projectorTells -/
abbrev rmX8_projectorTells : Room := { frames := 1, cells := 0, slots := 0, locals := 21 }
theorem dyX8_projectorTells : yX8_projectorTells.cls = RX8 ∧ yX8_projectorTells.cls ≠ "java/lang/invoke/MethodHandle" ∧ yX8_projectorTells.cls ≠ "java/lang/invoke/VarHandle" ∧ (parseMethodDescriptor yX8_projectorTells.desc).map (fun d => d.parameters.length) = some 2 := ⟨rfl, by decide +kernel, by decide +kernel, by decide +kernel⟩
theorem qX8_projectorTells_1 : Cond.fieldLink RX8 7 "ReelChangerModel" "v" "[I" ∈ wsX8_projectorTells := List.mem_of_getElem? (i := 1) (by decide +kernel)
theorem nX8_projectorTells_X8 : ∀ w ∈ wsX80, w ∈ wsX8_projectorTells := fun w h => List.mem_cons_of_mem _ (List.mem_append_right _ (h))
theorem qX8_projectorTells_2 : Cond.constant RX8 68 (-100005) ∈ wsX8_projectorTells := List.mem_of_getElem? (i := 2) (by decide +kernel)
def wX8_projectorTells_31 (G : rc_G) (post : Int → rc_M → Prop) (a0 : Nat) (a1 : Int) (a2 : Int)  (x3 : Int) (y0 : Int) (I : rc_M) : Prop :=
  rc_R a2 ∧ ((¬ a2 = 0 → rc_R a2 ∧ ((¬ a2 = 1 → rc_R y0 ∧ ((y0 = 0 → post (-100005) I) ∧ (¬ y0 = 0 → wX8_on G a1 2 I (fun r13 I12 => (0 ≤ r13 ∧ r13 < 199) ∧ (post (I12 (a0 + 1) r13) I12))))) ∧ (a2 = 1 → rc_R x3 ∧ ((¬ x3 = 0 → wX8_on G a1 1 I (fun r18 I17 => (0 ≤ r18 ∧ r18 < 199) ∧ (post (I17 (a0 + 1) r18) I17))) ∧ (x3 = 0 → post (-100005) I))))) ∧ (a2 = 0 → post x3 I))
set_option maxRecDepth 100000 in
set_option maxHeartbeats 4000000 in
theorem gX8_projectorTells_31 {p : Program} {l : Launch} {e : Env} {s : State} {m : MethodId} {below : List Frame} {meth : Method} {c : Code} {G : rc_G} {a0 : Nat} {a1 : Int} {a2 : Int} {I : rc_M} {post : Int → rc_M → Prop}  {x3 : Int} {y0 : Int} (X : rc_X p s m ([.ref a0, .int (rc_o a1), .int (rc_o a2)] : List Value).toArray meth c cX8_projectorTells 5 wsX8_projectorTells RX8 G (rc_A G)) (hr : meth.sig.returnType = some .int) (T0 : kX8 G a0)   (h : wX8_projectorTells_31 G post a0 a1 a2  x3 y0 I) : rc_g p l e rmX8_projectorTells s m ([.ref a0, .int (rc_o a1), .int (rc_o a2)] : List Value).toArray below meth c 0 0 (MQ below (rc_QI G post) ([.ref a0, .int (rc_o a1), .int (rc_o a2)] : List Value).toArray s 0 0 (rc_A G)) 5 G (rc_A G) 31 [(0, .ref a0), (1, .int (rc_o a1)), (2, .int (rc_o a2)), (3, .int (rc_o x3))] [.int (rc_o y0)] I := by
  unfold wX8_projectorTells_31 at h
  refine rc_istore X [(4, .int (rc_o y0)), (0, .ref a0), (1, .int (rc_o a1)), (2, .int (rc_o a2)), (3, .int (rc_o x3))] dX8_projectorTells_31 (by decide) rfl ?_
  refine rc_iload_n X dX8_projectorTells_33 rfl 3 rfl ?_
  obtain ⟨c6, h⟩ := h
  refine rc_if_ne X 41 dX8_projectorTells_34 (by decide) c6 (fun c7 => ?_) (fun c7 => ?_)
  · have h := h.1 c7
    refine rc_iload_n X dX8_projectorTells_41 rfl 3 rfl ?_
    refine rc_iconst X dX8_projectorTells_42 ?_
    obtain ⟨c8, h⟩ := h
    refine rc_ic_ne X 68 dX8_projectorTells_43 (by decide) c8 ⟨by decide, by decide⟩ (fun c9 => ?_) (fun c9 => ?_)
    · have h := h.1 c9
      refine rc_iload X dX8_projectorTells_68 0 rfl ?_
      obtain ⟨c10, h⟩ := h
      refine rc_if_eq X 86 dX8_projectorTells_70 (by decide) c10 (fun c11 => ?_) (fun c11 => ?_)
      · have h := h.1 c11
        refine rc_ldc (n := (-100005)) X qX8_projectorTells_2 (by decide +kernel) dX8_projectorTells_86 ?_
        exact rc_iret X hr dX8_projectorTells_88 h
      · have h := h.2 c11
        refine rc_aload_n X dX8_projectorTells_73 rfl 1 rfl ?_
        refine gfX8_v X T0.1 nX8_projectorTells_X8 qX8_projectorTells_1 dX8_projectorTells_74 ?_
        refine rc_iload_n X dX8_projectorTells_77 rfl 2 rfl ?_
        refine rc_iconst X dX8_projectorTells_78 ?_
        refine rc_cSI (rest := [.ref (a0 + 1)]) X (mX8_on  h) gX8_projectorTells_X8_on rfl ⟨rfl, rfl⟩ dyX8_on ⟨Nat.le_of_ble_eq_true rfl, Nat.le_of_ble_eq_true rfl⟩ rfl rfl (Nat.le_of_ble_eq_true rfl) dX8_projectorTells_79 ⟨Nat.zero_le _, Nat.zero_le _⟩ (fun r13 I12 h => ?_)
        obtain ⟨c14, h⟩ := h
        refine rc_iald X T0.2.1 (by decide) dX8_projectorTells_82 c14 ?_
        refine rc_goto X 88 dX8_projectorTells_83 (by decide) ?_
        exact rc_iret X hr dX8_projectorTells_88 h
    · have h := h.2 c9
      refine rc_iload_n X dX8_projectorTells_46 rfl 4 rfl ?_
      obtain ⟨c15, h⟩ := h
      refine rc_if_ne X 55 dX8_projectorTells_47 (by decide) c15 (fun c16 => ?_) (fun c16 => ?_)
      · have h := h.1 c16
        refine rc_aload_n X dX8_projectorTells_55 rfl 1 rfl ?_
        refine gfX8_v X T0.1 nX8_projectorTells_X8 qX8_projectorTells_1 dX8_projectorTells_56 ?_
        refine rc_iload_n X dX8_projectorTells_59 rfl 2 rfl ?_
        refine rc_iconst X dX8_projectorTells_60 ?_
        refine rc_cSI (rest := [.ref (a0 + 1)]) X (mX8_on  h) gX8_projectorTells_X8_on rfl ⟨rfl, rfl⟩ dyX8_on ⟨Nat.le_of_ble_eq_true rfl, Nat.le_of_ble_eq_true rfl⟩ rfl rfl (Nat.le_of_ble_eq_true rfl) dX8_projectorTells_61 ⟨Nat.zero_le _, Nat.zero_le _⟩ (fun r18 I17 h => ?_)
        obtain ⟨c19, h⟩ := h
        refine rc_iald X T0.2.1 (by decide) dX8_projectorTells_64 c19 ?_
        refine rc_goto X 88 dX8_projectorTells_65 (by decide) ?_
        exact rc_iret X hr dX8_projectorTells_88 h
      · have h := h.2 c16
        refine rc_ldc (n := (-100005)) X qX8_projectorTells_2 (by decide +kernel) dX8_projectorTells_50 ?_
        refine rc_goto X 88 dX8_projectorTells_52 (by decide) ?_
        exact rc_iret X hr dX8_projectorTells_88 h
  · have h := h.2 c7
    refine rc_iload_n X dX8_projectorTells_37 rfl 4 rfl ?_
    refine rc_goto X 88 dX8_projectorTells_38 (by decide) ?_
    exact rc_iret X hr dX8_projectorTells_88 h
def wX8_projectorTells_26 (G : rc_G) (post : Int → rc_M → Prop) (a0 : Nat) (a1 : Int) (a2 : Int)  (x3 : Int) (I : rc_M) : Prop :=
  wX8_projectorTells_31 G post a0 a1 a2  x3 1 I
set_option maxRecDepth 100000 in
set_option maxHeartbeats 4000000 in
theorem gX8_projectorTells_26 {p : Program} {l : Launch} {e : Env} {s : State} {m : MethodId} {below : List Frame} {meth : Method} {c : Code} {G : rc_G} {a0 : Nat} {a1 : Int} {a2 : Int} {I : rc_M} {post : Int → rc_M → Prop}  {x3 : Int} (X : rc_X p s m ([.ref a0, .int (rc_o a1), .int (rc_o a2)] : List Value).toArray meth c cX8_projectorTells 5 wsX8_projectorTells RX8 G (rc_A G)) (hr : meth.sig.returnType = some .int) (T0 : kX8 G a0)   (h : wX8_projectorTells_26 G post a0 a1 a2  x3 I) : rc_g p l e rmX8_projectorTells s m ([.ref a0, .int (rc_o a1), .int (rc_o a2)] : List Value).toArray below meth c 0 0 (MQ below (rc_QI G post) ([.ref a0, .int (rc_o a1), .int (rc_o a2)] : List Value).toArray s 0 0 (rc_A G)) 5 G (rc_A G) 26 [(0, .ref a0), (1, .int (rc_o a1)), (2, .int (rc_o a2)), (3, .int (rc_o x3))] [] I := by
  unfold wX8_projectorTells_26 at h
  refine rc_iconst X dX8_projectorTells_26 ?_
  refine rc_goto X 31 dX8_projectorTells_27 (by decide) ?_
  refine rc_subl [(0, .ref a0), (1, .int (rc_o a1)), (2, .int (rc_o a2)), (3, .int (rc_o x3))] [0, 1, 2, 3] rfl ?_
  exact gX8_projectorTells_31 X hr T0   h
def wX8_projectorTells (G : rc_G) (a0 : Nat) (a1 : Int) (a2 : Int) (I : rc_M) (post : Int → rc_M → Prop) : Prop :=
  wX8_on G a1 0 I (fun r2 I1 => (0 ≤ r2 ∧ r2 < 199) ∧ (rc_R (I1 (a0 + 1) r2) ∧ (((I1 (a0 + 1) r2) = 2 → wX8_projectorTells_26 G post a0 a1 a2  (I1 (a0 + 1) r2) I1) ∧ (¬ (I1 (a0 + 1) r2) = 2 → rc_R (I1 (a0 + 1) r2) ∧ (((I1 (a0 + 1) r2) = 3 → wX8_projectorTells_26 G post a0 a1 a2  (I1 (a0 + 1) r2) I1) ∧ (¬ (I1 (a0 + 1) r2) = 3 → rc_R (I1 (a0 + 1) r2) ∧ ((¬ (I1 (a0 + 1) r2) = 5 → wX8_projectorTells_31 G post a0 a1 a2  (I1 (a0 + 1) r2) 0 I1) ∧ ((I1 (a0 + 1) r2) = 5 → wX8_projectorTells_26 G post a0 a1 a2  (I1 (a0 + 1) r2) I1))))))))
set_option maxRecDepth 100000 in
set_option maxHeartbeats 4000000 in
theorem gX8_projectorTells_0 {p : Program} {l : Launch} {e : Env} {s : State} {m : MethodId} {below : List Frame} {meth : Method} {c : Code} {G : rc_G} {a0 : Nat} {a1 : Int} {a2 : Int} {I : rc_M} {post : Int → rc_M → Prop}  (X : rc_X p s m ([.ref a0, .int (rc_o a1), .int (rc_o a2)] : List Value).toArray meth c cX8_projectorTells 5 wsX8_projectorTells RX8 G (rc_A G)) (hr : meth.sig.returnType = some .int) (T0 : kX8 G a0)  (h : wX8_projectorTells G a0 a1 a2 I post) : rc_g p l e rmX8_projectorTells s m ([.ref a0, .int (rc_o a1), .int (rc_o a2)] : List Value).toArray below meth c 0 0 (MQ below (rc_QI G post) ([.ref a0, .int (rc_o a1), .int (rc_o a2)] : List Value).toArray s 0 0 (rc_A G)) 5 G (rc_A G) 0 [(0, .ref a0), (1, .int (rc_o a1)), (2, .int (rc_o a2))] [] I := by
  unfold wX8_projectorTells at h
  refine rc_aload_n X dX8_projectorTells_0 rfl 0 rfl ?_
  refine gfX8_v X T0.1 nX8_projectorTells_X8 qX8_projectorTells_1 dX8_projectorTells_1 ?_
  refine rc_iload_n X dX8_projectorTells_4 rfl 1 rfl ?_
  refine rc_iconst X dX8_projectorTells_5 ?_
  refine rc_cSI (rest := [.ref (a0 + 1)]) X (mX8_on  h) gX8_projectorTells_X8_on rfl ⟨rfl, rfl⟩ dyX8_on ⟨Nat.le_of_ble_eq_true rfl, Nat.le_of_ble_eq_true rfl⟩ rfl rfl (Nat.le_of_ble_eq_true rfl) dX8_projectorTells_6 ⟨Nat.zero_le _, Nat.zero_le _⟩ (fun r2 I1 h => ?_)
  obtain ⟨c3, h⟩ := h
  refine rc_iald X T0.2.1 (by decide) dX8_projectorTells_9 c3 ?_
  refine rc_istore_n X [(3, .int (rc_o (I1 (a0 + 1) r2))), (0, .ref a0), (1, .int (rc_o a1)), (2, .int (rc_o a2))] dX8_projectorTells_10 rfl (by decide) rfl ?_
  refine rc_iload_n X dX8_projectorTells_11 rfl 0 rfl ?_
  refine rc_iconst X dX8_projectorTells_12 ?_
  obtain ⟨c4, h⟩ := h
  refine rc_ic_eq X 26 dX8_projectorTells_13 (by decide) c4 ⟨by decide, by decide⟩ (fun c5 => ?_) (fun c5 => ?_)
  · have h := h.1 c5
    refine rc_subl [(0, .ref a0), (1, .int (rc_o a1)), (2, .int (rc_o a2)), (3, .int (rc_o (I1 (a0 + 1) r2)))] [1, 2, 3, 0] rfl ?_
    exact gX8_projectorTells_26 X hr T0   h
  · have h := h.2 c5
    refine rc_iload_n X dX8_projectorTells_16 rfl 0 rfl ?_
    refine rc_iconst X dX8_projectorTells_17 ?_
    obtain ⟨c20, h⟩ := h
    refine rc_ic_eq X 26 dX8_projectorTells_18 (by decide) c20 ⟨by decide, by decide⟩ (fun c21 => ?_) (fun c21 => ?_)
    · have h := h.1 c21
      refine rc_subl [(0, .ref a0), (1, .int (rc_o a1)), (2, .int (rc_o a2)), (3, .int (rc_o (I1 (a0 + 1) r2)))] [1, 2, 3, 0] rfl ?_
      exact gX8_projectorTells_26 X hr T0   h
    · have h := h.2 c21
      refine rc_iload_n X dX8_projectorTells_21 rfl 0 rfl ?_
      refine rc_iconst X dX8_projectorTells_22 ?_
      obtain ⟨c22, h⟩ := h
      refine rc_ic_ne X 30 dX8_projectorTells_23 (by decide) c22 ⟨by decide, by decide⟩ (fun c23 => ?_) (fun c23 => ?_)
      · have h := h.1 c23
        refine rc_iconst X dX8_projectorTells_30 ?_
        refine rc_subl [(0, .ref a0), (1, .int (rc_o a1)), (2, .int (rc_o a2)), (3, .int (rc_o (I1 (a0 + 1) r2)))] [1, 2, 3, 0] rfl ?_
        exact gX8_projectorTells_31 X hr T0   h
      · have h := h.2 c23
        refine rc_subl [(0, .ref a0), (1, .int (rc_o a1)), (2, .int (rc_o a2)), (3, .int (rc_o (I1 (a0 + 1) r2)))] [1, 2, 3, 0] rfl ?_
        exact gX8_projectorTells_26 X hr T0   h
theorem mX8_projectorTells {l : Launch} {G : rc_G} {a0 : Nat} {a1 : Int} {a2 : Int} {I : rc_M} {post : Int → rc_M → Prop} (T0 : kX8 G a0) (h : wX8_projectorTells G a0 a1 a2 I post) : rc_CI l yX8_projectorTells wsX8_projectorTells rmX8_projectorTells G [.ref a0, .int (rc_o a1), .int (rc_o a2)] I post :=
  rc_body (by decide +kernel) rfl rfl (Nat.le_of_ble_eq_true rfl) rfl (fun p e s m below meth c X hr => gX8_projectorTells_0 X hr T0 h)
/-! X8_projector -/
abbrev rmX8_projector : Room := { frames := 2, cells := 0, slots := 0, locals := 45 }
theorem dyX8_projector : yX8_projector.cls = RX8 ∧ yX8_projector.cls ≠ "java/lang/invoke/MethodHandle" ∧ yX8_projector.cls ≠ "java/lang/invoke/VarHandle" ∧ (parseMethodDescriptor yX8_projector.desc).map (fun d => d.parameters.length) = some 2 := ⟨rfl, by decide +kernel, by decide +kernel, by decide +kernel⟩
theorem qX8_projector_2 : Cond.constant RX8 51 (-100002) ∈ wsX8_projector := List.mem_of_getElem? (i := 2) (by decide +kernel)
theorem qX8_projector_1 : Cond.constant RX8 64 (-100001) ∈ wsX8_projector := List.mem_of_getElem? (i := 1) (by decide +kernel)
def wX8_projector (G : rc_G) (a0 : Nat) (a1 : Int) (a2 : Int) (I : rc_M) (post : Int → rc_M → Prop) : Prop :=
  wX8_in G a1 0 1 I (fun r2 I1 => rc_R r2 ∧ ((¬ r2 = 0 → wX8_in G a2 0 2 I1 (fun r6 I5 => rc_R r6 ∧ ((r6 = 0 → post (-100002) I5) ∧ (¬ r6 = 0 → wX8_projectorTells G a0 a1 a2 I5 (fun r10 I9 => post r10 I9))))) ∧ (r2 = 0 → post (-100001) I1)))
set_option maxRecDepth 100000 in
set_option maxHeartbeats 4000000 in
theorem gX8_projector_0 {p : Program} {l : Launch} {e : Env} {s : State} {m : MethodId} {below : List Frame} {meth : Method} {c : Code} {G : rc_G} {a0 : Nat} {a1 : Int} {a2 : Int} {I : rc_M} {post : Int → rc_M → Prop}  (X : rc_X p s m ([.ref a0, .int (rc_o a1), .int (rc_o a2)] : List Value).toArray meth c cX8_projector 3 wsX8_projector RX8 G (rc_A G)) (hr : meth.sig.returnType = some .int) (T0 : kX8 G a0)  (h : wX8_projector G a0 a1 a2 I post) : rc_g p l e rmX8_projector s m ([.ref a0, .int (rc_o a1), .int (rc_o a2)] : List Value).toArray below meth c 0 0 (MQ below (rc_QI G post) ([.ref a0, .int (rc_o a1), .int (rc_o a2)] : List Value).toArray s 0 0 (rc_A G)) 3 G (rc_A G) 0 [(0, .ref a0), (1, .int (rc_o a1)), (2, .int (rc_o a2))] [] I := by
  unfold wX8_projector at h
  refine rc_iload_n X dX8_projector_0 rfl 1 rfl ?_
  refine rc_iconst X dX8_projector_1 ?_
  refine rc_iconst X dX8_projector_2 ?_
  refine rc_cSI (rest := []) X (mX8_in  h) gX8_projector_X8_in rfl ⟨rfl, rfl⟩ dyX8_in ⟨Nat.le_of_ble_eq_true rfl, Nat.le_of_ble_eq_true rfl⟩ rfl rfl (Nat.le_of_ble_eq_true rfl) dX8_projector_3 ⟨Nat.zero_le _, Nat.zero_le _⟩ (fun r2 I1 h => ?_)
  obtain ⟨c3, h⟩ := h
  refine rc_if_ne X 12 dX8_projector_6 (by decide) c3 (fun c4 => ?_) (fun c4 => ?_)
  · have h := h.1 c4
    refine rc_iload_n X dX8_projector_12 rfl 2 rfl ?_
    refine rc_iconst X dX8_projector_13 ?_
    refine rc_iconst X dX8_projector_14 ?_
    refine rc_cSI (rest := []) X (mX8_in  h) gX8_projector_X8_in rfl ⟨rfl, rfl⟩ dyX8_in ⟨Nat.le_of_ble_eq_true rfl, Nat.le_of_ble_eq_true rfl⟩ rfl rfl (Nat.le_of_ble_eq_true rfl) dX8_projector_15 ⟨Nat.zero_le _, Nat.zero_le _⟩ (fun r6 I5 h => ?_)
    obtain ⟨c7, h⟩ := h
    refine rc_if_eq X 30 dX8_projector_18 (by decide) c7 (fun c8 => ?_) (fun c8 => ?_)
    · have h := h.1 c8
      refine rc_ldc (n := (-100002)) X qX8_projector_2 (by decide +kernel) dX8_projector_30 ?_
      exact rc_iret X hr dX8_projector_32 h
    · have h := h.2 c8
      refine rc_aload_n X dX8_projector_21 rfl 0 rfl ?_
      refine rc_iload_n X dX8_projector_22 rfl 1 rfl ?_
      refine rc_iload_n X dX8_projector_23 rfl 2 rfl ?_
      refine rc_cVI (rest := []) X (mX8_projectorTells T0 h) gX8_projector_X8_projectorTells rfl ⟨rfl, rfl⟩ dyX8_projectorTells ⟨Nat.le_of_ble_eq_true rfl, Nat.le_of_ble_eq_true rfl⟩ (rc_recv X T0.1 rfl) rfl rfl (Nat.le_of_ble_eq_true rfl) dX8_projector_24 ⟨Nat.zero_le _, Nat.zero_le _⟩ (fun r10 I9 h => ?_)
      refine rc_goto X 32 dX8_projector_27 (by decide) ?_
      exact rc_iret X hr dX8_projector_32 h
  · have h := h.2 c4
    refine rc_ldc (n := (-100001)) X qX8_projector_1 (by decide +kernel) dX8_projector_9 ?_
    exact rc_iret X hr dX8_projector_11 h
theorem mX8_projector {l : Launch} {G : rc_G} {a0 : Nat} {a1 : Int} {a2 : Int} {I : rc_M} {post : Int → rc_M → Prop} (T0 : kX8 G a0) (h : wX8_projector G a0 a1 a2 I post) : rc_CI l yX8_projector wsX8_projector rmX8_projector G [.ref a0, .int (rc_o a1), .int (rc_o a2)] I post :=
  rc_body (by decide +kernel) rfl rfl (Nat.le_of_ble_eq_true rfl) rfl (fun p e s m below meth c X hr => gX8_projector_0 X hr T0 h)
/-! X8_taskAt -/
abbrev rmX8_taskAt : Room := { frames := 1, cells := 0, slots := 0, locals := 22 }
theorem dyX8_taskAt : yX8_taskAt.cls = RX8 ∧ yX8_taskAt.cls ≠ "java/lang/invoke/MethodHandle" ∧ yX8_taskAt.cls ≠ "java/lang/invoke/VarHandle" ∧ (parseMethodDescriptor yX8_taskAt.desc).map (fun d => d.parameters.length) = some 1 := ⟨rfl, by decide +kernel, by decide +kernel, by decide +kernel⟩
theorem qX8_taskAt_1 : Cond.fieldLink RX8 7 "ReelChangerModel" "v" "[I" ∈ wsX8_taskAt := List.mem_of_getElem? (i := 1) (by decide +kernel)
theorem nX8_taskAt_X8 : ∀ w ∈ wsX80, w ∈ wsX8_taskAt := fun w h => List.mem_cons_of_mem _ (List.mem_append_right _ (h))
def wX8_taskAt (G : rc_G) (a0 : Nat) (a1 : Int) (I : rc_M) (post : Int → rc_M → Prop) : Prop :=
  rc_R a1 ∧ ((¬ a1 = 0 → wX8_in G a1 1 (I (a0 + 1) 174) I (fun r4 I3 => rc_R r4 ∧ ((r4 = 0 → post (-1) I3) ∧ (¬ r4 = 0 → (0 ≤ (175 + a1) - 1 ∧ (175 + a1) - 1 < 199) ∧ (post (I3 (a0 + 1) ((175 + a1) - 1)) I3))))) ∧ (a1 = 0 → post (I (a0 + 1) 172) I))
set_option maxRecDepth 100000 in
set_option maxHeartbeats 4000000 in
theorem gX8_taskAt_0 {p : Program} {l : Launch} {e : Env} {s : State} {m : MethodId} {below : List Frame} {meth : Method} {c : Code} {G : rc_G} {a0 : Nat} {a1 : Int} {I : rc_M} {post : Int → rc_M → Prop}  (X : rc_X p s m ([.ref a0, .int (rc_o a1)] : List Value).toArray meth c cX8_taskAt 2 wsX8_taskAt RX8 G (rc_A G)) (hr : meth.sig.returnType = some .int) (T0 : kX8 G a0)  (h : wX8_taskAt G a0 a1 I post) : rc_g p l e rmX8_taskAt s m ([.ref a0, .int (rc_o a1)] : List Value).toArray below meth c 0 0 (MQ below (rc_QI G post) ([.ref a0, .int (rc_o a1)] : List Value).toArray s 0 0 (rc_A G)) 2 G (rc_A G) 0 [(0, .ref a0), (1, .int (rc_o a1))] [] I := by
  unfold wX8_taskAt at h
  refine rc_iload_n X dX8_taskAt_0 rfl 1 rfl ?_
  obtain ⟨c1, h⟩ := h
  refine rc_if_ne X 15 dX8_taskAt_1 (by decide) c1 (fun c2 => ?_) (fun c2 => ?_)
  · have h := h.1 c2
    refine rc_iload_n X dX8_taskAt_15 rfl 1 rfl ?_
    refine rc_iconst X dX8_taskAt_16 ?_
    refine rc_aload_n X dX8_taskAt_17 rfl 0 rfl ?_
    refine gfX8_v X T0.1 nX8_taskAt_X8 qX8_taskAt_1 dX8_taskAt_18 ?_
    refine rc_sipush X dX8_taskAt_21 (rc_b16 _ ⟨by decide, by decide⟩) ?_
    refine rc_iald X T0.2.1 (by decide) dX8_taskAt_24 ⟨by decide, by decide⟩ ?_
    refine rc_cSI (rest := []) X (mX8_in  h) gX8_taskAt_X8_in rfl ⟨rfl, rfl⟩ dyX8_in ⟨Nat.le_of_ble_eq_true rfl, Nat.le_of_ble_eq_true rfl⟩ rfl rfl (Nat.le_of_ble_eq_true rfl) dX8_taskAt_25 ⟨Nat.zero_le _, Nat.zero_le _⟩ (fun r4 I3 h => ?_)
    obtain ⟨c5, h⟩ := h
    refine rc_if_eq X 46 dX8_taskAt_28 (by decide) c5 (fun c6 => ?_) (fun c6 => ?_)
    · have h := h.1 c6
      refine rc_iconst X dX8_taskAt_46 ?_
      exact rc_iret X hr dX8_taskAt_47 h
    · have h := h.2 c6
      refine rc_aload_n X dX8_taskAt_31 rfl 0 rfl ?_
      refine gfX8_v X T0.1 nX8_taskAt_X8 qX8_taskAt_1 dX8_taskAt_32 ?_
      refine rc_sipush X dX8_taskAt_35 (rc_b16 _ ⟨by decide, by decide⟩) ?_
      refine rc_iload_n X dX8_taskAt_38 rfl 1 rfl ?_
      refine rc_iadd X dX8_taskAt_39 ?_
      refine rc_iconst X dX8_taskAt_40 ?_
      refine rc_isub X dX8_taskAt_41 ?_
      obtain ⟨c7, h⟩ := h
      refine rc_iald X T0.2.1 (by decide) dX8_taskAt_42 c7 ?_
      refine rc_goto X 47 dX8_taskAt_43 (by decide) ?_
      exact rc_iret X hr dX8_taskAt_47 h
  · have h := h.2 c2
    refine rc_aload_n X dX8_taskAt_4 rfl 0 rfl ?_
    refine gfX8_v X T0.1 nX8_taskAt_X8 qX8_taskAt_1 dX8_taskAt_5 ?_
    refine rc_sipush X dX8_taskAt_8 (rc_b16 _ ⟨by decide, by decide⟩) ?_
    refine rc_iald X T0.2.1 (by decide) dX8_taskAt_11 ⟨by decide, by decide⟩ ?_
    refine rc_goto X 47 dX8_taskAt_12 (by decide) ?_
    exact rc_iret X hr dX8_taskAt_47 h
theorem mX8_taskAt {l : Launch} {G : rc_G} {a0 : Nat} {a1 : Int} {I : rc_M} {post : Int → rc_M → Prop} (T0 : kX8 G a0) (h : wX8_taskAt G a0 a1 I post) : rc_CI l yX8_taskAt wsX8_taskAt rmX8_taskAt G [.ref a0, .int (rc_o a1)] I post :=
  rc_body (by decide +kernel) rfl rfl (Nat.le_of_ble_eq_true rfl) rfl (fun p e s m below meth c X hr => gX8_taskAt_0 X hr T0 h)
/-! X8_task -/
abbrev rmX8_task : Room := { frames := 2, cells := 0, slots := 0, locals := 43 }
theorem dyX8_task : yX8_task.cls = RX8 ∧ yX8_task.cls ≠ "java/lang/invoke/MethodHandle" ∧ yX8_task.cls ≠ "java/lang/invoke/VarHandle" ∧ (parseMethodDescriptor yX8_task.desc).map (fun d => d.parameters.length) = some 2 := ⟨rfl, by decide +kernel, by decide +kernel, by decide +kernel⟩
theorem qX8_task_2 : Cond.constant RX8 51 (-100002) ∈ wsX8_task := List.mem_of_getElem? (i := 2) (by decide +kernel)
theorem qX8_task_1 : Cond.constant RX8 64 (-100001) ∈ wsX8_task := List.mem_of_getElem? (i := 1) (by decide +kernel)
def wX8_task (G : rc_G) (a0 : Nat) (a1 : Int) (a2 : Int) (I : rc_M) (post : Int → rc_M → Prop) : Prop :=
  wX8_taskAt G a0 a1 I (fun r2 I1 => rc_R r2 ∧ ((0 ≤ r2 → rc_R a2 ∧ ((¬ a2 = 0 → rc_R a2 ∧ ((¬ a2 = 1 → post (-100002) I1) ∧ (a2 = 1 → (0 ≤ r2 ∧ r2 < 2147483648) ∧ (post (r2 / 3) I1)))) ∧ (a2 = 0 → (0 ≤ r2 ∧ r2 < 2147483648) ∧ (post (r2 % 3) I1)))) ∧ (¬ 0 ≤ r2 → post (-100001) I1)))
set_option maxRecDepth 100000 in
set_option maxHeartbeats 4000000 in
theorem gX8_task_0 {p : Program} {l : Launch} {e : Env} {s : State} {m : MethodId} {below : List Frame} {meth : Method} {c : Code} {G : rc_G} {a0 : Nat} {a1 : Int} {a2 : Int} {I : rc_M} {post : Int → rc_M → Prop}  (X : rc_X p s m ([.ref a0, .int (rc_o a1), .int (rc_o a2)] : List Value).toArray meth c cX8_task 4 wsX8_task RX8 G (rc_A G)) (hr : meth.sig.returnType = some .int) (T0 : kX8 G a0)  (h : wX8_task G a0 a1 a2 I post) : rc_g p l e rmX8_task s m ([.ref a0, .int (rc_o a1), .int (rc_o a2)] : List Value).toArray below meth c 0 0 (MQ below (rc_QI G post) ([.ref a0, .int (rc_o a1), .int (rc_o a2)] : List Value).toArray s 0 0 (rc_A G)) 4 G (rc_A G) 0 [(0, .ref a0), (1, .int (rc_o a1)), (2, .int (rc_o a2))] [] I := by
  unfold wX8_task at h
  refine rc_aload_n X dX8_task_0 rfl 0 rfl ?_
  refine rc_iload_n X dX8_task_1 rfl 1 rfl ?_
  refine rc_cVI (rest := []) X (mX8_taskAt T0 h) gX8_task_X8_taskAt rfl ⟨rfl, rfl⟩ dyX8_taskAt ⟨Nat.le_of_ble_eq_true rfl, Nat.le_of_ble_eq_true rfl⟩ (rc_recv X T0.1 rfl) rfl rfl (Nat.le_of_ble_eq_true rfl) dX8_task_2 ⟨Nat.zero_le _, Nat.zero_le _⟩ (fun r2 I1 h => ?_)
  refine rc_istore_n X [(3, .int (rc_o r2)), (0, .ref a0), (1, .int (rc_o a1)), (2, .int (rc_o a2))] dX8_task_5 rfl (by decide) rfl ?_
  refine rc_iload_n X dX8_task_6 rfl 0 rfl ?_
  obtain ⟨c3, h⟩ := h
  refine rc_if_ge X 13 dX8_task_7 (by decide) c3 (fun c4 => ?_) (fun c4 => ?_)
  · have h := h.1 c4
    refine rc_iload_n X dX8_task_13 rfl 3 rfl ?_
    obtain ⟨c5, h⟩ := h
    refine rc_if_ne X 23 dX8_task_14 (by decide) c5 (fun c6 => ?_) (fun c6 => ?_)
    · have h := h.1 c6
      refine rc_iload_n X dX8_task_23 rfl 3 rfl ?_
      refine rc_iconst X dX8_task_24 ?_
      obtain ⟨c7, h⟩ := h
      refine rc_ic_ne X 34 dX8_task_25 (by decide) c7 ⟨by decide, by decide⟩ (fun c8 => ?_) (fun c8 => ?_)
      · have h := h.1 c8
        refine rc_ldc (n := (-100002)) X qX8_task_2 (by decide +kernel) dX8_task_34 ?_
        exact rc_iret X hr dX8_task_36 h
      · have h := h.2 c8
        refine rc_iload_n X dX8_task_28 rfl 0 rfl ?_
        refine rc_iconst X dX8_task_29 ?_
        obtain ⟨c9, h⟩ := h
        refine rc_idiv X dX8_task_30 c9 ⟨by decide, by decide⟩ ?_
        refine rc_goto X 36 dX8_task_31 (by decide) ?_
        exact rc_iret X hr dX8_task_36 h
    · have h := h.2 c6
      refine rc_iload_n X dX8_task_17 rfl 0 rfl ?_
      refine rc_iconst X dX8_task_18 ?_
      obtain ⟨c10, h⟩ := h
      refine rc_irem X dX8_task_19 c10 ⟨by decide, by decide⟩ ?_
      refine rc_goto X 36 dX8_task_20 (by decide) ?_
      exact rc_iret X hr dX8_task_36 h
  · have h := h.2 c4
    refine rc_ldc (n := (-100001)) X qX8_task_1 (by decide +kernel) dX8_task_10 ?_
    exact rc_iret X hr dX8_task_12 h
theorem mX8_task {l : Launch} {G : rc_G} {a0 : Nat} {a1 : Int} {a2 : Int} {I : rc_M} {post : Int → rc_M → Prop} (T0 : kX8 G a0) (h : wX8_task G a0 a1 a2 I post) : rc_CI l yX8_task wsX8_task rmX8_task G [.ref a0, .int (rc_o a1), .int (rc_o a2)] I post :=
  rc_body (by decide +kernel) rfl rfl (Nat.le_of_ble_eq_true rfl) rfl (fun p e s m below meth c X hr => gX8_task_0 X hr T0 h)
/-! X8_keeps -/
abbrev rmX8_keeps : Room := { frames := 0, cells := 0, slots := 0, locals := 0 }
theorem dyX8_keeps : yX8_keeps.cls = RX8 ∧ yX8_keeps.cls ≠ "java/lang/invoke/MethodHandle" ∧ yX8_keeps.cls ≠ "java/lang/invoke/VarHandle" ∧ (parseMethodDescriptor yX8_keeps.desc).map (fun d => d.parameters.length) = some 0 := ⟨rfl, by decide +kernel, by decide +kernel, by decide +kernel⟩
theorem qX8_keeps_1 : Cond.fieldLink RX8 13 "ReelChangerModel" "spare" "[I" ∈ wsX8_keeps := List.mem_of_getElem? (i := 1) (by decide +kernel)
theorem nX8_keeps_X8 : ∀ w ∈ wsX80, w ∈ wsX8_keeps := fun w h => List.mem_cons_of_mem _ (List.mem_append_right _ (h))
theorem qX8_keeps_2 : Cond.fieldLink RX8 7 "ReelChangerModel" "v" "[I" ∈ wsX8_keeps := List.mem_of_getElem? (i := 2) (by decide +kernel)
def wX8_keeps_2 (G : rc_G) (post : rc_M → Prop) (a0 : Nat) (k2 : Int → rc_M → Prop) (x1 : Int) (I : rc_M) : Prop :=
  rc_R x1 ∧ ((199 ≤ x1 → post I) ∧ (¬ 199 ≤ x1 → (0 ≤ x1 ∧ x1 < 199) ∧ ((0 ≤ x1 ∧ x1 < 199) ∧ (∀ I5, I5 = rc_s I (a0 + 2) x1 (I (a0 + 1) x1) → k2 (x1 + 1) I5))))
set_option maxRecDepth 100000 in
set_option maxHeartbeats 4000000 in
theorem gX8_keeps_2 {p : Program} {l : Launch} {e : Env} {s : State} {m : MethodId} {below : List Frame} {meth : Method} {c : Code} {G : rc_G} {a0 : Nat} {I : rc_M} {post : rc_M → Prop} {k2 : Int → rc_M → Prop} {x1 : Int} (X : rc_X p s m ([.ref a0] : List Value).toArray meth c cX8_keeps 2 wsX8_keeps RX8 G (rc_A G)) (hr : meth.sig.returnType = none) (T0 : kX8 G a0) (hk2 : ∀ (x1 : Int) (J : rc_M), k2 x1 J → rc_g p l e rmX8_keeps s m ([.ref a0] : List Value).toArray below meth c 0 0 (MQ below (rc_QV G post) ([.ref a0] : List Value).toArray s 0 0 (rc_A G)) 2 G (rc_A G) 2 [(0, .ref a0), (1, .int (rc_o x1))] [] J)  (h : wX8_keeps_2 G post a0 k2 x1 I) : rc_g p l e rmX8_keeps s m ([.ref a0] : List Value).toArray below meth c 0 0 (MQ below (rc_QV G post) ([.ref a0] : List Value).toArray s 0 0 (rc_A G)) 2 G (rc_A G) 2 [(0, .ref a0), (1, .int (rc_o x1))] [] I := by
  unfold wX8_keeps_2 at h
  refine rc_iload_n X dX8_keeps_2 rfl 1 rfl ?_
  refine rc_sipush X dX8_keeps_3 (rc_b16 _ ⟨by decide, by decide⟩) ?_
  obtain ⟨c1, h⟩ := h
  refine rc_ic_ge X 27 dX8_keeps_6 (by decide) c1 ⟨by decide, by decide⟩ (fun c2 => ?_) (fun c2 => ?_)
  · have h := h.1 c2
    exact rc_vret X hr dX8_keeps_27 h
  · have h := h.2 c2
    refine rc_aload_n X dX8_keeps_9 rfl 0 rfl ?_
    refine gfX8_spare X T0.1 nX8_keeps_X8 qX8_keeps_1 dX8_keeps_10 ?_
    refine rc_iload_n X dX8_keeps_13 rfl 1 rfl ?_
    refine rc_aload_n X dX8_keeps_14 rfl 0 rfl ?_
    refine gfX8_v X T0.1 nX8_keeps_X8 qX8_keeps_2 dX8_keeps_15 ?_
    refine rc_iload_n X dX8_keeps_18 rfl 1 rfl ?_
    obtain ⟨c3, h⟩ := h
    refine rc_iald X T0.2.1 (by decide) dX8_keeps_19 c3 ?_
    obtain ⟨c4, h⟩ := h
    refine rc_iast X T0.2.2.1 (by decide) dX8_keeps_20 c4 (fun I5 e5 => ?_)
    have h := h I5 e5
    refine rc_iinc X [(1, .int (rc_o (x1 + 1))), (0, .ref a0)] dX8_keeps_21 1 rfl (by decide) rfl ?_
    refine rc_goto X 2 dX8_keeps_24 (by decide) ?_
    refine rc_subl [(0, .ref a0), (1, .int (rc_o (x1 + 1)))] [1, 0] rfl ?_
    exact hk2 _ _ h
noncomputable def rX8_keeps_2 (G : rc_G) (post : rc_M → Prop) (a0 : Nat)  (n : Nat) : Int → rc_M → Prop :=
  Nat.rec (motive := fun _ => Int → rc_M → Prop) (fun _ _ => False) (fun _ ih => wX8_keeps_2 G post a0  ih) n
set_option maxRecDepth 100000 in
set_option maxHeartbeats 4000000 in
theorem sX8_keeps_2 {p : Program} {l : Launch} {e : Env} {s : State} {m : MethodId} {below : List Frame} {meth : Method} {c : Code} {G : rc_G} {a0 : Nat} {I : rc_M} {post : rc_M → Prop}  {n : Nat} {x1 : Int} (X : rc_X p s m ([.ref a0] : List Value).toArray meth c cX8_keeps 2 wsX8_keeps RX8 G (rc_A G)) (hr : meth.sig.returnType = none) (T0 : kX8 G a0)  (h : rX8_keeps_2 G post a0  n x1 I) : rc_g p l e rmX8_keeps s m ([.ref a0] : List Value).toArray below meth c 0 0 (MQ below (rc_QV G post) ([.ref a0] : List Value).toArray s 0 0 (rc_A G)) 2 G (rc_A G) 2 [(0, .ref a0), (1, .int (rc_o x1))] [] I := by
  induction n generalizing x1 I with
  | zero => exact h.elim
  | succ n ih => exact gX8_keeps_2 (k2 := rX8_keeps_2 G post a0  n) X hr T0  (fun x1 J h2 => ih h2) h
def wX8_keeps (G : rc_G) (a0 : Nat) (I : rc_M) (post : rc_M → Prop) : Prop :=
  ∃ n, rX8_keeps_2 G post a0  n 0 I
set_option maxRecDepth 100000 in
set_option maxHeartbeats 4000000 in
theorem gX8_keeps_0 {p : Program} {l : Launch} {e : Env} {s : State} {m : MethodId} {below : List Frame} {meth : Method} {c : Code} {G : rc_G} {a0 : Nat} {I : rc_M} {post : rc_M → Prop}  (X : rc_X p s m ([.ref a0] : List Value).toArray meth c cX8_keeps 2 wsX8_keeps RX8 G (rc_A G)) (hr : meth.sig.returnType = none) (T0 : kX8 G a0)  (h : wX8_keeps G a0 I post) : rc_g p l e rmX8_keeps s m ([.ref a0] : List Value).toArray below meth c 0 0 (MQ below (rc_QV G post) ([.ref a0] : List Value).toArray s 0 0 (rc_A G)) 2 G (rc_A G) 0 [(0, .ref a0)] [] I := by
  unfold wX8_keeps at h
  refine rc_iconst X dX8_keeps_0 ?_
  refine rc_istore_n X [(1, .int (rc_o 0)), (0, .ref a0)] dX8_keeps_1 rfl (by decide) rfl ?_
  refine rc_subl [(0, .ref a0), (1, .int (rc_o 0))] [1, 0] rfl ?_
  obtain ⟨n, h⟩ := h
  exact sX8_keeps_2 X hr T0  h
theorem mX8_keeps {l : Launch} {G : rc_G} {a0 : Nat} {I : rc_M} {post : rc_M → Prop} (T0 : kX8 G a0) (h : wX8_keeps G a0 I post) : rc_CV l yX8_keeps wsX8_keeps rmX8_keeps G [.ref a0] I post :=
  rc_body (by decide +kernel) rfl rfl (Nat.le_of_ble_eq_true rfl) rfl (fun p e s m below meth c X hr => gX8_keeps_0 X hr T0 h)
/-! X8_comesBack -/
abbrev rmX8_comesBack : Room := { frames := 0, cells := 0, slots := 0, locals := 0 }
theorem dyX8_comesBack : yX8_comesBack.cls = RX8 ∧ yX8_comesBack.cls ≠ "java/lang/invoke/MethodHandle" ∧ yX8_comesBack.cls ≠ "java/lang/invoke/VarHandle" ∧ (parseMethodDescriptor yX8_comesBack.desc).map (fun d => d.parameters.length) = some 0 := ⟨rfl, by decide +kernel, by decide +kernel, by decide +kernel⟩
theorem qX8_comesBack_1 : Cond.fieldLink RX8 7 "ReelChangerModel" "v" "[I" ∈ wsX8_comesBack := List.mem_of_getElem? (i := 1) (by decide +kernel)
theorem nX8_comesBack_X8 : ∀ w ∈ wsX80, w ∈ wsX8_comesBack := fun w h => List.mem_cons_of_mem _ (List.mem_append_right _ (h))
theorem qX8_comesBack_2 : Cond.fieldLink RX8 13 "ReelChangerModel" "spare" "[I" ∈ wsX8_comesBack := List.mem_of_getElem? (i := 2) (by decide +kernel)
def wX8_comesBack_2 (G : rc_G) (post : rc_M → Prop) (a0 : Nat) (k2 : Int → rc_M → Prop) (x1 : Int) (I : rc_M) : Prop :=
  rc_R x1 ∧ ((199 ≤ x1 → post I) ∧ (¬ 199 ≤ x1 → (0 ≤ x1 ∧ x1 < 199) ∧ ((0 ≤ x1 ∧ x1 < 199) ∧ (∀ I5, I5 = rc_s I (a0 + 1) x1 (I (a0 + 2) x1) → k2 (x1 + 1) I5))))
set_option maxRecDepth 100000 in
set_option maxHeartbeats 4000000 in
theorem gX8_comesBack_2 {p : Program} {l : Launch} {e : Env} {s : State} {m : MethodId} {below : List Frame} {meth : Method} {c : Code} {G : rc_G} {a0 : Nat} {I : rc_M} {post : rc_M → Prop} {k2 : Int → rc_M → Prop} {x1 : Int} (X : rc_X p s m ([.ref a0] : List Value).toArray meth c cX8_comesBack 2 wsX8_comesBack RX8 G (rc_A G)) (hr : meth.sig.returnType = none) (T0 : kX8 G a0) (hk2 : ∀ (x1 : Int) (J : rc_M), k2 x1 J → rc_g p l e rmX8_comesBack s m ([.ref a0] : List Value).toArray below meth c 0 0 (MQ below (rc_QV G post) ([.ref a0] : List Value).toArray s 0 0 (rc_A G)) 2 G (rc_A G) 2 [(0, .ref a0), (1, .int (rc_o x1))] [] J)  (h : wX8_comesBack_2 G post a0 k2 x1 I) : rc_g p l e rmX8_comesBack s m ([.ref a0] : List Value).toArray below meth c 0 0 (MQ below (rc_QV G post) ([.ref a0] : List Value).toArray s 0 0 (rc_A G)) 2 G (rc_A G) 2 [(0, .ref a0), (1, .int (rc_o x1))] [] I := by
  unfold wX8_comesBack_2 at h
  refine rc_iload_n X dX8_comesBack_2 rfl 1 rfl ?_
  refine rc_sipush X dX8_comesBack_3 (rc_b16 _ ⟨by decide, by decide⟩) ?_
  obtain ⟨c1, h⟩ := h
  refine rc_ic_ge X 27 dX8_comesBack_6 (by decide) c1 ⟨by decide, by decide⟩ (fun c2 => ?_) (fun c2 => ?_)
  · have h := h.1 c2
    exact rc_vret X hr dX8_comesBack_27 h
  · have h := h.2 c2
    refine rc_aload_n X dX8_comesBack_9 rfl 0 rfl ?_
    refine gfX8_v X T0.1 nX8_comesBack_X8 qX8_comesBack_1 dX8_comesBack_10 ?_
    refine rc_iload_n X dX8_comesBack_13 rfl 1 rfl ?_
    refine rc_aload_n X dX8_comesBack_14 rfl 0 rfl ?_
    refine gfX8_spare X T0.1 nX8_comesBack_X8 qX8_comesBack_2 dX8_comesBack_15 ?_
    refine rc_iload_n X dX8_comesBack_18 rfl 1 rfl ?_
    obtain ⟨c3, h⟩ := h
    refine rc_iald X T0.2.2.1 (by decide) dX8_comesBack_19 c3 ?_
    obtain ⟨c4, h⟩ := h
    refine rc_iast X T0.2.1 (by decide) dX8_comesBack_20 c4 (fun I5 e5 => ?_)
    have h := h I5 e5
    refine rc_iinc X [(1, .int (rc_o (x1 + 1))), (0, .ref a0)] dX8_comesBack_21 1 rfl (by decide) rfl ?_
    refine rc_goto X 2 dX8_comesBack_24 (by decide) ?_
    refine rc_subl [(0, .ref a0), (1, .int (rc_o (x1 + 1)))] [1, 0] rfl ?_
    exact hk2 _ _ h
noncomputable def rX8_comesBack_2 (G : rc_G) (post : rc_M → Prop) (a0 : Nat)  (n : Nat) : Int → rc_M → Prop :=
  Nat.rec (motive := fun _ => Int → rc_M → Prop) (fun _ _ => False) (fun _ ih => wX8_comesBack_2 G post a0  ih) n
set_option maxRecDepth 100000 in
set_option maxHeartbeats 4000000 in
theorem sX8_comesBack_2 {p : Program} {l : Launch} {e : Env} {s : State} {m : MethodId} {below : List Frame} {meth : Method} {c : Code} {G : rc_G} {a0 : Nat} {I : rc_M} {post : rc_M → Prop}  {n : Nat} {x1 : Int} (X : rc_X p s m ([.ref a0] : List Value).toArray meth c cX8_comesBack 2 wsX8_comesBack RX8 G (rc_A G)) (hr : meth.sig.returnType = none) (T0 : kX8 G a0)  (h : rX8_comesBack_2 G post a0  n x1 I) : rc_g p l e rmX8_comesBack s m ([.ref a0] : List Value).toArray below meth c 0 0 (MQ below (rc_QV G post) ([.ref a0] : List Value).toArray s 0 0 (rc_A G)) 2 G (rc_A G) 2 [(0, .ref a0), (1, .int (rc_o x1))] [] I := by
  induction n generalizing x1 I with
  | zero => exact h.elim
  | succ n ih => exact gX8_comesBack_2 (k2 := rX8_comesBack_2 G post a0  n) X hr T0  (fun x1 J h2 => ih h2) h
def wX8_comesBack (G : rc_G) (a0 : Nat) (I : rc_M) (post : rc_M → Prop) : Prop :=
  ∃ n, rX8_comesBack_2 G post a0  n 0 I
set_option maxRecDepth 100000 in
set_option maxHeartbeats 4000000 in
theorem gX8_comesBack_0 {p : Program} {l : Launch} {e : Env} {s : State} {m : MethodId} {below : List Frame} {meth : Method} {c : Code} {G : rc_G} {a0 : Nat} {I : rc_M} {post : rc_M → Prop}  (X : rc_X p s m ([.ref a0] : List Value).toArray meth c cX8_comesBack 2 wsX8_comesBack RX8 G (rc_A G)) (hr : meth.sig.returnType = none) (T0 : kX8 G a0)  (h : wX8_comesBack G a0 I post) : rc_g p l e rmX8_comesBack s m ([.ref a0] : List Value).toArray below meth c 0 0 (MQ below (rc_QV G post) ([.ref a0] : List Value).toArray s 0 0 (rc_A G)) 2 G (rc_A G) 0 [(0, .ref a0)] [] I := by
  unfold wX8_comesBack at h
  refine rc_iconst X dX8_comesBack_0 ?_
  refine rc_istore_n X [(1, .int (rc_o 0)), (0, .ref a0)] dX8_comesBack_1 rfl (by decide) rfl ?_
  refine rc_subl [(0, .ref a0), (1, .int (rc_o 0))] [1, 0] rfl ?_
  obtain ⟨n, h⟩ := h
  exact sX8_comesBack_2 X hr T0  h
theorem mX8_comesBack {l : Launch} {G : rc_G} {a0 : Nat} {I : rc_M} {post : rc_M → Prop} (T0 : kX8 G a0) (h : wX8_comesBack G a0 I post) : rc_CV l yX8_comesBack wsX8_comesBack rmX8_comesBack G [.ref a0] I post :=
  rc_body (by decide +kernel) rfl rfl (Nat.le_of_ble_eq_true rfl) rfl (fun p e s m below meth c X hr => gX8_comesBack_0 X hr T0 h)
/-! X8_forecastNow -/
abbrev rmX8_forecastNow : Room := { frames := 7, cells := 0, slots := 0, locals := 154 }
theorem dyX8_forecastNow : yX8_forecastNow.cls = RX8 ∧ yX8_forecastNow.cls ≠ "java/lang/invoke/MethodHandle" ∧ yX8_forecastNow.cls ≠ "java/lang/invoke/VarHandle" ∧ (parseMethodDescriptor yX8_forecastNow.desc).map (fun d => d.parameters.length) = some 1 := ⟨rfl, by decide +kernel, by decide +kernel, by decide +kernel⟩
theorem qX8_forecastNow_1 : Cond.fieldLink RX8 7 "ReelChangerModel" "v" "[I" ∈ wsX8_forecastNow := List.mem_of_getElem? (i := 1) (by decide +kernel)
theorem nX8_forecastNow_X8 : ∀ w ∈ wsX80, w ∈ wsX8_forecastNow := fun w h => List.mem_cons_of_mem _ (List.mem_append_right _ (h))
theorem qX8_forecastNow_2 : Cond.constant RX8 68 (-100005) ∈ wsX8_forecastNow := List.mem_of_getElem? (i := 2) (by decide +kernel)
def wX8_forecastNow_55 (G : rc_G) (post : Int → rc_M → Prop) (a0 : Nat) (a1 : Int)  (y0 : Int) (I : rc_M) : Prop :=
  wX8_comesBack G a0 I (fun I9 => post y0 I9)
set_option maxRecDepth 100000 in
set_option maxHeartbeats 4000000 in
theorem gX8_forecastNow_55 {p : Program} {l : Launch} {e : Env} {s : State} {m : MethodId} {below : List Frame} {meth : Method} {c : Code} {G : rc_G} {a0 : Nat} {a1 : Int} {I : rc_M} {post : Int → rc_M → Prop}  {y0 : Int} (X : rc_X p s m ([.ref a0, .int (rc_o a1)] : List Value).toArray meth c cX8_forecastNow 4 wsX8_forecastNow RX8 G (rc_A G)) (hr : meth.sig.returnType = some .int) (T0 : kX8 G a0)   (h : wX8_forecastNow_55 G post a0 a1  y0 I) : rc_g p l e rmX8_forecastNow s m ([.ref a0, .int (rc_o a1)] : List Value).toArray below meth c 0 0 (MQ below (rc_QI G post) ([.ref a0, .int (rc_o a1)] : List Value).toArray s 0 0 (rc_A G)) 4 G (rc_A G) 55 [(0, .ref a0)] [.int (rc_o y0)] I := by
  unfold wX8_forecastNow_55 at h
  refine rc_istore_n X [(3, .int (rc_o y0)), (0, .ref a0)] dX8_forecastNow_55 rfl (by decide) rfl ?_
  refine rc_aload_n X dX8_forecastNow_56 rfl 1 rfl ?_
  refine rc_cVV (rest := []) X (mX8_comesBack T0 h) gX8_forecastNow_X8_comesBack rfl ⟨rfl, rfl⟩ dyX8_comesBack ⟨Nat.le_of_ble_eq_true rfl, Nat.le_of_ble_eq_true rfl⟩ (rc_recv X T0.1 rfl) rfl rfl (Nat.le_of_ble_eq_true rfl) dX8_forecastNow_57 ⟨Nat.zero_le _, Nat.zero_le _⟩ (fun I9 h => ?_)
  refine rc_iload_n X dX8_forecastNow_60 rfl 0 rfl ?_
  exact rc_iret X hr dX8_forecastNow_61 h
def wX8_forecastNow (G : rc_G) (a0 : Nat) (a1 : Int) (I : rc_M) (post : Int → rc_M → Prop) : Prop :=
  wX8_keeps G a0 I (fun I1 => wX8_passes G a0 20000 I1 (fun r3 I2 => rc_R (I2 (a0 + 1) 163) ∧ ((¬ (I2 (a0 + 1) 163) = 0 → rc_R a1 ∧ ((¬ a1 = 0 → (0 ≤ (166 + a1) - 1 ∧ (166 + a1) - 1 < 199) ∧ (wX8_forecastNow_55 G post a0 a1  (I2 (a0 + 1) ((166 + a1) - 1)) I2)) ∧ (a1 = 0 → wX8_forecastNow_55 G post a0 a1  (I2 (a0 + 1) 164) I2))) ∧ ((I2 (a0 + 1) 163) = 0 → wX8_forecastNow_55 G post a0 a1  (-100005) I2))))
set_option maxRecDepth 100000 in
set_option maxHeartbeats 4000000 in
theorem gX8_forecastNow_0 {p : Program} {l : Launch} {e : Env} {s : State} {m : MethodId} {below : List Frame} {meth : Method} {c : Code} {G : rc_G} {a0 : Nat} {a1 : Int} {I : rc_M} {post : Int → rc_M → Prop}  (X : rc_X p s m ([.ref a0, .int (rc_o a1)] : List Value).toArray meth c cX8_forecastNow 4 wsX8_forecastNow RX8 G (rc_A G)) (hr : meth.sig.returnType = some .int) (T0 : kX8 G a0)  (h : wX8_forecastNow G a0 a1 I post) : rc_g p l e rmX8_forecastNow s m ([.ref a0, .int (rc_o a1)] : List Value).toArray below meth c 0 0 (MQ below (rc_QI G post) ([.ref a0, .int (rc_o a1)] : List Value).toArray s 0 0 (rc_A G)) 4 G (rc_A G) 0 [(0, .ref a0), (1, .int (rc_o a1))] [] I := by
  unfold wX8_forecastNow at h
  refine rc_aload_n X dX8_forecastNow_0 rfl 0 rfl ?_
  refine rc_cVV (rest := []) X (mX8_keeps T0 h) gX8_forecastNow_X8_keeps rfl ⟨rfl, rfl⟩ dyX8_keeps ⟨Nat.le_of_ble_eq_true rfl, Nat.le_of_ble_eq_true rfl⟩ (rc_recv X T0.1 rfl) rfl rfl (Nat.le_of_ble_eq_true rfl) dX8_forecastNow_1 ⟨Nat.zero_le _, Nat.zero_le _⟩ (fun I1 h => ?_)
  refine rc_aload_n X dX8_forecastNow_4 rfl 0 rfl ?_
  refine rc_sipush X dX8_forecastNow_5 (rc_b16 _ ⟨by decide, by decide⟩) ?_
  refine rc_cVI (rest := []) X (mX8_passes T0 h) gX8_forecastNow_X8_passes rfl ⟨rfl, rfl⟩ dyX8_passes ⟨Nat.le_of_ble_eq_true rfl, Nat.le_of_ble_eq_true rfl⟩ (rc_recv X T0.1 rfl) rfl rfl (Nat.le_of_ble_eq_true rfl) dX8_forecastNow_8 ⟨Nat.zero_le _, Nat.zero_le _⟩ (fun r3 I2 h => ?_)
  refine rc_istore_n X [(2, .int (rc_o r3)), (0, .ref a0), (1, .int (rc_o a1))] dX8_forecastNow_11 rfl (by decide) rfl ?_
  refine rc_aload_n X dX8_forecastNow_12 rfl 1 rfl ?_
  refine gfX8_v X T0.1 nX8_forecastNow_X8 qX8_forecastNow_1 dX8_forecastNow_13 ?_
  refine rc_sipush X dX8_forecastNow_16 (rc_b16 _ ⟨by decide, by decide⟩) ?_
  refine rc_iald X T0.2.1 (by decide) dX8_forecastNow_19 ⟨by decide, by decide⟩ ?_
  obtain ⟨c4, h⟩ := h
  refine rc_if_ne X 28 dX8_forecastNow_20 (by decide) c4 (fun c5 => ?_) (fun c5 => ?_)
  · have h := h.1 c5
    refine rc_iload_n X dX8_forecastNow_28 rfl 2 rfl ?_
    obtain ⟨c6, h⟩ := h
    refine rc_if_ne X 43 dX8_forecastNow_29 (by decide) c6 (fun c7 => ?_) (fun c7 => ?_)
    · have h := h.1 c7
      refine rc_aload_n X dX8_forecastNow_43 rfl 1 rfl ?_
      refine gfX8_v X T0.1 nX8_forecastNow_X8 qX8_forecastNow_1 dX8_forecastNow_44 ?_
      refine rc_sipush X dX8_forecastNow_47 (rc_b16 _ ⟨by decide, by decide⟩) ?_
      refine rc_iload_n X dX8_forecastNow_50 rfl 2 rfl ?_
      refine rc_iadd X dX8_forecastNow_51 ?_
      refine rc_iconst X dX8_forecastNow_52 ?_
      refine rc_isub X dX8_forecastNow_53 ?_
      obtain ⟨c8, h⟩ := h
      refine rc_iald X T0.2.1 (by decide) dX8_forecastNow_54 c8 ?_
      refine rc_subl [(0, .ref a0)] [1] rfl ?_
      exact gX8_forecastNow_55 X hr T0   h
    · have h := h.2 c7
      refine rc_aload_n X dX8_forecastNow_32 rfl 1 rfl ?_
      refine gfX8_v X T0.1 nX8_forecastNow_X8 qX8_forecastNow_1 dX8_forecastNow_33 ?_
      refine rc_sipush X dX8_forecastNow_36 (rc_b16 _ ⟨by decide, by decide⟩) ?_
      refine rc_iald X T0.2.1 (by decide) dX8_forecastNow_39 ⟨by decide, by decide⟩ ?_
      refine rc_goto X 55 dX8_forecastNow_40 (by decide) ?_
      refine rc_subl [(0, .ref a0)] [1] rfl ?_
      exact gX8_forecastNow_55 X hr T0   h
  · have h := h.2 c5
    refine rc_ldc (n := (-100005)) X qX8_forecastNow_2 (by decide +kernel) dX8_forecastNow_23 ?_
    refine rc_goto X 55 dX8_forecastNow_25 (by decide) ?_
    refine rc_subl [(0, .ref a0)] [1] rfl ?_
    exact gX8_forecastNow_55 X hr T0   h
theorem mX8_forecastNow {l : Launch} {G : rc_G} {a0 : Nat} {a1 : Int} {I : rc_M} {post : Int → rc_M → Prop} (T0 : kX8 G a0) (h : wX8_forecastNow G a0 a1 I post) : rc_CI l yX8_forecastNow wsX8_forecastNow rmX8_forecastNow G [.ref a0, .int (rc_o a1)] I post :=
  rc_body (by decide +kernel) rfl rfl (Nat.le_of_ble_eq_true rfl) rfl (fun p e s m below meth c X hr => gX8_forecastNow_0 X hr T0 h)
/-! X8_forecast -/
abbrev rmX8_forecast : Room := { frames := 8, cells := 0, slots := 0, locals := 177 }
theorem dyX8_forecast : yX8_forecast.cls = RX8 ∧ yX8_forecast.cls ≠ "java/lang/invoke/MethodHandle" ∧ yX8_forecast.cls ≠ "java/lang/invoke/VarHandle" ∧ (parseMethodDescriptor yX8_forecast.desc).map (fun d => d.parameters.length) = some 1 := ⟨rfl, by decide +kernel, by decide +kernel, by decide +kernel⟩
theorem qX8_forecast_2 : Cond.constant RX8 103 (-100003) ∈ wsX8_forecast := List.mem_of_getElem? (i := 2) (by decide +kernel)
theorem qX8_forecast_1 : Cond.constant RX8 64 (-100001) ∈ wsX8_forecast := List.mem_of_getElem? (i := 1) (by decide +kernel)
def wX8_forecast (G : rc_G) (a0 : Nat) (a1 : Int) (I : rc_M) (post : Int → rc_M → Prop) : Prop :=
  wX8_in G a1 0 4 I (fun r2 I1 => rc_R r2 ∧ ((¬ r2 = 0 → wX8_isRunning G a0 I1 (fun r6 I5 => rc_R r6 ∧ ((r6 = 0 → post (-100003) I5) ∧ (¬ r6 = 0 → wX8_forecastNow G a0 a1 I5 (fun r10 I9 => post r10 I9))))) ∧ (r2 = 0 → post (-100001) I1)))
set_option maxRecDepth 100000 in
set_option maxHeartbeats 4000000 in
theorem gX8_forecast_0 {p : Program} {l : Launch} {e : Env} {s : State} {m : MethodId} {below : List Frame} {meth : Method} {c : Code} {G : rc_G} {a0 : Nat} {a1 : Int} {I : rc_M} {post : Int → rc_M → Prop}  (X : rc_X p s m ([.ref a0, .int (rc_o a1)] : List Value).toArray meth c cX8_forecast 2 wsX8_forecast RX8 G (rc_A G)) (hr : meth.sig.returnType = some .int) (T0 : kX8 G a0)  (h : wX8_forecast G a0 a1 I post) : rc_g p l e rmX8_forecast s m ([.ref a0, .int (rc_o a1)] : List Value).toArray below meth c 0 0 (MQ below (rc_QI G post) ([.ref a0, .int (rc_o a1)] : List Value).toArray s 0 0 (rc_A G)) 2 G (rc_A G) 0 [(0, .ref a0), (1, .int (rc_o a1))] [] I := by
  unfold wX8_forecast at h
  refine rc_iload_n X dX8_forecast_0 rfl 1 rfl ?_
  refine rc_iconst X dX8_forecast_1 ?_
  refine rc_iconst X dX8_forecast_2 ?_
  refine rc_cSI (rest := []) X (mX8_in  h) gX8_forecast_X8_in rfl ⟨rfl, rfl⟩ dyX8_in ⟨Nat.le_of_ble_eq_true rfl, Nat.le_of_ble_eq_true rfl⟩ rfl rfl (Nat.le_of_ble_eq_true rfl) dX8_forecast_3 ⟨Nat.zero_le _, Nat.zero_le _⟩ (fun r2 I1 h => ?_)
  obtain ⟨c3, h⟩ := h
  refine rc_if_ne X 12 dX8_forecast_6 (by decide) c3 (fun c4 => ?_) (fun c4 => ?_)
  · have h := h.1 c4
    refine rc_aload_n X dX8_forecast_12 rfl 0 rfl ?_
    refine rc_cVI (rest := []) X (mX8_isRunning T0 h) gX8_forecast_X8_isRunning rfl ⟨rfl, rfl⟩ dyX8_isRunning ⟨Nat.le_of_ble_eq_true rfl, Nat.le_of_ble_eq_true rfl⟩ (rc_recv X T0.1 rfl) rfl rfl (Nat.le_of_ble_eq_true rfl) dX8_forecast_13 ⟨Nat.zero_le _, Nat.zero_le _⟩ (fun r6 I5 h => ?_)
    obtain ⟨c7, h⟩ := h
    refine rc_if_eq X 27 dX8_forecast_16 (by decide) c7 (fun c8 => ?_) (fun c8 => ?_)
    · have h := h.1 c8
      refine rc_ldc (n := (-100003)) X qX8_forecast_2 (by decide +kernel) dX8_forecast_27 ?_
      exact rc_iret X hr dX8_forecast_29 h
    · have h := h.2 c8
      refine rc_aload_n X dX8_forecast_19 rfl 0 rfl ?_
      refine rc_iload_n X dX8_forecast_20 rfl 1 rfl ?_
      refine rc_cVI (rest := []) X (mX8_forecastNow T0 h) gX8_forecast_X8_forecastNow rfl ⟨rfl, rfl⟩ dyX8_forecastNow ⟨Nat.le_of_ble_eq_true rfl, Nat.le_of_ble_eq_true rfl⟩ (rc_recv X T0.1 rfl) rfl rfl (Nat.le_of_ble_eq_true rfl) dX8_forecast_21 ⟨Nat.zero_le _, Nat.zero_le _⟩ (fun r10 I9 h => ?_)
      refine rc_goto X 29 dX8_forecast_24 (by decide) ?_
      exact rc_iret X hr dX8_forecast_29 h
  · have h := h.2 c4
    refine rc_ldc (n := (-100001)) X qX8_forecast_1 (by decide +kernel) dX8_forecast_9 ?_
    exact rc_iret X hr dX8_forecast_11 h
theorem mX8_forecast {l : Launch} {G : rc_G} {a0 : Nat} {a1 : Int} {I : rc_M} {post : Int → rc_M → Prop} (T0 : kX8 G a0) (h : wX8_forecast G a0 a1 I post) : rc_CI l yX8_forecast wsX8_forecast rmX8_forecast G [.ref a0, .int (rc_o a1)] I post :=
  rc_body (by decide +kernel) rfl rfl (Nat.le_of_ble_eq_true rfl) rfl (fun p e s m below meth c X hr => gX8_forecast_0 X hr T0 h)
/-! X8_darkWith -/
abbrev rmX8_darkWith : Room := { frames := 7, cells := 0, slots := 0, locals := 154 }
theorem dyX8_darkWith : yX8_darkWith.cls = RX8 ∧ yX8_darkWith.cls ≠ "java/lang/invoke/MethodHandle" ∧ yX8_darkWith.cls ≠ "java/lang/invoke/VarHandle" ∧ (parseMethodDescriptor yX8_darkWith.desc).map (fun d => d.parameters.length) = some 2 := ⟨rfl, by decide +kernel, by decide +kernel, by decide +kernel⟩
theorem qX8_darkWith_2 : Cond.fieldLink RX8 23 "ReelChangerModel" "lows" "[I" ∈ wsX8_darkWith := List.mem_of_getElem? (i := 2) (by decide +kernel)
theorem nX8_darkWith_X8 : ∀ w ∈ wsX80, w ∈ wsX8_darkWith := fun w h => List.mem_cons_of_mem _ (List.mem_append_right _ (h))
theorem qX8_darkWith_3 : Cond.fieldLink RX8 26 "ReelChangerModel" "highs" "[I" ∈ wsX8_darkWith := List.mem_of_getElem? (i := 3) (by decide +kernel)
theorem qX8_darkWith_5 : Cond.fieldLink RX8 7 "ReelChangerModel" "v" "[I" ∈ wsX8_darkWith := List.mem_of_getElem? (i := 5) (by decide +kernel)
theorem qX8_darkWith_7 : Cond.constant RX8 68 (-100005) ∈ wsX8_darkWith := List.mem_of_getElem? (i := 7) (by decide +kernel)
theorem qX8_darkWith_6 : Cond.constant RX8 103 (-100003) ∈ wsX8_darkWith := List.mem_of_getElem? (i := 6) (by decide +kernel)
theorem qX8_darkWith_4 : Cond.constant RX8 51 (-100002) ∈ wsX8_darkWith := List.mem_of_getElem? (i := 4) (by decide +kernel)
theorem qX8_darkWith_1 : Cond.constant RX8 64 (-100001) ∈ wsX8_darkWith := List.mem_of_getElem? (i := 1) (by decide +kernel)
def wX8_darkWith_100 (G : rc_G) (post : Int → rc_M → Prop) (a0 : Nat) (a1 : Int) (a2 : Int)  (y0 : Int) (I : rc_M) : Prop :=
  wX8_comesBack G a0 I (fun I21 => post y0 I21)
set_option maxRecDepth 100000 in
set_option maxHeartbeats 4000000 in
theorem gX8_darkWith_100 {p : Program} {l : Launch} {e : Env} {s : State} {m : MethodId} {below : List Frame} {meth : Method} {c : Code} {G : rc_G} {a0 : Nat} {a1 : Int} {a2 : Int} {I : rc_M} {post : Int → rc_M → Prop}  {y0 : Int} (X : rc_X p s m ([.ref a0, .int (rc_o a1), .int (rc_o a2)] : List Value).toArray meth c cX8_darkWith 5 wsX8_darkWith RX8 G (rc_A G)) (hr : meth.sig.returnType = some .int) (T0 : kX8 G a0)   (h : wX8_darkWith_100 G post a0 a1 a2  y0 I) : rc_g p l e rmX8_darkWith s m ([.ref a0, .int (rc_o a1), .int (rc_o a2)] : List Value).toArray below meth c 0 0 (MQ below (rc_QI G post) ([.ref a0, .int (rc_o a1), .int (rc_o a2)] : List Value).toArray s 0 0 (rc_A G)) 5 G (rc_A G) 100 [(0, .ref a0)] [.int (rc_o y0)] I := by
  unfold wX8_darkWith_100 at h
  refine rc_istore X [(4, .int (rc_o y0)), (0, .ref a0)] dX8_darkWith_100 (by decide) rfl ?_
  refine rc_aload_n X dX8_darkWith_102 rfl 1 rfl ?_
  refine rc_cVV (rest := []) X (mX8_comesBack T0 h) gX8_darkWith_X8_comesBack rfl ⟨rfl, rfl⟩ dyX8_comesBack ⟨Nat.le_of_ble_eq_true rfl, Nat.le_of_ble_eq_true rfl⟩ (rc_recv X T0.1 rfl) rfl rfl (Nat.le_of_ble_eq_true rfl) dX8_darkWith_103 ⟨Nat.zero_le _, Nat.zero_le _⟩ (fun I21 h => ?_)
  refine rc_iload X dX8_darkWith_106 0 rfl ?_
  exact rc_iret X hr dX8_darkWith_108 h
def wX8_darkWith (G : rc_G) (a0 : Nat) (a1 : Int) (a2 : Int) (I : rc_M) (post : Int → rc_M → Prop) : Prop :=
  wX8_in G a1 0 7 I (fun r2 I1 => rc_R r2 ∧ ((¬ r2 = 0 → (0 ≤ a1 ∧ a1 < 8) ∧ ((0 ≤ a1 ∧ a1 < 8) ∧ (wX8_in G a2 (I1 (a0 + 5) a1) (I1 (a0 + 6) a1) I1 (fun r8 I7 => rc_R r8 ∧ ((¬ r8 = 0 → rc_R (I7 (a0 + 1) 149) ∧ ((¬ (I7 (a0 + 1) 149) = 0 → wX8_keeps G a0 I7 (fun I13 => (0 ≤ 141 + a1 ∧ 141 + a1 < 199) ∧ (∀ I15, I15 = rc_s I13 (a0 + 1) (141 + a1) a2 → wX8_opens G a0 I15 (fun I16 => wX8_passes G a0 20000 I16 (fun r18 I17 => rc_R (I17 (a0 + 1) 163) ∧ ((¬ (I17 (a0 + 1) 163) = 0 → wX8_darkWith_100 G post a0 a1 a2  (I17 (a0 + 1) 166) I17) ∧ ((I17 (a0 + 1) 163) = 0 → wX8_darkWith_100 G post a0 a1 a2  (-100005) I17))))))) ∧ ((I7 (a0 + 1) 149) = 0 → post (-100003) I7))) ∧ (r8 = 0 → post (-100002) I7)))))) ∧ (r2 = 0 → post (-100001) I1)))
set_option maxRecDepth 100000 in
set_option maxHeartbeats 4000000 in
theorem gX8_darkWith_0 {p : Program} {l : Launch} {e : Env} {s : State} {m : MethodId} {below : List Frame} {meth : Method} {c : Code} {G : rc_G} {a0 : Nat} {a1 : Int} {a2 : Int} {I : rc_M} {post : Int → rc_M → Prop}  (X : rc_X p s m ([.ref a0, .int (rc_o a1), .int (rc_o a2)] : List Value).toArray meth c cX8_darkWith 5 wsX8_darkWith RX8 G (rc_A G)) (hr : meth.sig.returnType = some .int) (T0 : kX8 G a0)  (h : wX8_darkWith G a0 a1 a2 I post) : rc_g p l e rmX8_darkWith s m ([.ref a0, .int (rc_o a1), .int (rc_o a2)] : List Value).toArray below meth c 0 0 (MQ below (rc_QI G post) ([.ref a0, .int (rc_o a1), .int (rc_o a2)] : List Value).toArray s 0 0 (rc_A G)) 5 G (rc_A G) 0 [(0, .ref a0), (1, .int (rc_o a1)), (2, .int (rc_o a2))] [] I := by
  unfold wX8_darkWith at h
  refine rc_iload_n X dX8_darkWith_0 rfl 1 rfl ?_
  refine rc_iconst X dX8_darkWith_1 ?_
  refine rc_bipush X dX8_darkWith_2 (rc_b8 _ ⟨by decide, by decide⟩) ?_
  refine rc_cSI (rest := []) X (mX8_in  h) gX8_darkWith_X8_in rfl ⟨rfl, rfl⟩ dyX8_in ⟨Nat.le_of_ble_eq_true rfl, Nat.le_of_ble_eq_true rfl⟩ rfl rfl (Nat.le_of_ble_eq_true rfl) dX8_darkWith_4 ⟨Nat.zero_le _, Nat.zero_le _⟩ (fun r2 I1 h => ?_)
  obtain ⟨c3, h⟩ := h
  refine rc_if_ne X 13 dX8_darkWith_7 (by decide) c3 (fun c4 => ?_) (fun c4 => ?_)
  · have h := h.1 c4
    refine rc_iload_n X dX8_darkWith_13 rfl 2 rfl ?_
    refine rc_aload_n X dX8_darkWith_14 rfl 0 rfl ?_
    refine gfX8_lows X T0.1 nX8_darkWith_X8 qX8_darkWith_2 dX8_darkWith_15 ?_
    refine rc_iload_n X dX8_darkWith_18 rfl 1 rfl ?_
    obtain ⟨c5, h⟩ := h
    refine rc_iald X T0.2.2.2.2.2.1 (by decide) dX8_darkWith_19 c5 ?_
    refine rc_aload_n X dX8_darkWith_20 rfl 0 rfl ?_
    refine gfX8_highs X T0.1 nX8_darkWith_X8 qX8_darkWith_3 dX8_darkWith_21 ?_
    refine rc_iload_n X dX8_darkWith_24 rfl 1 rfl ?_
    obtain ⟨c6, h⟩ := h
    refine rc_iald X T0.2.2.2.2.2.2.1 (by decide) dX8_darkWith_25 c6 ?_
    refine rc_cSI (rest := []) X (mX8_in  h) gX8_darkWith_X8_in rfl ⟨rfl, rfl⟩ dyX8_in ⟨Nat.le_of_ble_eq_true rfl, Nat.le_of_ble_eq_true rfl⟩ rfl rfl (Nat.le_of_ble_eq_true rfl) dX8_darkWith_26 ⟨Nat.zero_le _, Nat.zero_le _⟩ (fun r8 I7 h => ?_)
    obtain ⟨c9, h⟩ := h
    refine rc_if_ne X 35 dX8_darkWith_29 (by decide) c9 (fun c10 => ?_) (fun c10 => ?_)
    · have h := h.1 c10
      refine rc_aload_n X dX8_darkWith_35 rfl 0 rfl ?_
      refine gfX8_v X T0.1 nX8_darkWith_X8 qX8_darkWith_5 dX8_darkWith_36 ?_
      refine rc_sipush X dX8_darkWith_39 (rc_b16 _ ⟨by decide, by decide⟩) ?_
      refine rc_iald X T0.2.1 (by decide) dX8_darkWith_42 ⟨by decide, by decide⟩ ?_
      obtain ⟨c11, h⟩ := h
      refine rc_if_ne X 49 dX8_darkWith_43 (by decide) c11 (fun c12 => ?_) (fun c12 => ?_)
      · have h := h.1 c12
        refine rc_aload_n X dX8_darkWith_49 rfl 0 rfl ?_
        refine rc_cVV (rest := []) X (mX8_keeps T0 h) gX8_darkWith_X8_keeps rfl ⟨rfl, rfl⟩ dyX8_keeps ⟨Nat.le_of_ble_eq_true rfl, Nat.le_of_ble_eq_true rfl⟩ (rc_recv X T0.1 rfl) rfl rfl (Nat.le_of_ble_eq_true rfl) dX8_darkWith_50 ⟨Nat.zero_le _, Nat.zero_le _⟩ (fun I13 h => ?_)
        refine rc_aload_n X dX8_darkWith_53 rfl 0 rfl ?_
        refine gfX8_v X T0.1 nX8_darkWith_X8 qX8_darkWith_5 dX8_darkWith_54 ?_
        refine rc_sipush X dX8_darkWith_57 (rc_b16 _ ⟨by decide, by decide⟩) ?_
        refine rc_iload_n X dX8_darkWith_60 rfl 1 rfl ?_
        refine rc_iadd X dX8_darkWith_61 ?_
        refine rc_iload_n X dX8_darkWith_62 rfl 2 rfl ?_
        obtain ⟨c14, h⟩ := h
        refine rc_iast X T0.2.1 (by decide) dX8_darkWith_63 c14 (fun I15 e15 => ?_)
        have h := h I15 e15
        refine rc_aload_n X dX8_darkWith_64 rfl 0 rfl ?_
        refine rc_cVV (rest := []) X (mX8_opens T0 h) gX8_darkWith_X8_opens rfl ⟨rfl, rfl⟩ dyX8_opens ⟨Nat.le_of_ble_eq_true rfl, Nat.le_of_ble_eq_true rfl⟩ (rc_recv X T0.1 rfl) rfl rfl (Nat.le_of_ble_eq_true rfl) dX8_darkWith_65 ⟨Nat.zero_le _, Nat.zero_le _⟩ (fun I16 h => ?_)
        refine rc_aload_n X dX8_darkWith_68 rfl 0 rfl ?_
        refine rc_sipush X dX8_darkWith_69 (rc_b16 _ ⟨by decide, by decide⟩) ?_
        refine rc_cVI (rest := []) X (mX8_passes T0 h) gX8_darkWith_X8_passes rfl ⟨rfl, rfl⟩ dyX8_passes ⟨Nat.le_of_ble_eq_true rfl, Nat.le_of_ble_eq_true rfl⟩ (rc_recv X T0.1 rfl) rfl rfl (Nat.le_of_ble_eq_true rfl) dX8_darkWith_72 ⟨Nat.zero_le _, Nat.zero_le _⟩ (fun r18 I17 h => ?_)
        refine rc_istore_n X [(3, .int (rc_o r18)), (0, .ref a0), (1, .int (rc_o a1)), (2, .int (rc_o a2))] dX8_darkWith_75 rfl (by decide) rfl ?_
        refine rc_aload_n X dX8_darkWith_76 rfl 1 rfl ?_
        refine gfX8_v X T0.1 nX8_darkWith_X8 qX8_darkWith_5 dX8_darkWith_77 ?_
        refine rc_sipush X dX8_darkWith_80 (rc_b16 _ ⟨by decide, by decide⟩) ?_
        refine rc_iald X T0.2.1 (by decide) dX8_darkWith_83 ⟨by decide, by decide⟩ ?_
        obtain ⟨c19, h⟩ := h
        refine rc_if_ne X 92 dX8_darkWith_84 (by decide) c19 (fun c20 => ?_) (fun c20 => ?_)
        · have h := h.1 c20
          refine rc_aload_n X dX8_darkWith_92 rfl 1 rfl ?_
          refine gfX8_v X T0.1 nX8_darkWith_X8 qX8_darkWith_5 dX8_darkWith_93 ?_
          refine rc_sipush X dX8_darkWith_96 (rc_b16 _ ⟨by decide, by decide⟩) ?_
          refine rc_iald X T0.2.1 (by decide) dX8_darkWith_99 ⟨by decide, by decide⟩ ?_
          refine rc_subl [(0, .ref a0)] [1] rfl ?_
          exact gX8_darkWith_100 X hr T0   h
        · have h := h.2 c20
          refine rc_ldc (n := (-100005)) X qX8_darkWith_7 (by decide +kernel) dX8_darkWith_87 ?_
          refine rc_goto X 100 dX8_darkWith_89 (by decide) ?_
          refine rc_subl [(0, .ref a0)] [1] rfl ?_
          exact gX8_darkWith_100 X hr T0   h
      · have h := h.2 c12
        refine rc_ldc (n := (-100003)) X qX8_darkWith_6 (by decide +kernel) dX8_darkWith_46 ?_
        exact rc_iret X hr dX8_darkWith_48 h
    · have h := h.2 c10
      refine rc_ldc (n := (-100002)) X qX8_darkWith_4 (by decide +kernel) dX8_darkWith_32 ?_
      exact rc_iret X hr dX8_darkWith_34 h
  · have h := h.2 c4
    refine rc_ldc (n := (-100001)) X qX8_darkWith_1 (by decide +kernel) dX8_darkWith_10 ?_
    exact rc_iret X hr dX8_darkWith_12 h
theorem mX8_darkWith {l : Launch} {G : rc_G} {a0 : Nat} {a1 : Int} {a2 : Int} {I : rc_M} {post : Int → rc_M → Prop} (T0 : kX8 G a0) (h : wX8_darkWith G a0 a1 a2 I post) : rc_CI l yX8_darkWith wsX8_darkWith rmX8_darkWith G [.ref a0, .int (rc_o a1), .int (rc_o a2)] I post :=
  rc_body (by decide +kernel) rfl rfl (Nat.le_of_ble_eq_true rfl) rfl (fun p e s m below meth c X hr => gX8_darkWith_0 X hr T0 h)
/-! X8_save -/
abbrev rmX8_save : Room := { frames := 1, cells := 0, slots := 0, locals := 22 }
theorem dyX8_save : yX8_save.cls = RX8 ∧ yX8_save.cls ≠ "java/lang/invoke/MethodHandle" ∧ yX8_save.cls ≠ "java/lang/invoke/VarHandle" ∧ (parseMethodDescriptor yX8_save.desc).map (fun d => d.parameters.length) = some 1 := ⟨rfl, by decide +kernel, by decide +kernel, by decide +kernel⟩
theorem qX8_save_4 : Cond.fieldLink RX8 19 "ReelChangerModel" "isKept" "[Z" ∈ wsX8_save := List.mem_of_getElem? (i := 4) (by decide +kernel)
theorem nX8_save_X8 : ∀ w ∈ wsX80, w ∈ wsX8_save := fun w h => List.mem_cons_of_mem _ (List.mem_append_right _ (h))
theorem qX8_save_3 : Cond.fieldLink RX8 7 "ReelChangerModel" "v" "[I" ∈ wsX8_save := List.mem_of_getElem? (i := 3) (by decide +kernel)
theorem qX8_save_2 : Cond.fieldLink RX8 16 "ReelChangerModel" "kept" "[I" ∈ wsX8_save := List.mem_of_getElem? (i := 2) (by decide +kernel)
theorem qX8_save_1 : Cond.constant RX8 64 (-100001) ∈ wsX8_save := List.mem_of_getElem? (i := 1) (by decide +kernel)
def wX8_save_14 (G : rc_G) (post : Int → rc_M → Prop) (a0 : Nat) (a1 : Int) (k14 : Int → rc_M → Prop) (x2 : Int) (I : rc_M) : Prop :=
  rc_R x2 ∧ ((199 ≤ x2 → (0 ≤ a1 ∧ a1 < 2) ∧ (∀ I8, I8 = rc_s I (a0 + 4) a1 1 → post (I8 (a0 + 1) 0) I8)) ∧ (¬ 199 ≤ x2 → (0 ≤ x2 ∧ x2 < 199) ∧ ((0 ≤ (199 * a1) + x2 ∧ (199 * a1) + x2 < 398) ∧ (∀ I11, I11 = rc_s I (a0 + 3) ((199 * a1) + x2) (I (a0 + 1) x2) → k14 (x2 + 1) I11))))
set_option maxRecDepth 100000 in
set_option maxHeartbeats 4000000 in
theorem gX8_save_14 {p : Program} {l : Launch} {e : Env} {s : State} {m : MethodId} {below : List Frame} {meth : Method} {c : Code} {G : rc_G} {a0 : Nat} {a1 : Int} {I : rc_M} {post : Int → rc_M → Prop} {k14 : Int → rc_M → Prop} {x2 : Int} (X : rc_X p s m ([.ref a0, .int (rc_o a1)] : List Value).toArray meth c cX8_save 3 wsX8_save RX8 G (rc_A G)) (hr : meth.sig.returnType = some .int) (T0 : kX8 G a0) (hk14 : ∀ (x2 : Int) (J : rc_M), k14 x2 J → rc_g p l e rmX8_save s m ([.ref a0, .int (rc_o a1)] : List Value).toArray below meth c 0 0 (MQ below (rc_QI G post) ([.ref a0, .int (rc_o a1)] : List Value).toArray s 0 0 (rc_A G)) 3 G (rc_A G) 14 [(0, .ref a0), (1, .int (rc_o a1)), (2, .int (rc_o x2))] [] J)  (h : wX8_save_14 G post a0 a1 k14 x2 I) : rc_g p l e rmX8_save s m ([.ref a0, .int (rc_o a1)] : List Value).toArray below meth c 0 0 (MQ below (rc_QI G post) ([.ref a0, .int (rc_o a1)] : List Value).toArray s 0 0 (rc_A G)) 3 G (rc_A G) 14 [(0, .ref a0), (1, .int (rc_o a1)), (2, .int (rc_o x2))] [] I := by
  unfold wX8_save_14 at h
  refine rc_iload_n X dX8_save_14 rfl 2 rfl ?_
  refine rc_sipush X dX8_save_15 (rc_b16 _ ⟨by decide, by decide⟩) ?_
  obtain ⟨c5, h⟩ := h
  refine rc_ic_ge X 45 dX8_save_18 (by decide) c5 ⟨by decide, by decide⟩ (fun c6 => ?_) (fun c6 => ?_)
  · have h := h.1 c6
    refine rc_aload_n X dX8_save_45 rfl 0 rfl ?_
    refine gfX8_isKept X T0.1 nX8_save_X8 qX8_save_4 dX8_save_46 ?_
    refine rc_iload_n X dX8_save_49 rfl 1 rfl ?_
    refine rc_iconst X dX8_save_50 ?_
    obtain ⟨c7, h⟩ := h
    refine rc_zast X T0.2.2.2.2.1 (by decide) dX8_save_51 c7 (Or.inr rfl) (fun I8 e8 => ?_)
    have h := h I8 e8
    refine rc_aload_n X dX8_save_52 rfl 0 rfl ?_
    refine gfX8_v X T0.1 nX8_save_X8 qX8_save_3 dX8_save_53 ?_
    refine rc_iconst X dX8_save_56 ?_
    refine rc_iald X T0.2.1 (by decide) dX8_save_57 ⟨by decide, by decide⟩ ?_
    exact rc_iret X hr dX8_save_58 h
  · have h := h.2 c6
    refine rc_aload_n X dX8_save_21 rfl 0 rfl ?_
    refine gfX8_kept X T0.1 nX8_save_X8 qX8_save_2 dX8_save_22 ?_
    refine rc_sipush X dX8_save_25 (rc_b16 _ ⟨by decide, by decide⟩) ?_
    refine rc_iload_n X dX8_save_28 rfl 1 rfl ?_
    refine rc_imul X dX8_save_29 ?_
    refine rc_iload_n X dX8_save_30 rfl 2 rfl ?_
    refine rc_iadd X dX8_save_31 ?_
    refine rc_aload_n X dX8_save_32 rfl 0 rfl ?_
    refine gfX8_v X T0.1 nX8_save_X8 qX8_save_3 dX8_save_33 ?_
    refine rc_iload_n X dX8_save_36 rfl 2 rfl ?_
    obtain ⟨c9, h⟩ := h
    refine rc_iald X T0.2.1 (by decide) dX8_save_37 c9 ?_
    obtain ⟨c10, h⟩ := h
    refine rc_iast X T0.2.2.2.1 (by decide) dX8_save_38 c10 (fun I11 e11 => ?_)
    have h := h I11 e11
    refine rc_iinc X [(2, .int (rc_o (x2 + 1))), (0, .ref a0), (1, .int (rc_o a1))] dX8_save_39 2 rfl (by decide) rfl ?_
    refine rc_goto X 14 dX8_save_42 (by decide) ?_
    refine rc_subl [(0, .ref a0), (1, .int (rc_o a1)), (2, .int (rc_o (x2 + 1)))] [1, 2, 0] rfl ?_
    exact hk14 _ _ h
noncomputable def rX8_save_14 (G : rc_G) (post : Int → rc_M → Prop) (a0 : Nat) (a1 : Int)  (n : Nat) : Int → rc_M → Prop :=
  Nat.rec (motive := fun _ => Int → rc_M → Prop) (fun _ _ => False) (fun _ ih => wX8_save_14 G post a0 a1  ih) n
set_option maxRecDepth 100000 in
set_option maxHeartbeats 4000000 in
theorem sX8_save_14 {p : Program} {l : Launch} {e : Env} {s : State} {m : MethodId} {below : List Frame} {meth : Method} {c : Code} {G : rc_G} {a0 : Nat} {a1 : Int} {I : rc_M} {post : Int → rc_M → Prop}  {n : Nat} {x2 : Int} (X : rc_X p s m ([.ref a0, .int (rc_o a1)] : List Value).toArray meth c cX8_save 3 wsX8_save RX8 G (rc_A G)) (hr : meth.sig.returnType = some .int) (T0 : kX8 G a0)  (h : rX8_save_14 G post a0 a1  n x2 I) : rc_g p l e rmX8_save s m ([.ref a0, .int (rc_o a1)] : List Value).toArray below meth c 0 0 (MQ below (rc_QI G post) ([.ref a0, .int (rc_o a1)] : List Value).toArray s 0 0 (rc_A G)) 3 G (rc_A G) 14 [(0, .ref a0), (1, .int (rc_o a1)), (2, .int (rc_o x2))] [] I := by
  induction n generalizing x2 I with
  | zero => exact h.elim
  | succ n ih => exact gX8_save_14 (k14 := rX8_save_14 G post a0 a1  n) X hr T0  (fun x2 J h2 => ih h2) h
def wX8_save (G : rc_G) (a0 : Nat) (a1 : Int) (I : rc_M) (post : Int → rc_M → Prop) : Prop :=
  wX8_in G a1 0 1 I (fun r2 I1 => rc_R r2 ∧ ((¬ r2 = 0 → ∃ n, rX8_save_14 G post a0 a1  n 0 I1) ∧ (r2 = 0 → post (-100001) I1)))
set_option maxRecDepth 100000 in
set_option maxHeartbeats 4000000 in
theorem gX8_save_0 {p : Program} {l : Launch} {e : Env} {s : State} {m : MethodId} {below : List Frame} {meth : Method} {c : Code} {G : rc_G} {a0 : Nat} {a1 : Int} {I : rc_M} {post : Int → rc_M → Prop}  (X : rc_X p s m ([.ref a0, .int (rc_o a1)] : List Value).toArray meth c cX8_save 3 wsX8_save RX8 G (rc_A G)) (hr : meth.sig.returnType = some .int) (T0 : kX8 G a0)  (h : wX8_save G a0 a1 I post) : rc_g p l e rmX8_save s m ([.ref a0, .int (rc_o a1)] : List Value).toArray below meth c 0 0 (MQ below (rc_QI G post) ([.ref a0, .int (rc_o a1)] : List Value).toArray s 0 0 (rc_A G)) 3 G (rc_A G) 0 [(0, .ref a0), (1, .int (rc_o a1))] [] I := by
  unfold wX8_save at h
  refine rc_iload_n X dX8_save_0 rfl 1 rfl ?_
  refine rc_iconst X dX8_save_1 ?_
  refine rc_iconst X dX8_save_2 ?_
  refine rc_cSI (rest := []) X (mX8_in  h) gX8_save_X8_in rfl ⟨rfl, rfl⟩ dyX8_in ⟨Nat.le_of_ble_eq_true rfl, Nat.le_of_ble_eq_true rfl⟩ rfl rfl (Nat.le_of_ble_eq_true rfl) dX8_save_3 ⟨Nat.zero_le _, Nat.zero_le _⟩ (fun r2 I1 h => ?_)
  obtain ⟨c3, h⟩ := h
  refine rc_if_ne X 12 dX8_save_6 (by decide) c3 (fun c4 => ?_) (fun c4 => ?_)
  · have h := h.1 c4
    refine rc_iconst X dX8_save_12 ?_
    refine rc_istore_n X [(2, .int (rc_o 0)), (0, .ref a0), (1, .int (rc_o a1))] dX8_save_13 rfl (by decide) rfl ?_
    refine rc_subl [(0, .ref a0), (1, .int (rc_o a1)), (2, .int (rc_o 0))] [1, 2, 0] rfl ?_
    obtain ⟨n, h⟩ := h
    exact sX8_save_14 X hr T0  h
  · have h := h.2 c4
    refine rc_ldc (n := (-100001)) X qX8_save_1 (by decide +kernel) dX8_save_9 ?_
    exact rc_iret X hr dX8_save_11 h
theorem mX8_save {l : Launch} {G : rc_G} {a0 : Nat} {a1 : Int} {I : rc_M} {post : Int → rc_M → Prop} (T0 : kX8 G a0) (h : wX8_save G a0 a1 I post) : rc_CI l yX8_save wsX8_save rmX8_save G [.ref a0, .int (rc_o a1)] I post :=
  rc_body (by decide +kernel) rfl rfl (Nat.le_of_ble_eq_true rfl) rfl (fun p e s m below meth c X hr => gX8_save_0 X hr T0 h)
/-! X8_restore -/
abbrev rmX8_restore : Room := { frames := 1, cells := 0, slots := 0, locals := 22 }
theorem dyX8_restore : yX8_restore.cls = RX8 ∧ yX8_restore.cls ≠ "java/lang/invoke/MethodHandle" ∧ yX8_restore.cls ≠ "java/lang/invoke/VarHandle" ∧ (parseMethodDescriptor yX8_restore.desc).map (fun d => d.parameters.length) = some 1 := ⟨rfl, by decide +kernel, by decide +kernel, by decide +kernel⟩
theorem qX8_restore_2 : Cond.fieldLink RX8 19 "ReelChangerModel" "isKept" "[Z" ∈ wsX8_restore := List.mem_of_getElem? (i := 2) (by decide +kernel)
theorem nX8_restore_X8 : ∀ w ∈ wsX80, w ∈ wsX8_restore := fun w h => List.mem_cons_of_mem _ (List.mem_append_right _ (h))
theorem qX8_restore_4 : Cond.fieldLink RX8 7 "ReelChangerModel" "v" "[I" ∈ wsX8_restore := List.mem_of_getElem? (i := 4) (by decide +kernel)
theorem qX8_restore_5 : Cond.fieldLink RX8 16 "ReelChangerModel" "kept" "[I" ∈ wsX8_restore := List.mem_of_getElem? (i := 5) (by decide +kernel)
theorem qX8_restore_3 : Cond.constant RX8 103 (-100003) ∈ wsX8_restore := List.mem_of_getElem? (i := 3) (by decide +kernel)
theorem qX8_restore_1 : Cond.constant RX8 64 (-100001) ∈ wsX8_restore := List.mem_of_getElem? (i := 1) (by decide +kernel)
def wX8_restore_26 (G : rc_G) (post : Int → rc_M → Prop) (a0 : Nat) (a1 : Int) (k26 : Int → rc_M → Prop) (x2 : Int) (I : rc_M) : Prop :=
  rc_R x2 ∧ ((199 ≤ x2 → post (I (a0 + 1) 0) I) ∧ (¬ 199 ≤ x2 → (0 ≤ (199 * a1) + x2 ∧ (199 * a1) + x2 < 398) ∧ ((0 ≤ x2 ∧ x2 < 199) ∧ (∀ I12, I12 = rc_s I (a0 + 1) x2 (I (a0 + 3) ((199 * a1) + x2)) → k26 (x2 + 1) I12))))
set_option maxRecDepth 100000 in
set_option maxHeartbeats 4000000 in
theorem gX8_restore_26 {p : Program} {l : Launch} {e : Env} {s : State} {m : MethodId} {below : List Frame} {meth : Method} {c : Code} {G : rc_G} {a0 : Nat} {a1 : Int} {I : rc_M} {post : Int → rc_M → Prop} {k26 : Int → rc_M → Prop} {x2 : Int} (X : rc_X p s m ([.ref a0, .int (rc_o a1)] : List Value).toArray meth c cX8_restore 3 wsX8_restore RX8 G (rc_A G)) (hr : meth.sig.returnType = some .int) (T0 : kX8 G a0) (hk26 : ∀ (x2 : Int) (J : rc_M), k26 x2 J → rc_g p l e rmX8_restore s m ([.ref a0, .int (rc_o a1)] : List Value).toArray below meth c 0 0 (MQ below (rc_QI G post) ([.ref a0, .int (rc_o a1)] : List Value).toArray s 0 0 (rc_A G)) 3 G (rc_A G) 26 [(0, .ref a0), (1, .int (rc_o a1)), (2, .int (rc_o x2))] [] J)  (h : wX8_restore_26 G post a0 a1 k26 x2 I) : rc_g p l e rmX8_restore s m ([.ref a0, .int (rc_o a1)] : List Value).toArray below meth c 0 0 (MQ below (rc_QI G post) ([.ref a0, .int (rc_o a1)] : List Value).toArray s 0 0 (rc_A G)) 3 G (rc_A G) 26 [(0, .ref a0), (1, .int (rc_o a1)), (2, .int (rc_o x2))] [] I := by
  unfold wX8_restore_26 at h
  refine rc_iload_n X dX8_restore_26 rfl 2 rfl ?_
  refine rc_sipush X dX8_restore_27 (rc_b16 _ ⟨by decide, by decide⟩) ?_
  obtain ⟨c8, h⟩ := h
  refine rc_ic_ge X 57 dX8_restore_30 (by decide) c8 ⟨by decide, by decide⟩ (fun c9 => ?_) (fun c9 => ?_)
  · have h := h.1 c9
    refine rc_aload_n X dX8_restore_57 rfl 0 rfl ?_
    refine gfX8_v X T0.1 nX8_restore_X8 qX8_restore_4 dX8_restore_58 ?_
    refine rc_iconst X dX8_restore_61 ?_
    refine rc_iald X T0.2.1 (by decide) dX8_restore_62 ⟨by decide, by decide⟩ ?_
    exact rc_iret X hr dX8_restore_63 h
  · have h := h.2 c9
    refine rc_aload_n X dX8_restore_33 rfl 0 rfl ?_
    refine gfX8_v X T0.1 nX8_restore_X8 qX8_restore_4 dX8_restore_34 ?_
    refine rc_iload_n X dX8_restore_37 rfl 2 rfl ?_
    refine rc_aload_n X dX8_restore_38 rfl 0 rfl ?_
    refine gfX8_kept X T0.1 nX8_restore_X8 qX8_restore_5 dX8_restore_39 ?_
    refine rc_sipush X dX8_restore_42 (rc_b16 _ ⟨by decide, by decide⟩) ?_
    refine rc_iload_n X dX8_restore_45 rfl 1 rfl ?_
    refine rc_imul X dX8_restore_46 ?_
    refine rc_iload_n X dX8_restore_47 rfl 2 rfl ?_
    refine rc_iadd X dX8_restore_48 ?_
    obtain ⟨c10, h⟩ := h
    refine rc_iald X T0.2.2.2.1 (by decide) dX8_restore_49 c10 ?_
    obtain ⟨c11, h⟩ := h
    refine rc_iast X T0.2.1 (by decide) dX8_restore_50 c11 (fun I12 e12 => ?_)
    have h := h I12 e12
    refine rc_iinc X [(2, .int (rc_o (x2 + 1))), (0, .ref a0), (1, .int (rc_o a1))] dX8_restore_51 2 rfl (by decide) rfl ?_
    refine rc_goto X 26 dX8_restore_54 (by decide) ?_
    refine rc_subl [(0, .ref a0), (1, .int (rc_o a1)), (2, .int (rc_o (x2 + 1)))] [1, 2, 0] rfl ?_
    exact hk26 _ _ h
noncomputable def rX8_restore_26 (G : rc_G) (post : Int → rc_M → Prop) (a0 : Nat) (a1 : Int)  (n : Nat) : Int → rc_M → Prop :=
  Nat.rec (motive := fun _ => Int → rc_M → Prop) (fun _ _ => False) (fun _ ih => wX8_restore_26 G post a0 a1  ih) n
set_option maxRecDepth 100000 in
set_option maxHeartbeats 4000000 in
theorem sX8_restore_26 {p : Program} {l : Launch} {e : Env} {s : State} {m : MethodId} {below : List Frame} {meth : Method} {c : Code} {G : rc_G} {a0 : Nat} {a1 : Int} {I : rc_M} {post : Int → rc_M → Prop}  {n : Nat} {x2 : Int} (X : rc_X p s m ([.ref a0, .int (rc_o a1)] : List Value).toArray meth c cX8_restore 3 wsX8_restore RX8 G (rc_A G)) (hr : meth.sig.returnType = some .int) (T0 : kX8 G a0)  (h : rX8_restore_26 G post a0 a1  n x2 I) : rc_g p l e rmX8_restore s m ([.ref a0, .int (rc_o a1)] : List Value).toArray below meth c 0 0 (MQ below (rc_QI G post) ([.ref a0, .int (rc_o a1)] : List Value).toArray s 0 0 (rc_A G)) 3 G (rc_A G) 26 [(0, .ref a0), (1, .int (rc_o a1)), (2, .int (rc_o x2))] [] I := by
  induction n generalizing x2 I with
  | zero => exact h.elim
  | succ n ih => exact gX8_restore_26 (k26 := rX8_restore_26 G post a0 a1  n) X hr T0  (fun x2 J h2 => ih h2) h
def wX8_restore (G : rc_G) (a0 : Nat) (a1 : Int) (I : rc_M) (post : Int → rc_M → Prop) : Prop :=
  wX8_in G a1 0 1 I (fun r2 I1 => rc_R r2 ∧ ((¬ r2 = 0 → (0 ≤ a1 ∧ a1 < 2) ∧ (rc_R (I1 (a0 + 4) a1) ∧ ((¬ (I1 (a0 + 4) a1) = 0 → ∃ n, rX8_restore_26 G post a0 a1  n 0 I1) ∧ ((I1 (a0 + 4) a1) = 0 → post (-100003) I1)))) ∧ (r2 = 0 → post (-100001) I1)))
set_option maxRecDepth 100000 in
set_option maxHeartbeats 4000000 in
theorem gX8_restore_0 {p : Program} {l : Launch} {e : Env} {s : State} {m : MethodId} {below : List Frame} {meth : Method} {c : Code} {G : rc_G} {a0 : Nat} {a1 : Int} {I : rc_M} {post : Int → rc_M → Prop}  (X : rc_X p s m ([.ref a0, .int (rc_o a1)] : List Value).toArray meth c cX8_restore 3 wsX8_restore RX8 G (rc_A G)) (hr : meth.sig.returnType = some .int) (T0 : kX8 G a0)  (h : wX8_restore G a0 a1 I post) : rc_g p l e rmX8_restore s m ([.ref a0, .int (rc_o a1)] : List Value).toArray below meth c 0 0 (MQ below (rc_QI G post) ([.ref a0, .int (rc_o a1)] : List Value).toArray s 0 0 (rc_A G)) 3 G (rc_A G) 0 [(0, .ref a0), (1, .int (rc_o a1))] [] I := by
  unfold wX8_restore at h
  refine rc_iload_n X dX8_restore_0 rfl 1 rfl ?_
  refine rc_iconst X dX8_restore_1 ?_
  refine rc_iconst X dX8_restore_2 ?_
  refine rc_cSI (rest := []) X (mX8_in  h) gX8_restore_X8_in rfl ⟨rfl, rfl⟩ dyX8_in ⟨Nat.le_of_ble_eq_true rfl, Nat.le_of_ble_eq_true rfl⟩ rfl rfl (Nat.le_of_ble_eq_true rfl) dX8_restore_3 ⟨Nat.zero_le _, Nat.zero_le _⟩ (fun r2 I1 h => ?_)
  obtain ⟨c3, h⟩ := h
  refine rc_if_ne X 12 dX8_restore_6 (by decide) c3 (fun c4 => ?_) (fun c4 => ?_)
  · have h := h.1 c4
    refine rc_aload_n X dX8_restore_12 rfl 0 rfl ?_
    refine gfX8_isKept X T0.1 nX8_restore_X8 qX8_restore_2 dX8_restore_13 ?_
    refine rc_iload_n X dX8_restore_16 rfl 1 rfl ?_
    obtain ⟨c5, h⟩ := h
    refine rc_zald X T0.2.2.2.2.1 (by decide) dX8_restore_17 c5 ?_
    obtain ⟨c6, h⟩ := h
    refine rc_if_ne X 24 dX8_restore_18 (by decide) c6 (fun c7 => ?_) (fun c7 => ?_)
    · have h := h.1 c7
      refine rc_iconst X dX8_restore_24 ?_
      refine rc_istore_n X [(2, .int (rc_o 0)), (0, .ref a0), (1, .int (rc_o a1))] dX8_restore_25 rfl (by decide) rfl ?_
      refine rc_subl [(0, .ref a0), (1, .int (rc_o a1)), (2, .int (rc_o 0))] [1, 2, 0] rfl ?_
      obtain ⟨n, h⟩ := h
      exact sX8_restore_26 X hr T0  h
    · have h := h.2 c7
      refine rc_ldc (n := (-100003)) X qX8_restore_3 (by decide +kernel) dX8_restore_21 ?_
      exact rc_iret X hr dX8_restore_23 h
  · have h := h.2 c4
    refine rc_ldc (n := (-100001)) X qX8_restore_1 (by decide +kernel) dX8_restore_9 ?_
    exact rc_iret X hr dX8_restore_11 h
theorem mX8_restore {l : Launch} {G : rc_G} {a0 : Nat} {a1 : Int} {I : rc_M} {post : Int → rc_M → Prop} (T0 : kX8 G a0) (h : wX8_restore G a0 a1 I post) : rc_CI l yX8_restore wsX8_restore rmX8_restore G [.ref a0, .int (rc_o a1)] I post :=
  rc_body (by decide +kernel) rfl rfl (Nat.le_of_ble_eq_true rfl) rfl (fun p e s m below meth c X hr => gX8_restore_0 X hr T0 h)
/-! X8_more -/
abbrev rmX8_more : Room := { frames := 0, cells := 0, slots := 0, locals := 0 }
theorem dyX8_more : yX8_more.cls = RX8 ∧ yX8_more.cls ≠ "java/lang/invoke/MethodHandle" ∧ yX8_more.cls ≠ "java/lang/invoke/VarHandle" ∧ (parseMethodDescriptor yX8_more.desc).map (fun d => d.parameters.length) = some 2 := ⟨rfl, by decide +kernel, by decide +kernel, by decide +kernel⟩
theorem qX8_more_1 : Cond.constantLong RX8 177 (31) ∈ wsX8_more := List.mem_of_getElem? (i := 1) (by decide +kernel)
def wX8_more (G : rc_G) (a0 : Int64) (a1 : Int) (I : rc_M) (post : Int64 → rc_M → Prop) : Prop :=
  post ((31 * a0) + ((rc_o a1).toInt64)) I
set_option maxRecDepth 100000 in
set_option maxHeartbeats 4000000 in
theorem gX8_more_0 {p : Program} {l : Launch} {e : Env} {s : State} {m : MethodId} {below : List Frame} {meth : Method} {c : Code} {G : rc_G} {a0 : Int64} {a1 : Int} {I : rc_M} {post : Int64 → rc_M → Prop}  (X : rc_X p s m ([.long a0, .int (rc_o a1)] : List Value).toArray meth c cX8_more 3 wsX8_more RX8 G (rc_A G)) (hr : meth.sig.returnType = some .long)   (h : wX8_more G a0 a1 I post) : rc_g p l e rmX8_more s m ([.long a0, .int (rc_o a1)] : List Value).toArray below meth c 0 0 (MQ below (rc_QL G post) ([.long a0, .int (rc_o a1)] : List Value).toArray s 0 0 (rc_A G)) 3 G (rc_A G) 0 [(0, .long a0), (2, .int (rc_o a1))] [] I := by
  unfold wX8_more at h
  refine rc_ldc2 X qX8_more_1 dX8_more_0 ?_
  refine rc_lload_n X dX8_more_3 rfl 0 rfl ?_
  refine rc_lmul X dX8_more_4 ?_
  refine rc_iload_n X dX8_more_5 rfl 1 rfl ?_
  refine rc_i2l X dX8_more_6 ?_
  refine rc_ladd X dX8_more_7 ?_
  exact rc_lret X hr dX8_more_8 h
theorem mX8_more {l : Launch} {G : rc_G} {a0 : Int64} {a1 : Int} {I : rc_M} {post : Int64 → rc_M → Prop}  (h : wX8_more G a0 a1 I post) : rc_CL l yX8_more wsX8_more rmX8_more G [.long a0, .int (rc_o a1)] I post :=
  rc_body (by decide +kernel) rfl rfl (Nat.le_of_ble_eq_true rfl) rfl (fun p e s m below meth c X hr => gX8_more_0 X hr  h)
/-! X8_checksum -/
abbrev rmX8_checksum : Room := { frames := 8, cells := 0, slots := 0, locals := 177 }
theorem dyX8_checksum : yX8_checksum.cls = RX8 ∧ yX8_checksum.cls ≠ "java/lang/invoke/MethodHandle" ∧ yX8_checksum.cls ≠ "java/lang/invoke/VarHandle" ∧ (parseMethodDescriptor yX8_checksum.desc).map (fun d => d.parameters.length) = some 0 := ⟨rfl, by decide +kernel, by decide +kernel, by decide +kernel⟩
theorem qX8_checksum_1 : Cond.constantLong RX8 179 (139) ∈ wsX8_checksum := List.mem_of_getElem? (i := 1) (by decide +kernel)
theorem qX8_checksum_2 : Cond.fieldLink RX8 7 "ReelChangerModel" "v" "[I" ∈ wsX8_checksum := List.mem_of_getElem? (i := 2) (by decide +kernel)
theorem nX8_checksum_X8 : ∀ w ∈ wsX80, w ∈ wsX8_checksum := fun w h => List.mem_cons_of_mem _ (List.mem_append_right _ (h))
def wX8_checksum_291 (G : rc_G) (post : Int64 → rc_M → Prop) (a0 : Nat) (k254 : Int64 → Int → rc_M → Prop) (x3 : Int) (y0 : Int64) (I : rc_M) : Prop :=
  k254 y0 (x3 + 1) I
set_option maxRecDepth 100000 in
set_option maxHeartbeats 4000000 in
theorem gX8_checksum_291 {p : Program} {l : Launch} {e : Env} {s : State} {m : MethodId} {below : List Frame} {meth : Method} {c : Code} {G : rc_G} {a0 : Nat} {I : rc_M} {post : Int64 → rc_M → Prop} {k254 : Int64 → Int → rc_M → Prop} {x3 : Int} {y0 : Int64} (X : rc_X p s m ([.ref a0] : List Value).toArray meth c cX8_checksum 5 wsX8_checksum RX8 G (rc_A G)) (hr : meth.sig.returnType = some .long) (T0 : kX8 G a0) (hk254 : ∀ (x1 : Int64) (x3 : Int) (J : rc_M), k254 x1 x3 J → rc_g p l e rmX8_checksum s m ([.ref a0] : List Value).toArray below meth c 0 0 (MQ below (rc_QL G post) ([.ref a0] : List Value).toArray s 0 0 (rc_A G)) 5 G (rc_A G) 254 [(0, .ref a0), (1, .long x1), (3, .int (rc_o x3))] [] J)  (h : wX8_checksum_291 G post a0 k254 x3 y0 I) : rc_g p l e rmX8_checksum s m ([.ref a0] : List Value).toArray below meth c 0 0 (MQ below (rc_QL G post) ([.ref a0] : List Value).toArray s 0 0 (rc_A G)) 5 G (rc_A G) 291 [(0, .ref a0), (3, .int (rc_o x3))] [.long y0] I := by
  unfold wX8_checksum_291 at h
  refine rc_lstore_n X [(1, .long y0), (0, .ref a0), (3, .int (rc_o x3))] dX8_checksum_291 rfl (by decide) rfl ?_
  refine rc_iinc X [(3, .int (rc_o (x3 + 1))), (1, .long y0), (0, .ref a0)] dX8_checksum_292 2 rfl (by decide) rfl ?_
  refine rc_goto X 254 dX8_checksum_295 (by decide) ?_
  refine rc_subl [(0, .ref a0), (1, .long y0), (3, .int (rc_o (x3 + 1)))] [2, 1, 0] rfl ?_
  exact hk254 _ _ _ h
def wX8_checksum_254 (G : rc_G) (post : Int64 → rc_M → Prop) (a0 : Nat) (k254 : Int64 → Int → rc_M → Prop) (x1 : Int64) (x3 : Int) (I : rc_M) : Prop :=
  rc_R x3 ∧ ((9 ≤ x3 → wX8_isRunning G a0 I (fun r20 I19 => rc_R r20 ∧ ((r20 = 0 → post x1 I19) ∧ (¬ r20 = 0 → wX8_forecastNow G a0 0 I19 (fun r24 I23 => wX8_more G x1 r24 I23 (fun r26 I25 => wX8_forecastNow G a0 1 I25 (fun r28 I27 => wX8_more G r26 r28 I27 (fun r30 I29 => post r30 I29)))))))) ∧ (¬ 9 ≤ x3 → wX8_taskAt G a0 x3 I (fun r32 I31 => rc_R r32 ∧ ((0 ≤ r32 → (0 ≤ r32 ∧ r32 < 2147483648) ∧ (wX8_more G x1 (r32 % 3) I31 (fun r37 I36 => (0 ≤ r32 ∧ r32 < 2147483648) ∧ (wX8_more G r37 (r32 / 3) I36 (fun r40 I39 => wX8_checksum_291 G post a0 k254 x3 r40 I39))))) ∧ (¬ 0 ≤ r32 → wX8_checksum_291 G post a0 k254 x3 x1 I31)))))
set_option maxRecDepth 100000 in
set_option maxHeartbeats 4000000 in
theorem gX8_checksum_254 {p : Program} {l : Launch} {e : Env} {s : State} {m : MethodId} {below : List Frame} {meth : Method} {c : Code} {G : rc_G} {a0 : Nat} {I : rc_M} {post : Int64 → rc_M → Prop} {k254 : Int64 → Int → rc_M → Prop} {x1 : Int64} {x3 : Int} (X : rc_X p s m ([.ref a0] : List Value).toArray meth c cX8_checksum 5 wsX8_checksum RX8 G (rc_A G)) (hr : meth.sig.returnType = some .long) (T0 : kX8 G a0) (hk254 : ∀ (x1 : Int64) (x3 : Int) (J : rc_M), k254 x1 x3 J → rc_g p l e rmX8_checksum s m ([.ref a0] : List Value).toArray below meth c 0 0 (MQ below (rc_QL G post) ([.ref a0] : List Value).toArray s 0 0 (rc_A G)) 5 G (rc_A G) 254 [(0, .ref a0), (1, .long x1), (3, .int (rc_o x3))] [] J)  (h : wX8_checksum_254 G post a0 k254 x1 x3 I) : rc_g p l e rmX8_checksum s m ([.ref a0] : List Value).toArray below meth c 0 0 (MQ below (rc_QL G post) ([.ref a0] : List Value).toArray s 0 0 (rc_A G)) 5 G (rc_A G) 254 [(0, .ref a0), (1, .long x1), (3, .int (rc_o x3))] [] I := by
  unfold wX8_checksum_254 at h
  refine rc_iload_n X dX8_checksum_254 rfl 2 rfl ?_
  refine rc_bipush X dX8_checksum_255 (rc_b8 _ ⟨by decide, by decide⟩) ?_
  obtain ⟨c17, h⟩ := h
  refine rc_ic_ge X 298 dX8_checksum_257 (by decide) c17 ⟨by decide, by decide⟩ (fun c18 => ?_) (fun c18 => ?_)
  · have h := h.1 c18
    refine rc_aload_n X dX8_checksum_298 rfl 0 rfl ?_
    refine rc_cVI (rest := []) X (mX8_isRunning T0 h) gX8_checksum_X8_isRunning rfl ⟨rfl, rfl⟩ dyX8_isRunning ⟨Nat.le_of_ble_eq_true rfl, Nat.le_of_ble_eq_true rfl⟩ (rc_recv X T0.1 rfl) rfl rfl (Nat.le_of_ble_eq_true rfl) dX8_checksum_299 ⟨Nat.zero_le _, Nat.zero_le _⟩ (fun r20 I19 h => ?_)
    obtain ⟨c21, h⟩ := h
    refine rc_if_eq X 325 dX8_checksum_302 (by decide) c21 (fun c22 => ?_) (fun c22 => ?_)
    · have h := h.1 c22
      refine rc_lload_n X dX8_checksum_325 rfl 1 rfl ?_
      exact rc_lret X hr dX8_checksum_326 h
    · have h := h.2 c22
      refine rc_lload_n X dX8_checksum_305 rfl 1 rfl ?_
      refine rc_aload_n X dX8_checksum_306 rfl 0 rfl ?_
      refine rc_iconst X dX8_checksum_307 ?_
      refine rc_cVI (rest := [.long x1]) X (mX8_forecastNow T0 h) gX8_checksum_X8_forecastNow rfl ⟨rfl, rfl⟩ dyX8_forecastNow ⟨Nat.le_of_ble_eq_true rfl, Nat.le_of_ble_eq_true rfl⟩ (rc_recv X T0.1 rfl) rfl rfl (Nat.le_of_ble_eq_true rfl) dX8_checksum_308 ⟨Nat.zero_le _, Nat.zero_le _⟩ (fun r24 I23 h => ?_)
      refine rc_cSL (rest := []) X (mX8_more  h) gX8_checksum_X8_more rfl ⟨rfl, rfl⟩ dyX8_more ⟨Nat.le_of_ble_eq_true rfl, Nat.le_of_ble_eq_true rfl⟩ rfl rfl (Nat.le_of_ble_eq_true rfl) dX8_checksum_311 ⟨Nat.zero_le _, Nat.zero_le _⟩ (fun r26 I25 h => ?_)
      refine rc_aload_n X dX8_checksum_314 rfl 0 rfl ?_
      refine rc_iconst X dX8_checksum_315 ?_
      refine rc_cVI (rest := [.long r26]) X (mX8_forecastNow T0 h) gX8_checksum_X8_forecastNow rfl ⟨rfl, rfl⟩ dyX8_forecastNow ⟨Nat.le_of_ble_eq_true rfl, Nat.le_of_ble_eq_true rfl⟩ (rc_recv X T0.1 rfl) rfl rfl (Nat.le_of_ble_eq_true rfl) dX8_checksum_316 ⟨Nat.zero_le _, Nat.zero_le _⟩ (fun r28 I27 h => ?_)
      refine rc_cSL (rest := []) X (mX8_more  h) gX8_checksum_X8_more rfl ⟨rfl, rfl⟩ dyX8_more ⟨Nat.le_of_ble_eq_true rfl, Nat.le_of_ble_eq_true rfl⟩ rfl rfl (Nat.le_of_ble_eq_true rfl) dX8_checksum_319 ⟨Nat.zero_le _, Nat.zero_le _⟩ (fun r30 I29 h => ?_)
      refine rc_goto X 326 dX8_checksum_322 (by decide) ?_
      exact rc_lret X hr dX8_checksum_326 h
  · have h := h.2 c18
    refine rc_aload_n X dX8_checksum_260 rfl 0 rfl ?_
    refine rc_iload_n X dX8_checksum_261 rfl 2 rfl ?_
    refine rc_cVI (rest := []) X (mX8_taskAt T0 h) gX8_checksum_X8_taskAt rfl ⟨rfl, rfl⟩ dyX8_taskAt ⟨Nat.le_of_ble_eq_true rfl, Nat.le_of_ble_eq_true rfl⟩ (rc_recv X T0.1 rfl) rfl rfl (Nat.le_of_ble_eq_true rfl) dX8_checksum_262 ⟨Nat.zero_le _, Nat.zero_le _⟩ (fun r32 I31 h => ?_)
    refine rc_istore X [(4, .int (rc_o r32)), (0, .ref a0), (1, .long x1), (3, .int (rc_o x3))] dX8_checksum_265 (by decide) rfl ?_
    refine rc_iload X dX8_checksum_267 0 rfl ?_
    obtain ⟨c33, h⟩ := h
    refine rc_if_ge X 276 dX8_checksum_269 (by decide) c33 (fun c34 => ?_) (fun c34 => ?_)
    · have h := h.1 c34
      refine rc_lload_n X dX8_checksum_276 rfl 2 rfl ?_
      refine rc_iload X dX8_checksum_277 0 rfl ?_
      refine rc_iconst X dX8_checksum_279 ?_
      obtain ⟨c35, h⟩ := h
      refine rc_irem X dX8_checksum_280 c35 ⟨by decide, by decide⟩ ?_
      refine rc_cSL (rest := []) X (mX8_more  h) gX8_checksum_X8_more rfl ⟨rfl, rfl⟩ dyX8_more ⟨Nat.le_of_ble_eq_true rfl, Nat.le_of_ble_eq_true rfl⟩ rfl rfl (Nat.le_of_ble_eq_true rfl) dX8_checksum_281 ⟨Nat.zero_le _, Nat.zero_le _⟩ (fun r37 I36 h => ?_)
      refine rc_iload X dX8_checksum_284 0 rfl ?_
      refine rc_iconst X dX8_checksum_286 ?_
      obtain ⟨c38, h⟩ := h
      refine rc_idiv X dX8_checksum_287 c38 ⟨by decide, by decide⟩ ?_
      refine rc_cSL (rest := []) X (mX8_more  h) gX8_checksum_X8_more rfl ⟨rfl, rfl⟩ dyX8_more ⟨Nat.le_of_ble_eq_true rfl, Nat.le_of_ble_eq_true rfl⟩ rfl rfl (Nat.le_of_ble_eq_true rfl) dX8_checksum_288 ⟨Nat.zero_le _, Nat.zero_le _⟩ (fun r40 I39 h => ?_)
      refine rc_subl [(0, .ref a0), (3, .int (rc_o x3))] [1, 3] rfl ?_
      exact gX8_checksum_291 X hr T0 hk254  h
    · have h := h.2 c34
      refine rc_lload_n X dX8_checksum_272 rfl 2 rfl ?_
      refine rc_goto X 291 dX8_checksum_273 (by decide) ?_
      refine rc_subl [(0, .ref a0), (3, .int (rc_o x3))] [1, 3] rfl ?_
      exact gX8_checksum_291 X hr T0 hk254  h
noncomputable def rX8_checksum_254 (G : rc_G) (post : Int64 → rc_M → Prop) (a0 : Nat)  (n : Nat) : Int64 → Int → rc_M → Prop :=
  Nat.rec (motive := fun _ => Int64 → Int → rc_M → Prop) (fun _ _ _ => False) (fun _ ih => wX8_checksum_254 G post a0  ih) n
set_option maxRecDepth 100000 in
set_option maxHeartbeats 4000000 in
theorem sX8_checksum_254 {p : Program} {l : Launch} {e : Env} {s : State} {m : MethodId} {below : List Frame} {meth : Method} {c : Code} {G : rc_G} {a0 : Nat} {I : rc_M} {post : Int64 → rc_M → Prop}  {n : Nat} {x1 : Int64} {x3 : Int} (X : rc_X p s m ([.ref a0] : List Value).toArray meth c cX8_checksum 5 wsX8_checksum RX8 G (rc_A G)) (hr : meth.sig.returnType = some .long) (T0 : kX8 G a0)  (h : rX8_checksum_254 G post a0  n x1 x3 I) : rc_g p l e rmX8_checksum s m ([.ref a0] : List Value).toArray below meth c 0 0 (MQ below (rc_QL G post) ([.ref a0] : List Value).toArray s 0 0 (rc_A G)) 5 G (rc_A G) 254 [(0, .ref a0), (1, .long x1), (3, .int (rc_o x3))] [] I := by
  induction n generalizing x1 x3 I with
  | zero => exact h.elim
  | succ n ih => exact gX8_checksum_254 (k254 := rX8_checksum_254 G post a0  n) X hr T0  (fun x1 x3 J h2 => ih h2) h
def wX8_checksum_222 (G : rc_G) (post : Int64 → rc_M → Prop) (a0 : Nat) (k214 : Int64 → Int → rc_M → Prop) (k222 : Int64 → Int → Int → rc_M → Prop) (x1 : Int64) (x3 : Int) (x4 : Int) (I : rc_M) : Prop :=
  rc_R x4 ∧ ((3 ≤ x4 → k214 x1 (x3 + 1) I) ∧ (¬ 3 ≤ x4 → wX8_projectorTells G a0 x3 x4 I (fun r44 I43 => wX8_more G x1 r44 I43 (fun r46 I45 => k222 r46 x3 (x4 + 1) I45))))
set_option maxRecDepth 100000 in
set_option maxHeartbeats 4000000 in
theorem gX8_checksum_222 {p : Program} {l : Launch} {e : Env} {s : State} {m : MethodId} {below : List Frame} {meth : Method} {c : Code} {G : rc_G} {a0 : Nat} {I : rc_M} {post : Int64 → rc_M → Prop} {k214 : Int64 → Int → rc_M → Prop} {k222 : Int64 → Int → Int → rc_M → Prop} {x1 : Int64} {x3 : Int} {x4 : Int} (X : rc_X p s m ([.ref a0] : List Value).toArray meth c cX8_checksum 5 wsX8_checksum RX8 G (rc_A G)) (hr : meth.sig.returnType = some .long) (T0 : kX8 G a0) (hk214 : ∀ (x1 : Int64) (x3 : Int) (J : rc_M), k214 x1 x3 J → rc_g p l e rmX8_checksum s m ([.ref a0] : List Value).toArray below meth c 0 0 (MQ below (rc_QL G post) ([.ref a0] : List Value).toArray s 0 0 (rc_A G)) 5 G (rc_A G) 214 [(0, .ref a0), (1, .long x1), (3, .int (rc_o x3))] [] J) (hk222 : ∀ (x1 : Int64) (x3 : Int) (x4 : Int) (J : rc_M), k222 x1 x3 x4 J → rc_g p l e rmX8_checksum s m ([.ref a0] : List Value).toArray below meth c 0 0 (MQ below (rc_QL G post) ([.ref a0] : List Value).toArray s 0 0 (rc_A G)) 5 G (rc_A G) 222 [(0, .ref a0), (1, .long x1), (3, .int (rc_o x3)), (4, .int (rc_o x4))] [] J)  (h : wX8_checksum_222 G post a0 k214 k222 x1 x3 x4 I) : rc_g p l e rmX8_checksum s m ([.ref a0] : List Value).toArray below meth c 0 0 (MQ below (rc_QL G post) ([.ref a0] : List Value).toArray s 0 0 (rc_A G)) 5 G (rc_A G) 222 [(0, .ref a0), (1, .long x1), (3, .int (rc_o x3)), (4, .int (rc_o x4))] [] I := by
  unfold wX8_checksum_222 at h
  refine rc_iload X dX8_checksum_222 3 rfl ?_
  refine rc_iconst X dX8_checksum_224 ?_
  obtain ⟨c41, h⟩ := h
  refine rc_ic_ge X 246 dX8_checksum_225 (by decide) c41 ⟨by decide, by decide⟩ (fun c42 => ?_) (fun c42 => ?_)
  · have h := h.1 c42
    refine rc_iinc X [(3, .int (rc_o (x3 + 1))), (0, .ref a0), (1, .long x1), (4, .int (rc_o x4))] dX8_checksum_246 2 rfl (by decide) rfl ?_
    refine rc_goto X 214 dX8_checksum_249 (by decide) ?_
    refine rc_subl [(0, .ref a0), (1, .long x1), (3, .int (rc_o (x3 + 1)))] [1, 2, 0] rfl ?_
    exact hk214 _ _ _ h
  · have h := h.2 c42
    refine rc_lload_n X dX8_checksum_228 rfl 1 rfl ?_
    refine rc_aload_n X dX8_checksum_229 rfl 0 rfl ?_
    refine rc_iload_n X dX8_checksum_230 rfl 2 rfl ?_
    refine rc_iload X dX8_checksum_231 3 rfl ?_
    refine rc_cVI (rest := [.long x1]) X (mX8_projectorTells T0 h) gX8_checksum_X8_projectorTells rfl ⟨rfl, rfl⟩ dyX8_projectorTells ⟨Nat.le_of_ble_eq_true rfl, Nat.le_of_ble_eq_true rfl⟩ (rc_recv X T0.1 rfl) rfl rfl (Nat.le_of_ble_eq_true rfl) dX8_checksum_233 ⟨Nat.zero_le _, Nat.zero_le _⟩ (fun r44 I43 h => ?_)
    refine rc_cSL (rest := []) X (mX8_more  h) gX8_checksum_X8_more rfl ⟨rfl, rfl⟩ dyX8_more ⟨Nat.le_of_ble_eq_true rfl, Nat.le_of_ble_eq_true rfl⟩ rfl rfl (Nat.le_of_ble_eq_true rfl) dX8_checksum_236 ⟨Nat.zero_le _, Nat.zero_le _⟩ (fun r46 I45 h => ?_)
    refine rc_lstore_n X [(1, .long r46), (0, .ref a0), (3, .int (rc_o x3)), (4, .int (rc_o x4))] dX8_checksum_239 rfl (by decide) rfl ?_
    refine rc_iinc X [(4, .int (rc_o (x4 + 1))), (1, .long r46), (0, .ref a0), (3, .int (rc_o x3))] dX8_checksum_240 3 rfl (by decide) rfl ?_
    refine rc_goto X 222 dX8_checksum_243 (by decide) ?_
    refine rc_subl [(0, .ref a0), (1, .long r46), (3, .int (rc_o x3)), (4, .int (rc_o (x4 + 1)))] [2, 1, 3, 0] rfl ?_
    exact hk222 _ _ _ _ h
noncomputable def rX8_checksum_222 (G : rc_G) (post : Int64 → rc_M → Prop) (a0 : Nat) (k214 : Int64 → Int → rc_M → Prop) (n : Nat) : Int64 → Int → Int → rc_M → Prop :=
  Nat.rec (motive := fun _ => Int64 → Int → Int → rc_M → Prop) (fun _ _ _ _ => False) (fun _ ih => wX8_checksum_222 G post a0 k214 ih) n
set_option maxRecDepth 100000 in
set_option maxHeartbeats 4000000 in
theorem sX8_checksum_222 {p : Program} {l : Launch} {e : Env} {s : State} {m : MethodId} {below : List Frame} {meth : Method} {c : Code} {G : rc_G} {a0 : Nat} {I : rc_M} {post : Int64 → rc_M → Prop} {k214 : Int64 → Int → rc_M → Prop} {n : Nat} {x1 : Int64} {x3 : Int} {x4 : Int} (X : rc_X p s m ([.ref a0] : List Value).toArray meth c cX8_checksum 5 wsX8_checksum RX8 G (rc_A G)) (hr : meth.sig.returnType = some .long) (T0 : kX8 G a0) (hk214 : ∀ (x1 : Int64) (x3 : Int) (J : rc_M), k214 x1 x3 J → rc_g p l e rmX8_checksum s m ([.ref a0] : List Value).toArray below meth c 0 0 (MQ below (rc_QL G post) ([.ref a0] : List Value).toArray s 0 0 (rc_A G)) 5 G (rc_A G) 214 [(0, .ref a0), (1, .long x1), (3, .int (rc_o x3))] [] J) (h : rX8_checksum_222 G post a0 k214 n x1 x3 x4 I) : rc_g p l e rmX8_checksum s m ([.ref a0] : List Value).toArray below meth c 0 0 (MQ below (rc_QL G post) ([.ref a0] : List Value).toArray s 0 0 (rc_A G)) 5 G (rc_A G) 222 [(0, .ref a0), (1, .long x1), (3, .int (rc_o x3)), (4, .int (rc_o x4))] [] I := by
  induction n generalizing x1 x3 x4 I with
  | zero => exact h.elim
  | succ n ih => exact gX8_checksum_222 (k222 := rX8_checksum_222 G post a0 k214 n) X hr T0 hk214 (fun x1 x3 x4 J h2 => ih h2) h
def wX8_checksum_214 (G : rc_G) (post : Int64 → rc_M → Prop) (a0 : Nat) (k214 : Int64 → Int → rc_M → Prop) (x1 : Int64) (x3 : Int) (I : rc_M) : Prop :=
  rc_R x3 ∧ ((2 ≤ x3 → ∃ n, rX8_checksum_254 G post a0  n x1 0 I) ∧ (¬ 2 ≤ x3 → ∃ n, rX8_checksum_222 G post a0 k214 n x1 x3 0 I))
set_option maxRecDepth 100000 in
set_option maxHeartbeats 4000000 in
theorem gX8_checksum_214 {p : Program} {l : Launch} {e : Env} {s : State} {m : MethodId} {below : List Frame} {meth : Method} {c : Code} {G : rc_G} {a0 : Nat} {I : rc_M} {post : Int64 → rc_M → Prop} {k214 : Int64 → Int → rc_M → Prop} {x1 : Int64} {x3 : Int} (X : rc_X p s m ([.ref a0] : List Value).toArray meth c cX8_checksum 5 wsX8_checksum RX8 G (rc_A G)) (hr : meth.sig.returnType = some .long) (T0 : kX8 G a0) (hk214 : ∀ (x1 : Int64) (x3 : Int) (J : rc_M), k214 x1 x3 J → rc_g p l e rmX8_checksum s m ([.ref a0] : List Value).toArray below meth c 0 0 (MQ below (rc_QL G post) ([.ref a0] : List Value).toArray s 0 0 (rc_A G)) 5 G (rc_A G) 214 [(0, .ref a0), (1, .long x1), (3, .int (rc_o x3))] [] J)  (h : wX8_checksum_214 G post a0 k214 x1 x3 I) : rc_g p l e rmX8_checksum s m ([.ref a0] : List Value).toArray below meth c 0 0 (MQ below (rc_QL G post) ([.ref a0] : List Value).toArray s 0 0 (rc_A G)) 5 G (rc_A G) 214 [(0, .ref a0), (1, .long x1), (3, .int (rc_o x3))] [] I := by
  unfold wX8_checksum_214 at h
  refine rc_iload_n X dX8_checksum_214 rfl 2 rfl ?_
  refine rc_iconst X dX8_checksum_215 ?_
  obtain ⟨c15, h⟩ := h
  refine rc_ic_ge X 252 dX8_checksum_216 (by decide) c15 ⟨by decide, by decide⟩ (fun c16 => ?_) (fun c16 => ?_)
  · have h := h.1 c16
    refine rc_iconst X dX8_checksum_252 ?_
    refine rc_istore_n X [(3, .int (rc_o 0)), (0, .ref a0), (1, .long x1)] dX8_checksum_253 rfl (by decide) rfl ?_
    refine rc_subl [(0, .ref a0), (1, .long x1), (3, .int (rc_o 0))] [1, 2, 0] rfl ?_
    obtain ⟨n, h⟩ := h
    exact sX8_checksum_254 X hr T0  h
  · have h := h.2 c16
    refine rc_iconst X dX8_checksum_219 ?_
    refine rc_istore X [(4, .int (rc_o 0)), (0, .ref a0), (1, .long x1), (3, .int (rc_o x3))] dX8_checksum_220 (by decide) rfl ?_
    refine rc_subl [(0, .ref a0), (1, .long x1), (3, .int (rc_o x3)), (4, .int (rc_o 0))] [1, 2, 3, 0] rfl ?_
    obtain ⟨n, h⟩ := h
    exact sX8_checksum_222 X hr T0 hk214 h
noncomputable def rX8_checksum_214 (G : rc_G) (post : Int64 → rc_M → Prop) (a0 : Nat)  (n : Nat) : Int64 → Int → rc_M → Prop :=
  Nat.rec (motive := fun _ => Int64 → Int → rc_M → Prop) (fun _ _ _ => False) (fun _ ih => wX8_checksum_214 G post a0  ih) n
set_option maxRecDepth 100000 in
set_option maxHeartbeats 4000000 in
theorem sX8_checksum_214 {p : Program} {l : Launch} {e : Env} {s : State} {m : MethodId} {below : List Frame} {meth : Method} {c : Code} {G : rc_G} {a0 : Nat} {I : rc_M} {post : Int64 → rc_M → Prop}  {n : Nat} {x1 : Int64} {x3 : Int} (X : rc_X p s m ([.ref a0] : List Value).toArray meth c cX8_checksum 5 wsX8_checksum RX8 G (rc_A G)) (hr : meth.sig.returnType = some .long) (T0 : kX8 G a0)  (h : rX8_checksum_214 G post a0  n x1 x3 I) : rc_g p l e rmX8_checksum s m ([.ref a0] : List Value).toArray below meth c 0 0 (MQ below (rc_QL G post) ([.ref a0] : List Value).toArray s 0 0 (rc_A G)) 5 G (rc_A G) 214 [(0, .ref a0), (1, .long x1), (3, .int (rc_o x3))] [] I := by
  induction n generalizing x1 x3 I with
  | zero => exact h.elim
  | succ n ih => exact gX8_checksum_214 (k214 := rX8_checksum_214 G post a0  n) X hr T0  (fun x1 x3 J h2 => ih h2) h
def wX8_checksum_190 (G : rc_G) (post : Int64 → rc_M → Prop) (a0 : Nat) (k190 : Int64 → Int → rc_M → Prop) (x1 : Int64) (x3 : Int) (I : rc_M) : Prop :=
  rc_R x3 ∧ ((10 ≤ x3 → ∃ n, rX8_checksum_214 G post a0  n x1 0 I) ∧ (¬ 10 ≤ x3 → wX8_showTells G a0 x3 I (fun r48 I47 => wX8_more G x1 r48 I47 (fun r50 I49 => k190 r50 (x3 + 1) I49))))
set_option maxRecDepth 100000 in
set_option maxHeartbeats 4000000 in
theorem gX8_checksum_190 {p : Program} {l : Launch} {e : Env} {s : State} {m : MethodId} {below : List Frame} {meth : Method} {c : Code} {G : rc_G} {a0 : Nat} {I : rc_M} {post : Int64 → rc_M → Prop} {k190 : Int64 → Int → rc_M → Prop} {x1 : Int64} {x3 : Int} (X : rc_X p s m ([.ref a0] : List Value).toArray meth c cX8_checksum 5 wsX8_checksum RX8 G (rc_A G)) (hr : meth.sig.returnType = some .long) (T0 : kX8 G a0) (hk190 : ∀ (x1 : Int64) (x3 : Int) (J : rc_M), k190 x1 x3 J → rc_g p l e rmX8_checksum s m ([.ref a0] : List Value).toArray below meth c 0 0 (MQ below (rc_QL G post) ([.ref a0] : List Value).toArray s 0 0 (rc_A G)) 5 G (rc_A G) 190 [(0, .ref a0), (1, .long x1), (3, .int (rc_o x3))] [] J)  (h : wX8_checksum_190 G post a0 k190 x1 x3 I) : rc_g p l e rmX8_checksum s m ([.ref a0] : List Value).toArray below meth c 0 0 (MQ below (rc_QL G post) ([.ref a0] : List Value).toArray s 0 0 (rc_A G)) 5 G (rc_A G) 190 [(0, .ref a0), (1, .long x1), (3, .int (rc_o x3))] [] I := by
  unfold wX8_checksum_190 at h
  refine rc_iload_n X dX8_checksum_190 rfl 2 rfl ?_
  refine rc_bipush X dX8_checksum_191 (rc_b8 _ ⟨by decide, by decide⟩) ?_
  obtain ⟨c13, h⟩ := h
  refine rc_ic_ge X 212 dX8_checksum_193 (by decide) c13 ⟨by decide, by decide⟩ (fun c14 => ?_) (fun c14 => ?_)
  · have h := h.1 c14
    refine rc_iconst X dX8_checksum_212 ?_
    refine rc_istore_n X [(3, .int (rc_o 0)), (0, .ref a0), (1, .long x1)] dX8_checksum_213 rfl (by decide) rfl ?_
    refine rc_subl [(0, .ref a0), (1, .long x1), (3, .int (rc_o 0))] [1, 2, 0] rfl ?_
    obtain ⟨n, h⟩ := h
    exact sX8_checksum_214 X hr T0  h
  · have h := h.2 c14
    refine rc_lload_n X dX8_checksum_196 rfl 1 rfl ?_
    refine rc_aload_n X dX8_checksum_197 rfl 0 rfl ?_
    refine rc_iload_n X dX8_checksum_198 rfl 2 rfl ?_
    refine rc_cVI (rest := [.long x1]) X (mX8_showTells T0 h) gX8_checksum_X8_showTells rfl ⟨rfl, rfl⟩ dyX8_showTells ⟨Nat.le_of_ble_eq_true rfl, Nat.le_of_ble_eq_true rfl⟩ (rc_recv X T0.1 rfl) rfl rfl (Nat.le_of_ble_eq_true rfl) dX8_checksum_199 ⟨Nat.zero_le _, Nat.zero_le _⟩ (fun r48 I47 h => ?_)
    refine rc_cSL (rest := []) X (mX8_more  h) gX8_checksum_X8_more rfl ⟨rfl, rfl⟩ dyX8_more ⟨Nat.le_of_ble_eq_true rfl, Nat.le_of_ble_eq_true rfl⟩ rfl rfl (Nat.le_of_ble_eq_true rfl) dX8_checksum_202 ⟨Nat.zero_le _, Nat.zero_le _⟩ (fun r50 I49 h => ?_)
    refine rc_lstore_n X [(1, .long r50), (0, .ref a0), (3, .int (rc_o x3))] dX8_checksum_205 rfl (by decide) rfl ?_
    refine rc_iinc X [(3, .int (rc_o (x3 + 1))), (1, .long r50), (0, .ref a0)] dX8_checksum_206 2 rfl (by decide) rfl ?_
    refine rc_goto X 190 dX8_checksum_209 (by decide) ?_
    refine rc_subl [(0, .ref a0), (1, .long r50), (3, .int (rc_o (x3 + 1)))] [2, 1, 0] rfl ?_
    exact hk190 _ _ _ h
noncomputable def rX8_checksum_190 (G : rc_G) (post : Int64 → rc_M → Prop) (a0 : Nat)  (n : Nat) : Int64 → Int → rc_M → Prop :=
  Nat.rec (motive := fun _ => Int64 → Int → rc_M → Prop) (fun _ _ _ => False) (fun _ ih => wX8_checksum_190 G post a0  ih) n
set_option maxRecDepth 100000 in
set_option maxHeartbeats 4000000 in
theorem sX8_checksum_190 {p : Program} {l : Launch} {e : Env} {s : State} {m : MethodId} {below : List Frame} {meth : Method} {c : Code} {G : rc_G} {a0 : Nat} {I : rc_M} {post : Int64 → rc_M → Prop}  {n : Nat} {x1 : Int64} {x3 : Int} (X : rc_X p s m ([.ref a0] : List Value).toArray meth c cX8_checksum 5 wsX8_checksum RX8 G (rc_A G)) (hr : meth.sig.returnType = some .long) (T0 : kX8 G a0)  (h : rX8_checksum_190 G post a0  n x1 x3 I) : rc_g p l e rmX8_checksum s m ([.ref a0] : List Value).toArray below meth c 0 0 (MQ below (rc_QL G post) ([.ref a0] : List Value).toArray s 0 0 (rc_A G)) 5 G (rc_A G) 190 [(0, .ref a0), (1, .long x1), (3, .int (rc_o x3))] [] I := by
  induction n generalizing x1 x3 I with
  | zero => exact h.elim
  | succ n ih => exact gX8_checksum_190 (k190 := rX8_checksum_190 G post a0  n) X hr T0  (fun x1 x3 J h2 => ih h2) h
def wX8_checksum_155 (G : rc_G) (post : Int64 → rc_M → Prop) (a0 : Nat) (k155 : Int64 → Int → rc_M → Prop) (x1 : Int64) (x3 : Int) (I : rc_M) : Prop :=
  rc_R x3 ∧ (rc_R (I (a0 + 1) 149) ∧ (((I (a0 + 1) 149) ≤ x3 → ∃ n, rX8_checksum_190 G post a0  n x1 0 I) ∧ (¬ (I (a0 + 1) 149) ≤ x3 → (0 ≤ 150 + x3 ∧ 150 + x3 < 199) ∧ (wX8_more G x1 (I (a0 + 1) (150 + x3)) I (fun r53 I52 => k155 r53 (x3 + 1) I52)))))
set_option maxRecDepth 100000 in
set_option maxHeartbeats 4000000 in
theorem gX8_checksum_155 {p : Program} {l : Launch} {e : Env} {s : State} {m : MethodId} {below : List Frame} {meth : Method} {c : Code} {G : rc_G} {a0 : Nat} {I : rc_M} {post : Int64 → rc_M → Prop} {k155 : Int64 → Int → rc_M → Prop} {x1 : Int64} {x3 : Int} (X : rc_X p s m ([.ref a0] : List Value).toArray meth c cX8_checksum 5 wsX8_checksum RX8 G (rc_A G)) (hr : meth.sig.returnType = some .long) (T0 : kX8 G a0) (hk155 : ∀ (x1 : Int64) (x3 : Int) (J : rc_M), k155 x1 x3 J → rc_g p l e rmX8_checksum s m ([.ref a0] : List Value).toArray below meth c 0 0 (MQ below (rc_QL G post) ([.ref a0] : List Value).toArray s 0 0 (rc_A G)) 5 G (rc_A G) 155 [(0, .ref a0), (1, .long x1), (3, .int (rc_o x3))] [] J)  (h : wX8_checksum_155 G post a0 k155 x1 x3 I) : rc_g p l e rmX8_checksum s m ([.ref a0] : List Value).toArray below meth c 0 0 (MQ below (rc_QL G post) ([.ref a0] : List Value).toArray s 0 0 (rc_A G)) 5 G (rc_A G) 155 [(0, .ref a0), (1, .long x1), (3, .int (rc_o x3))] [] I := by
  unfold wX8_checksum_155 at h
  refine rc_iload_n X dX8_checksum_155 rfl 2 rfl ?_
  refine rc_aload_n X dX8_checksum_156 rfl 0 rfl ?_
  refine gfX8_v X T0.1 nX8_checksum_X8 qX8_checksum_2 dX8_checksum_157 ?_
  refine rc_sipush X dX8_checksum_160 (rc_b16 _ ⟨by decide, by decide⟩) ?_
  refine rc_iald X T0.2.1 (by decide) dX8_checksum_163 ⟨by decide, by decide⟩ ?_
  obtain ⟨c10, h⟩ := h
  obtain ⟨c11, h⟩ := h
  refine rc_ic_ge X 188 dX8_checksum_164 (by decide) c10 c11 (fun c12 => ?_) (fun c12 => ?_)
  · have h := h.1 c12
    refine rc_iconst X dX8_checksum_188 ?_
    refine rc_istore_n X [(3, .int (rc_o 0)), (0, .ref a0), (1, .long x1)] dX8_checksum_189 rfl (by decide) rfl ?_
    refine rc_subl [(0, .ref a0), (1, .long x1), (3, .int (rc_o 0))] [1, 2, 0] rfl ?_
    obtain ⟨n, h⟩ := h
    exact sX8_checksum_190 X hr T0  h
  · have h := h.2 c12
    refine rc_lload_n X dX8_checksum_167 rfl 1 rfl ?_
    refine rc_aload_n X dX8_checksum_168 rfl 0 rfl ?_
    refine gfX8_v X T0.1 nX8_checksum_X8 qX8_checksum_2 dX8_checksum_169 ?_
    refine rc_sipush X dX8_checksum_172 (rc_b16 _ ⟨by decide, by decide⟩) ?_
    refine rc_iload_n X dX8_checksum_175 rfl 2 rfl ?_
    refine rc_iadd X dX8_checksum_176 ?_
    obtain ⟨c51, h⟩ := h
    refine rc_iald X T0.2.1 (by decide) dX8_checksum_177 c51 ?_
    refine rc_cSL (rest := []) X (mX8_more  h) gX8_checksum_X8_more rfl ⟨rfl, rfl⟩ dyX8_more ⟨Nat.le_of_ble_eq_true rfl, Nat.le_of_ble_eq_true rfl⟩ rfl rfl (Nat.le_of_ble_eq_true rfl) dX8_checksum_178 ⟨Nat.zero_le _, Nat.zero_le _⟩ (fun r53 I52 h => ?_)
    refine rc_lstore_n X [(1, .long r53), (0, .ref a0), (3, .int (rc_o x3))] dX8_checksum_181 rfl (by decide) rfl ?_
    refine rc_iinc X [(3, .int (rc_o (x3 + 1))), (1, .long r53), (0, .ref a0)] dX8_checksum_182 2 rfl (by decide) rfl ?_
    refine rc_goto X 155 dX8_checksum_185 (by decide) ?_
    refine rc_subl [(0, .ref a0), (1, .long r53), (3, .int (rc_o (x3 + 1)))] [2, 1, 0] rfl ?_
    exact hk155 _ _ _ h
noncomputable def rX8_checksum_155 (G : rc_G) (post : Int64 → rc_M → Prop) (a0 : Nat)  (n : Nat) : Int64 → Int → rc_M → Prop :=
  Nat.rec (motive := fun _ => Int64 → Int → rc_M → Prop) (fun _ _ _ => False) (fun _ ih => wX8_checksum_155 G post a0  ih) n
set_option maxRecDepth 100000 in
set_option maxHeartbeats 4000000 in
theorem sX8_checksum_155 {p : Program} {l : Launch} {e : Env} {s : State} {m : MethodId} {below : List Frame} {meth : Method} {c : Code} {G : rc_G} {a0 : Nat} {I : rc_M} {post : Int64 → rc_M → Prop}  {n : Nat} {x1 : Int64} {x3 : Int} (X : rc_X p s m ([.ref a0] : List Value).toArray meth c cX8_checksum 5 wsX8_checksum RX8 G (rc_A G)) (hr : meth.sig.returnType = some .long) (T0 : kX8 G a0)  (h : rX8_checksum_155 G post a0  n x1 x3 I) : rc_g p l e rmX8_checksum s m ([.ref a0] : List Value).toArray below meth c 0 0 (MQ below (rc_QL G post) ([.ref a0] : List Value).toArray s 0 0 (rc_A G)) 5 G (rc_A G) 155 [(0, .ref a0), (1, .long x1), (3, .int (rc_o x3))] [] I := by
  induction n generalizing x1 x3 I with
  | zero => exact h.elim
  | succ n ih => exact gX8_checksum_155 (k155 := rX8_checksum_155 G post a0  n) X hr T0  (fun x1 x3 J h2 => ih h2) h
def wX8_checksum_113 (G : rc_G) (post : Int64 → rc_M → Prop) (a0 : Nat) (k113 : Int64 → Int → rc_M → Prop) (x1 : Int64) (x3 : Int) (I : rc_M) : Prop :=
  rc_R x3 ∧ ((8 ≤ x3 → wX8_more G x1 (I (a0 + 1) 149) I (fun r9 I8 => ∃ n, rX8_checksum_155 G post a0  n r9 0 I8)) ∧ (¬ 8 ≤ x3 → (0 ≤ 141 + x3 ∧ 141 + x3 < 199) ∧ (wX8_more G x1 (I (a0 + 1) (141 + x3)) I (fun r56 I55 => k113 r56 (x3 + 1) I55))))
set_option maxRecDepth 100000 in
set_option maxHeartbeats 4000000 in
theorem gX8_checksum_113 {p : Program} {l : Launch} {e : Env} {s : State} {m : MethodId} {below : List Frame} {meth : Method} {c : Code} {G : rc_G} {a0 : Nat} {I : rc_M} {post : Int64 → rc_M → Prop} {k113 : Int64 → Int → rc_M → Prop} {x1 : Int64} {x3 : Int} (X : rc_X p s m ([.ref a0] : List Value).toArray meth c cX8_checksum 5 wsX8_checksum RX8 G (rc_A G)) (hr : meth.sig.returnType = some .long) (T0 : kX8 G a0) (hk113 : ∀ (x1 : Int64) (x3 : Int) (J : rc_M), k113 x1 x3 J → rc_g p l e rmX8_checksum s m ([.ref a0] : List Value).toArray below meth c 0 0 (MQ below (rc_QL G post) ([.ref a0] : List Value).toArray s 0 0 (rc_A G)) 5 G (rc_A G) 113 [(0, .ref a0), (1, .long x1), (3, .int (rc_o x3))] [] J)  (h : wX8_checksum_113 G post a0 k113 x1 x3 I) : rc_g p l e rmX8_checksum s m ([.ref a0] : List Value).toArray below meth c 0 0 (MQ below (rc_QL G post) ([.ref a0] : List Value).toArray s 0 0 (rc_A G)) 5 G (rc_A G) 113 [(0, .ref a0), (1, .long x1), (3, .int (rc_o x3))] [] I := by
  unfold wX8_checksum_113 at h
  refine rc_iload_n X dX8_checksum_113 rfl 2 rfl ?_
  refine rc_bipush X dX8_checksum_114 (rc_b8 _ ⟨by decide, by decide⟩) ?_
  obtain ⟨c6, h⟩ := h
  refine rc_ic_ge X 140 dX8_checksum_116 (by decide) c6 ⟨by decide, by decide⟩ (fun c7 => ?_) (fun c7 => ?_)
  · have h := h.1 c7
    refine rc_lload_n X dX8_checksum_140 rfl 1 rfl ?_
    refine rc_aload_n X dX8_checksum_141 rfl 0 rfl ?_
    refine gfX8_v X T0.1 nX8_checksum_X8 qX8_checksum_2 dX8_checksum_142 ?_
    refine rc_sipush X dX8_checksum_145 (rc_b16 _ ⟨by decide, by decide⟩) ?_
    refine rc_iald X T0.2.1 (by decide) dX8_checksum_148 ⟨by decide, by decide⟩ ?_
    refine rc_cSL (rest := []) X (mX8_more  h) gX8_checksum_X8_more rfl ⟨rfl, rfl⟩ dyX8_more ⟨Nat.le_of_ble_eq_true rfl, Nat.le_of_ble_eq_true rfl⟩ rfl rfl (Nat.le_of_ble_eq_true rfl) dX8_checksum_149 ⟨Nat.zero_le _, Nat.zero_le _⟩ (fun r9 I8 h => ?_)
    refine rc_lstore_n X [(1, .long r9), (0, .ref a0), (3, .int (rc_o x3))] dX8_checksum_152 rfl (by decide) rfl ?_
    refine rc_iconst X dX8_checksum_153 ?_
    refine rc_istore_n X [(3, .int (rc_o 0)), (1, .long r9), (0, .ref a0)] dX8_checksum_154 rfl (by decide) rfl ?_
    refine rc_subl [(0, .ref a0), (1, .long r9), (3, .int (rc_o 0))] [2, 1, 0] rfl ?_
    obtain ⟨n, h⟩ := h
    exact sX8_checksum_155 X hr T0  h
  · have h := h.2 c7
    refine rc_lload_n X dX8_checksum_119 rfl 1 rfl ?_
    refine rc_aload_n X dX8_checksum_120 rfl 0 rfl ?_
    refine gfX8_v X T0.1 nX8_checksum_X8 qX8_checksum_2 dX8_checksum_121 ?_
    refine rc_sipush X dX8_checksum_124 (rc_b16 _ ⟨by decide, by decide⟩) ?_
    refine rc_iload_n X dX8_checksum_127 rfl 2 rfl ?_
    refine rc_iadd X dX8_checksum_128 ?_
    obtain ⟨c54, h⟩ := h
    refine rc_iald X T0.2.1 (by decide) dX8_checksum_129 c54 ?_
    refine rc_cSL (rest := []) X (mX8_more  h) gX8_checksum_X8_more rfl ⟨rfl, rfl⟩ dyX8_more ⟨Nat.le_of_ble_eq_true rfl, Nat.le_of_ble_eq_true rfl⟩ rfl rfl (Nat.le_of_ble_eq_true rfl) dX8_checksum_130 ⟨Nat.zero_le _, Nat.zero_le _⟩ (fun r56 I55 h => ?_)
    refine rc_lstore_n X [(1, .long r56), (0, .ref a0), (3, .int (rc_o x3))] dX8_checksum_133 rfl (by decide) rfl ?_
    refine rc_iinc X [(3, .int (rc_o (x3 + 1))), (1, .long r56), (0, .ref a0)] dX8_checksum_134 2 rfl (by decide) rfl ?_
    refine rc_goto X 113 dX8_checksum_137 (by decide) ?_
    refine rc_subl [(0, .ref a0), (1, .long r56), (3, .int (rc_o (x3 + 1)))] [2, 1, 0] rfl ?_
    exact hk113 _ _ _ h
noncomputable def rX8_checksum_113 (G : rc_G) (post : Int64 → rc_M → Prop) (a0 : Nat)  (n : Nat) : Int64 → Int → rc_M → Prop :=
  Nat.rec (motive := fun _ => Int64 → Int → rc_M → Prop) (fun _ _ _ => False) (fun _ ih => wX8_checksum_113 G post a0  ih) n
set_option maxRecDepth 100000 in
set_option maxHeartbeats 4000000 in
theorem sX8_checksum_113 {p : Program} {l : Launch} {e : Env} {s : State} {m : MethodId} {below : List Frame} {meth : Method} {c : Code} {G : rc_G} {a0 : Nat} {I : rc_M} {post : Int64 → rc_M → Prop}  {n : Nat} {x1 : Int64} {x3 : Int} (X : rc_X p s m ([.ref a0] : List Value).toArray meth c cX8_checksum 5 wsX8_checksum RX8 G (rc_A G)) (hr : meth.sig.returnType = some .long) (T0 : kX8 G a0)  (h : rX8_checksum_113 G post a0  n x1 x3 I) : rc_g p l e rmX8_checksum s m ([.ref a0] : List Value).toArray below meth c 0 0 (MQ below (rc_QL G post) ([.ref a0] : List Value).toArray s 0 0 (rc_A G)) 5 G (rc_A G) 113 [(0, .ref a0), (1, .long x1), (3, .int (rc_o x3))] [] I := by
  induction n generalizing x1 x3 I with
  | zero => exact h.elim
  | succ n ih => exact gX8_checksum_113 (k113 := rX8_checksum_113 G post a0  n) X hr T0  (fun x1 x3 J h2 => ih h2) h
def wX8_checksum_64 (G : rc_G) (post : Int64 → rc_M → Prop) (a0 : Nat) (k15 : Int64 → Int → rc_M → Prop) (k64 : Int64 → Int → Int → rc_M → Prop) (x1 : Int64) (x3 : Int) (x4 : Int) (I : rc_M) : Prop :=
  wX8_at G x3 1 I (fun r72 I71 => (0 ≤ r72 ∧ r72 < 199) ∧ (rc_R x4 ∧ (rc_R (2 * (I71 (a0 + 1) r72)) ∧ (((2 * (I71 (a0 + 1) r72)) ≤ x4 → k15 x1 (x3 + 1) I71) ∧ (¬ (2 * (I71 (a0 + 1) r72)) ≤ x4 → wX8_at G x3 (2 + x4) I71 (fun r78 I77 => (0 ≤ r78 ∧ r78 < 199) ∧ (wX8_more G x1 (I77 (a0 + 1) r78) I77 (fun r81 I80 => k64 r81 x3 (x4 + 1) I80))))))))
set_option maxRecDepth 100000 in
set_option maxHeartbeats 4000000 in
theorem gX8_checksum_64 {p : Program} {l : Launch} {e : Env} {s : State} {m : MethodId} {below : List Frame} {meth : Method} {c : Code} {G : rc_G} {a0 : Nat} {I : rc_M} {post : Int64 → rc_M → Prop} {k15 : Int64 → Int → rc_M → Prop} {k64 : Int64 → Int → Int → rc_M → Prop} {x1 : Int64} {x3 : Int} {x4 : Int} (X : rc_X p s m ([.ref a0] : List Value).toArray meth c cX8_checksum 5 wsX8_checksum RX8 G (rc_A G)) (hr : meth.sig.returnType = some .long) (T0 : kX8 G a0) (hk15 : ∀ (x1 : Int64) (x3 : Int) (J : rc_M), k15 x1 x3 J → rc_g p l e rmX8_checksum s m ([.ref a0] : List Value).toArray below meth c 0 0 (MQ below (rc_QL G post) ([.ref a0] : List Value).toArray s 0 0 (rc_A G)) 5 G (rc_A G) 15 [(0, .ref a0), (1, .long x1), (3, .int (rc_o x3))] [] J) (hk64 : ∀ (x1 : Int64) (x3 : Int) (x4 : Int) (J : rc_M), k64 x1 x3 x4 J → rc_g p l e rmX8_checksum s m ([.ref a0] : List Value).toArray below meth c 0 0 (MQ below (rc_QL G post) ([.ref a0] : List Value).toArray s 0 0 (rc_A G)) 5 G (rc_A G) 64 [(0, .ref a0), (1, .long x1), (3, .int (rc_o x3)), (4, .int (rc_o x4))] [] J)  (h : wX8_checksum_64 G post a0 k15 k64 x1 x3 x4 I) : rc_g p l e rmX8_checksum s m ([.ref a0] : List Value).toArray below meth c 0 0 (MQ below (rc_QL G post) ([.ref a0] : List Value).toArray s 0 0 (rc_A G)) 5 G (rc_A G) 64 [(0, .ref a0), (1, .long x1), (3, .int (rc_o x3)), (4, .int (rc_o x4))] [] I := by
  unfold wX8_checksum_64 at h
  refine rc_iload X dX8_checksum_64 3 rfl ?_
  refine rc_iconst X dX8_checksum_66 ?_
  refine rc_aload_n X dX8_checksum_67 rfl 0 rfl ?_
  refine gfX8_v X T0.1 nX8_checksum_X8 qX8_checksum_2 dX8_checksum_68 ?_
  refine rc_iload_n X dX8_checksum_71 rfl 2 rfl ?_
  refine rc_iconst X dX8_checksum_72 ?_
  refine rc_cSI (rest := [.ref (a0 + 1), .int (rc_o 2), .int (rc_o x4)]) X (mX8_at  h) gX8_checksum_X8_at rfl ⟨rfl, rfl⟩ dyX8_at ⟨Nat.le_of_ble_eq_true rfl, Nat.le_of_ble_eq_true rfl⟩ rfl rfl (Nat.le_of_ble_eq_true rfl) dX8_checksum_73 ⟨Nat.zero_le _, Nat.zero_le _⟩ (fun r72 I71 h => ?_)
  obtain ⟨c73, h⟩ := h
  refine rc_iald X T0.2.1 (by decide) dX8_checksum_76 c73 ?_
  refine rc_imul X dX8_checksum_77 ?_
  obtain ⟨c74, h⟩ := h
  obtain ⟨c75, h⟩ := h
  refine rc_ic_ge X 105 dX8_checksum_78 (by decide) c74 c75 (fun c76 => ?_) (fun c76 => ?_)
  · have h := h.1 c76
    refine rc_iinc X [(3, .int (rc_o (x3 + 1))), (0, .ref a0), (1, .long x1), (4, .int (rc_o x4))] dX8_checksum_105 2 rfl (by decide) rfl ?_
    refine rc_goto X 15 dX8_checksum_108 (by decide) ?_
    refine rc_subl [(0, .ref a0), (1, .long x1), (3, .int (rc_o (x3 + 1)))] [1, 2, 0] rfl ?_
    exact hk15 _ _ _ h
  · have h := h.2 c76
    refine rc_lload_n X dX8_checksum_81 rfl 1 rfl ?_
    refine rc_aload_n X dX8_checksum_82 rfl 0 rfl ?_
    refine gfX8_v X T0.1 nX8_checksum_X8 qX8_checksum_2 dX8_checksum_83 ?_
    refine rc_iload_n X dX8_checksum_86 rfl 2 rfl ?_
    refine rc_iconst X dX8_checksum_87 ?_
    refine rc_iload X dX8_checksum_88 3 rfl ?_
    refine rc_iadd X dX8_checksum_90 ?_
    refine rc_cSI (rest := [.ref (a0 + 1), .long x1]) X (mX8_at  h) gX8_checksum_X8_at rfl ⟨rfl, rfl⟩ dyX8_at ⟨Nat.le_of_ble_eq_true rfl, Nat.le_of_ble_eq_true rfl⟩ rfl rfl (Nat.le_of_ble_eq_true rfl) dX8_checksum_91 ⟨Nat.zero_le _, Nat.zero_le _⟩ (fun r78 I77 h => ?_)
    obtain ⟨c79, h⟩ := h
    refine rc_iald X T0.2.1 (by decide) dX8_checksum_94 c79 ?_
    refine rc_cSL (rest := []) X (mX8_more  h) gX8_checksum_X8_more rfl ⟨rfl, rfl⟩ dyX8_more ⟨Nat.le_of_ble_eq_true rfl, Nat.le_of_ble_eq_true rfl⟩ rfl rfl (Nat.le_of_ble_eq_true rfl) dX8_checksum_95 ⟨Nat.zero_le _, Nat.zero_le _⟩ (fun r81 I80 h => ?_)
    refine rc_lstore_n X [(1, .long r81), (0, .ref a0), (3, .int (rc_o x3)), (4, .int (rc_o x4))] dX8_checksum_98 rfl (by decide) rfl ?_
    refine rc_iinc X [(4, .int (rc_o (x4 + 1))), (1, .long r81), (0, .ref a0), (3, .int (rc_o x3))] dX8_checksum_99 3 rfl (by decide) rfl ?_
    refine rc_goto X 64 dX8_checksum_102 (by decide) ?_
    refine rc_subl [(0, .ref a0), (1, .long r81), (3, .int (rc_o x3)), (4, .int (rc_o (x4 + 1)))] [2, 1, 3, 0] rfl ?_
    exact hk64 _ _ _ _ h
noncomputable def rX8_checksum_64 (G : rc_G) (post : Int64 → rc_M → Prop) (a0 : Nat) (k15 : Int64 → Int → rc_M → Prop) (n : Nat) : Int64 → Int → Int → rc_M → Prop :=
  Nat.rec (motive := fun _ => Int64 → Int → Int → rc_M → Prop) (fun _ _ _ _ => False) (fun _ ih => wX8_checksum_64 G post a0 k15 ih) n
set_option maxRecDepth 100000 in
set_option maxHeartbeats 4000000 in
theorem sX8_checksum_64 {p : Program} {l : Launch} {e : Env} {s : State} {m : MethodId} {below : List Frame} {meth : Method} {c : Code} {G : rc_G} {a0 : Nat} {I : rc_M} {post : Int64 → rc_M → Prop} {k15 : Int64 → Int → rc_M → Prop} {n : Nat} {x1 : Int64} {x3 : Int} {x4 : Int} (X : rc_X p s m ([.ref a0] : List Value).toArray meth c cX8_checksum 5 wsX8_checksum RX8 G (rc_A G)) (hr : meth.sig.returnType = some .long) (T0 : kX8 G a0) (hk15 : ∀ (x1 : Int64) (x3 : Int) (J : rc_M), k15 x1 x3 J → rc_g p l e rmX8_checksum s m ([.ref a0] : List Value).toArray below meth c 0 0 (MQ below (rc_QL G post) ([.ref a0] : List Value).toArray s 0 0 (rc_A G)) 5 G (rc_A G) 15 [(0, .ref a0), (1, .long x1), (3, .int (rc_o x3))] [] J) (h : rX8_checksum_64 G post a0 k15 n x1 x3 x4 I) : rc_g p l e rmX8_checksum s m ([.ref a0] : List Value).toArray below meth c 0 0 (MQ below (rc_QL G post) ([.ref a0] : List Value).toArray s 0 0 (rc_A G)) 5 G (rc_A G) 64 [(0, .ref a0), (1, .long x1), (3, .int (rc_o x3)), (4, .int (rc_o x4))] [] I := by
  induction n generalizing x1 x3 x4 I with
  | zero => exact h.elim
  | succ n ih => exact gX8_checksum_64 (k64 := rX8_checksum_64 G post a0 k15 n) X hr T0 hk15 (fun x1 x3 x4 J h2 => ih h2) h
def wX8_checksum_15 (G : rc_G) (post : Int64 → rc_M → Prop) (a0 : Nat) (k15 : Int64 → Int → rc_M → Prop) (x1 : Int64) (x3 : Int) (I : rc_M) : Prop :=
  rc_R x3 ∧ (rc_R (I (a0 + 1) 0) ∧ (((I (a0 + 1) 0) ≤ x3 → ∃ n, rX8_checksum_113 G post a0  n x1 0 I) ∧ (¬ (I (a0 + 1) 0) ≤ x3 → wX8_at G x3 0 I (fun r58 I57 => (0 ≤ r58 ∧ r58 < 199) ∧ (wX8_more G x1 (I57 (a0 + 1) r58) I57 (fun r61 I60 => wX8_at G x3 1 I60 (fun r63 I62 => (0 ≤ r63 ∧ r63 < 199) ∧ (wX8_more G r61 (I62 (a0 + 1) r63) I62 (fun r66 I65 => wX8_weakest G a0 x3 I65 (fun r68 I67 => wX8_more G r66 r68 I67 (fun r70 I69 => ∃ n, rX8_checksum_64 G post a0 k15 n r70 x3 0 I69)))))))))))
set_option maxRecDepth 100000 in
set_option maxHeartbeats 4000000 in
theorem gX8_checksum_15 {p : Program} {l : Launch} {e : Env} {s : State} {m : MethodId} {below : List Frame} {meth : Method} {c : Code} {G : rc_G} {a0 : Nat} {I : rc_M} {post : Int64 → rc_M → Prop} {k15 : Int64 → Int → rc_M → Prop} {x1 : Int64} {x3 : Int} (X : rc_X p s m ([.ref a0] : List Value).toArray meth c cX8_checksum 5 wsX8_checksum RX8 G (rc_A G)) (hr : meth.sig.returnType = some .long) (T0 : kX8 G a0) (hk15 : ∀ (x1 : Int64) (x3 : Int) (J : rc_M), k15 x1 x3 J → rc_g p l e rmX8_checksum s m ([.ref a0] : List Value).toArray below meth c 0 0 (MQ below (rc_QL G post) ([.ref a0] : List Value).toArray s 0 0 (rc_A G)) 5 G (rc_A G) 15 [(0, .ref a0), (1, .long x1), (3, .int (rc_o x3))] [] J)  (h : wX8_checksum_15 G post a0 k15 x1 x3 I) : rc_g p l e rmX8_checksum s m ([.ref a0] : List Value).toArray below meth c 0 0 (MQ below (rc_QL G post) ([.ref a0] : List Value).toArray s 0 0 (rc_A G)) 5 G (rc_A G) 15 [(0, .ref a0), (1, .long x1), (3, .int (rc_o x3))] [] I := by
  unfold wX8_checksum_15 at h
  refine rc_iload_n X dX8_checksum_15 rfl 2 rfl ?_
  refine rc_aload_n X dX8_checksum_16 rfl 0 rfl ?_
  refine gfX8_v X T0.1 nX8_checksum_X8 qX8_checksum_2 dX8_checksum_17 ?_
  refine rc_iconst X dX8_checksum_20 ?_
  refine rc_iald X T0.2.1 (by decide) dX8_checksum_21 ⟨by decide, by decide⟩ ?_
  obtain ⟨c3, h⟩ := h
  obtain ⟨c4, h⟩ := h
  refine rc_ic_ge X 111 dX8_checksum_22 (by decide) c3 c4 (fun c5 => ?_) (fun c5 => ?_)
  · have h := h.1 c5
    refine rc_iconst X dX8_checksum_111 ?_
    refine rc_istore_n X [(3, .int (rc_o 0)), (0, .ref a0), (1, .long x1)] dX8_checksum_112 rfl (by decide) rfl ?_
    refine rc_subl [(0, .ref a0), (1, .long x1), (3, .int (rc_o 0))] [1, 2, 0] rfl ?_
    obtain ⟨n, h⟩ := h
    exact sX8_checksum_113 X hr T0  h
  · have h := h.2 c5
    refine rc_lload_n X dX8_checksum_25 rfl 1 rfl ?_
    refine rc_aload_n X dX8_checksum_26 rfl 0 rfl ?_
    refine gfX8_v X T0.1 nX8_checksum_X8 qX8_checksum_2 dX8_checksum_27 ?_
    refine rc_iload_n X dX8_checksum_30 rfl 2 rfl ?_
    refine rc_iconst X dX8_checksum_31 ?_
    refine rc_cSI (rest := [.ref (a0 + 1), .long x1]) X (mX8_at  h) gX8_checksum_X8_at rfl ⟨rfl, rfl⟩ dyX8_at ⟨Nat.le_of_ble_eq_true rfl, Nat.le_of_ble_eq_true rfl⟩ rfl rfl (Nat.le_of_ble_eq_true rfl) dX8_checksum_32 ⟨Nat.zero_le _, Nat.zero_le _⟩ (fun r58 I57 h => ?_)
    obtain ⟨c59, h⟩ := h
    refine rc_iald X T0.2.1 (by decide) dX8_checksum_35 c59 ?_
    refine rc_cSL (rest := []) X (mX8_more  h) gX8_checksum_X8_more rfl ⟨rfl, rfl⟩ dyX8_more ⟨Nat.le_of_ble_eq_true rfl, Nat.le_of_ble_eq_true rfl⟩ rfl rfl (Nat.le_of_ble_eq_true rfl) dX8_checksum_36 ⟨Nat.zero_le _, Nat.zero_le _⟩ (fun r61 I60 h => ?_)
    refine rc_aload_n X dX8_checksum_39 rfl 0 rfl ?_
    refine gfX8_v X T0.1 nX8_checksum_X8 qX8_checksum_2 dX8_checksum_40 ?_
    refine rc_iload_n X dX8_checksum_43 rfl 2 rfl ?_
    refine rc_iconst X dX8_checksum_44 ?_
    refine rc_cSI (rest := [.ref (a0 + 1), .long r61]) X (mX8_at  h) gX8_checksum_X8_at rfl ⟨rfl, rfl⟩ dyX8_at ⟨Nat.le_of_ble_eq_true rfl, Nat.le_of_ble_eq_true rfl⟩ rfl rfl (Nat.le_of_ble_eq_true rfl) dX8_checksum_45 ⟨Nat.zero_le _, Nat.zero_le _⟩ (fun r63 I62 h => ?_)
    obtain ⟨c64, h⟩ := h
    refine rc_iald X T0.2.1 (by decide) dX8_checksum_48 c64 ?_
    refine rc_cSL (rest := []) X (mX8_more  h) gX8_checksum_X8_more rfl ⟨rfl, rfl⟩ dyX8_more ⟨Nat.le_of_ble_eq_true rfl, Nat.le_of_ble_eq_true rfl⟩ rfl rfl (Nat.le_of_ble_eq_true rfl) dX8_checksum_49 ⟨Nat.zero_le _, Nat.zero_le _⟩ (fun r66 I65 h => ?_)
    refine rc_aload_n X dX8_checksum_52 rfl 0 rfl ?_
    refine rc_iload_n X dX8_checksum_53 rfl 2 rfl ?_
    refine rc_cVI (rest := [.long r66]) X (mX8_weakest T0 h) gX8_checksum_X8_weakest rfl ⟨rfl, rfl⟩ dyX8_weakest ⟨Nat.le_of_ble_eq_true rfl, Nat.le_of_ble_eq_true rfl⟩ (rc_recv X T0.1 rfl) rfl rfl (Nat.le_of_ble_eq_true rfl) dX8_checksum_54 ⟨Nat.zero_le _, Nat.zero_le _⟩ (fun r68 I67 h => ?_)
    refine rc_cSL (rest := []) X (mX8_more  h) gX8_checksum_X8_more rfl ⟨rfl, rfl⟩ dyX8_more ⟨Nat.le_of_ble_eq_true rfl, Nat.le_of_ble_eq_true rfl⟩ rfl rfl (Nat.le_of_ble_eq_true rfl) dX8_checksum_57 ⟨Nat.zero_le _, Nat.zero_le _⟩ (fun r70 I69 h => ?_)
    refine rc_lstore_n X [(1, .long r70), (0, .ref a0), (3, .int (rc_o x3))] dX8_checksum_60 rfl (by decide) rfl ?_
    refine rc_iconst X dX8_checksum_61 ?_
    refine rc_istore X [(4, .int (rc_o 0)), (1, .long r70), (0, .ref a0), (3, .int (rc_o x3))] dX8_checksum_62 (by decide) rfl ?_
    refine rc_subl [(0, .ref a0), (1, .long r70), (3, .int (rc_o x3)), (4, .int (rc_o 0))] [2, 1, 3, 0] rfl ?_
    obtain ⟨n, h⟩ := h
    exact sX8_checksum_64 X hr T0 hk15 h
noncomputable def rX8_checksum_15 (G : rc_G) (post : Int64 → rc_M → Prop) (a0 : Nat)  (n : Nat) : Int64 → Int → rc_M → Prop :=
  Nat.rec (motive := fun _ => Int64 → Int → rc_M → Prop) (fun _ _ _ => False) (fun _ ih => wX8_checksum_15 G post a0  ih) n
set_option maxRecDepth 100000 in
set_option maxHeartbeats 4000000 in
theorem sX8_checksum_15 {p : Program} {l : Launch} {e : Env} {s : State} {m : MethodId} {below : List Frame} {meth : Method} {c : Code} {G : rc_G} {a0 : Nat} {I : rc_M} {post : Int64 → rc_M → Prop}  {n : Nat} {x1 : Int64} {x3 : Int} (X : rc_X p s m ([.ref a0] : List Value).toArray meth c cX8_checksum 5 wsX8_checksum RX8 G (rc_A G)) (hr : meth.sig.returnType = some .long) (T0 : kX8 G a0)  (h : rX8_checksum_15 G post a0  n x1 x3 I) : rc_g p l e rmX8_checksum s m ([.ref a0] : List Value).toArray below meth c 0 0 (MQ below (rc_QL G post) ([.ref a0] : List Value).toArray s 0 0 (rc_A G)) 5 G (rc_A G) 15 [(0, .ref a0), (1, .long x1), (3, .int (rc_o x3))] [] I := by
  induction n generalizing x1 x3 I with
  | zero => exact h.elim
  | succ n ih => exact gX8_checksum_15 (k15 := rX8_checksum_15 G post a0  n) X hr T0  (fun x1 x3 J h2 => ih h2) h
def wX8_checksum (G : rc_G) (a0 : Nat) (I : rc_M) (post : Int64 → rc_M → Prop) : Prop :=
  wX8_more G 139 (I (a0 + 1) 0) I (fun r2 I1 => ∃ n, rX8_checksum_15 G post a0  n r2 0 I1)
set_option maxRecDepth 100000 in
set_option maxHeartbeats 4000000 in
theorem gX8_checksum_0 {p : Program} {l : Launch} {e : Env} {s : State} {m : MethodId} {below : List Frame} {meth : Method} {c : Code} {G : rc_G} {a0 : Nat} {I : rc_M} {post : Int64 → rc_M → Prop}  (X : rc_X p s m ([.ref a0] : List Value).toArray meth c cX8_checksum 5 wsX8_checksum RX8 G (rc_A G)) (hr : meth.sig.returnType = some .long) (T0 : kX8 G a0)  (h : wX8_checksum G a0 I post) : rc_g p l e rmX8_checksum s m ([.ref a0] : List Value).toArray below meth c 0 0 (MQ below (rc_QL G post) ([.ref a0] : List Value).toArray s 0 0 (rc_A G)) 5 G (rc_A G) 0 [(0, .ref a0)] [] I := by
  unfold wX8_checksum at h
  refine rc_ldc2 X qX8_checksum_1 dX8_checksum_0 ?_
  refine rc_aload_n X dX8_checksum_3 rfl 0 rfl ?_
  refine gfX8_v X T0.1 nX8_checksum_X8 qX8_checksum_2 dX8_checksum_4 ?_
  refine rc_iconst X dX8_checksum_7 ?_
  refine rc_iald X T0.2.1 (by decide) dX8_checksum_8 ⟨by decide, by decide⟩ ?_
  refine rc_cSL (rest := []) X (mX8_more  h) gX8_checksum_X8_more rfl ⟨rfl, rfl⟩ dyX8_more ⟨Nat.le_of_ble_eq_true rfl, Nat.le_of_ble_eq_true rfl⟩ rfl rfl (Nat.le_of_ble_eq_true rfl) dX8_checksum_9 ⟨Nat.zero_le _, Nat.zero_le _⟩ (fun r2 I1 h => ?_)
  refine rc_lstore_n X [(1, .long r2), (0, .ref a0)] dX8_checksum_12 rfl (by decide) rfl ?_
  refine rc_iconst X dX8_checksum_13 ?_
  refine rc_istore_n X [(3, .int (rc_o 0)), (1, .long r2), (0, .ref a0)] dX8_checksum_14 rfl (by decide) rfl ?_
  refine rc_subl [(0, .ref a0), (1, .long r2), (3, .int (rc_o 0))] [2, 1, 0] rfl ?_
  obtain ⟨n, h⟩ := h
  exact sX8_checksum_15 X hr T0  h
theorem mX8_checksum {l : Launch} {G : rc_G} {a0 : Nat} {I : rc_M} {post : Int64 → rc_M → Prop} (T0 : kX8 G a0) (h : wX8_checksum G a0 I post) : rc_CL l yX8_checksum wsX8_checksum rmX8_checksum G [.ref a0] I post :=
  rc_body (by decide +kernel) rfl rfl (Nat.le_of_ble_eq_true rfl) rfl (fun p e s m below meth c X hr => gX8_checksum_0 X hr T0 h)
