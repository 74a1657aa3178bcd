/-! X7_isWithin -/
abbrev rmX7_isWithin : Room := { frames := 0, cells := 0, slots := 0, locals := 0 }
theorem dyX7_isWithin : yX7_isWithin.cls = RX7 ∧ yX7_isWithin.cls ≠ "java/lang/invoke/MethodHandle" ∧ yX7_isWithin.cls ≠ "java/lang/invoke/VarHandle" ∧ (parseMethodDescriptor yX7_isWithin.desc).map (fun d => d.parameters.length) = some 3 := ⟨rfl, by decide +kernel, by decide +kernel, by decide +kernel⟩
def wX7_isWithin (G : rc_G) (a0 : Int) (a1 : Int) (a2 : Int) (I : rc_M) (post : Int → rc_M → Prop) : Prop :=
  rc_R a0 ∧ (rc_R a1 ∧ ((a0 < a1 → post 0 I) ∧ (¬ a0 < a1 → rc_R a0 ∧ (rc_R a2 ∧ ((a2 < a0 → post 0 I) ∧ (¬ a2 < a0 → post 1 I))))))
set_option maxRecDepth 100000 in
set_option maxHeartbeats 4000000 in
theorem gX7_isWithin_0 {p : Program} {l : Launch} {e : Env} {s : State} {m : MethodId} {below : List Frame} {meth : Method} {c : Code} {G : rc_G} {a0 : Int} {a1 : Int} {a2 : Int} {I : rc_M} {post : Int → rc_M → Prop}  (X : rc_X p s m ([.int (rc_o a0), .int (rc_o a1), .int (rc_o a2)] : List Value).toArray meth c cX7_isWithin 3 wsX7_isWithin RX7 G (rc_A G)) (hr : meth.sig.returnType = some .boolean)   (h : wX7_isWithin G a0 a1 a2 I post) : rc_g p l e rmX7_isWithin s m ([.int (rc_o a0), .int (rc_o a1), .int (rc_o a2)] : List Value).toArray below meth c 0 0 (MQ below (rc_QI G post) ([.int (rc_o a0), .int (rc_o a1), .int (rc_o a2)] : List Value).toArray s 0 0 (rc_A G)) 3 G (rc_A G) 0 [(0, .int (rc_o a0)), (1, .int (rc_o a1)), (2, .int (rc_o a2))] [] I := by
  unfold wX7_isWithin at h
  refine rc_iload_n X dX7_isWithin_0 rfl 0 rfl ?_
  refine rc_iload_n X dX7_isWithin_1 rfl 1 rfl ?_
  obtain ⟨c1, h⟩ := h
  obtain ⟨c2, h⟩ := h
  refine rc_ic_lt X 14 dX7_isWithin_2 (by decide) c1 c2 (fun c3 => ?_) (fun c3 => ?_)
  · have h := h.1 c3
    refine rc_iconst X dX7_isWithin_14 ?_
    exact rc_zret X hr dX7_isWithin_15 (Or.inl rfl) h
  · have h := h.2 c3
    refine rc_iload_n X dX7_isWithin_5 rfl 0 rfl ?_
    refine rc_iload_n X dX7_isWithin_6 rfl 2 rfl ?_
    obtain ⟨c4, h⟩ := h
    obtain ⟨c5, h⟩ := h
    refine rc_ic_gt X 14 dX7_isWithin_7 (by decide) c4 c5 (fun c6 => ?_) (fun c6 => ?_)
    · have h := h.1 c6
      refine rc_iconst X dX7_isWithin_14 ?_
      exact rc_zret X hr dX7_isWithin_15 (Or.inl rfl) h
    · have h := h.2 c6
      refine rc_iconst X dX7_isWithin_10 ?_
      refine rc_goto X 15 dX7_isWithin_11 (by decide) ?_
      exact rc_zret X hr dX7_isWithin_15 (Or.inr rfl) h
theorem mX7_isWithin {l : Launch} {G : rc_G} {a0 : Int} {a1 : Int} {a2 : Int} {I : rc_M} {post : Int → rc_M → Prop}  (h : wX7_isWithin G a0 a1 a2 I post) : rc_CI l yX7_isWithin wsX7_isWithin rmX7_isWithin G [.int (rc_o a0), .int (rc_o a1), .int (rc_o a2)] I post :=
  rc_body (by decide +kernel) rfl rfl (Nat.le_of_ble_eq_true rfl) rfl (fun p e s m below meth c X hr => gX7_isWithin_0 X hr  h)
/-! X7_makeReel -/
abbrev rmX7_makeReel : Room := { frames := 2, cells := 0, slots := 0, locals := 44 }
theorem dyX7_makeReel : yX7_makeReel.cls = RX7 ∧ yX7_makeReel.cls ≠ "java/lang/invoke/MethodHandle" ∧ yX7_makeReel.cls ≠ "java/lang/invoke/VarHandle" ∧ (parseMethodDescriptor yX7_makeReel.desc).map (fun d => d.parameters.length) = some 1 := ⟨rfl, by decide +kernel, by decide +kernel, by decide +kernel⟩
theorem qX7_makeReel_2 : Cond.fieldLink RX7 10 "ReelChanger" "room" "LReelChanger$Room;" ∈ wsX7_makeReel := List.mem_of_getElem? (i := 2) (by decide +kernel)
theorem nX7_makeReel_X7 : ∀ w ∈ wsX70, w ∈ wsX7_makeReel := fun w h => List.mem_cons_of_mem _ (List.mem_append_left _ (List.mem_append_left _ (List.mem_append_left _ (List.mem_append_right _ (h)))))
theorem qX7_makeReel_3 : Cond.fieldLink RX7 35 "ReelChanger$Room" "stock" "LReelChanger$Stock;" ∈ wsX7_makeReel := List.mem_of_getElem? (i := 3) (by decide +kernel)
theorem nX7_makeReel_X4 : ∀ w ∈ wsX40, w ∈ wsX7_makeReel := fun w h => List.mem_cons_of_mem _ (List.mem_append_left _ (List.mem_append_left _ (List.mem_append_right _ (h))))
theorem qX7_makeReel_1 : Cond.constant RX7 34 (-100002) ∈ wsX7_makeReel := List.mem_of_getElem? (i := 1) (by decide +kernel)
def wX7_makeReel (G : rc_G) (a0 : Nat) (a1 : Int) (I : rc_M) (post : Int → rc_M → Prop) : Prop :=
  wX7_isWithin G a1 100 3000 I (fun r2 I1 => rc_R r2 ∧ ((¬ r2 = 0 → wX6_addReel G (a0 + 1 + 1) a1 I1 (fun r6 I5 => post r6 I5)) ∧ (r2 = 0 → post (-100002) I1)))
set_option maxRecDepth 100000 in
set_option maxHeartbeats 4000000 in
theorem gX7_makeReel_0 {p : Program} {l : Launch} {e : Env} {s : State} {m : MethodId} {below : List Frame} {meth : Method} {c : Code} {G : rc_G} {a0 : Nat} {a1 : Int} {I : rc_M} {post : Int → rc_M → Prop}  (X : rc_X p s m ([.ref a0, .int (rc_o a1)] : List Value).toArray meth c cX7_makeReel 2 wsX7_makeReel RX7 G (rc_A G)) (hr : meth.sig.returnType = some .int) (T0 : kX7 G a0)  (h : wX7_makeReel G a0 a1 I post) : rc_g p l e rmX7_makeReel s m ([.ref a0, .int (rc_o a1)] : List Value).toArray below meth c 0 0 (MQ below (rc_QI G post) ([.ref a0, .int (rc_o a1)] : List Value).toArray s 0 0 (rc_A G)) 2 G (rc_A G) 0 [(0, .ref a0), (1, .int (rc_o a1))] [] I := by
  unfold wX7_makeReel at h
  refine rc_iload_n X dX7_makeReel_0 rfl 1 rfl ?_
  refine rc_bipush X dX7_makeReel_1 (rc_b8 _ ⟨by decide, by decide⟩) ?_
  refine rc_sipush X dX7_makeReel_3 (rc_b16 _ ⟨by decide, by decide⟩) ?_
  refine rc_cSI (rest := []) X (mX7_isWithin  h) gX7_makeReel_X7_isWithin rfl ⟨rfl, rfl⟩ dyX7_isWithin ⟨Nat.le_of_ble_eq_true rfl, Nat.le_of_ble_eq_true rfl⟩ rfl rfl (Nat.le_of_ble_eq_true rfl) dX7_makeReel_6 ⟨Nat.zero_le _, Nat.zero_le _⟩ (fun r2 I1 h => ?_)
  obtain ⟨c3, h⟩ := h
  refine rc_if_ne X 15 dX7_makeReel_9 (by decide) c3 (fun c4 => ?_) (fun c4 => ?_)
  · have h := h.1 c4
    refine rc_aload_n X dX7_makeReel_15 rfl 0 rfl ?_
    refine gfX7_room X T0.1 nX7_makeReel_X7 qX7_makeReel_2 dX7_makeReel_16 ?_
    refine gfX4_stock X T0.2.1.1 nX7_makeReel_X4 qX7_makeReel_3 dX7_makeReel_19 ?_
    refine rc_iload_n X dX7_makeReel_22 rfl 1 rfl ?_
    refine rc_cVI (rest := []) X (mX6_addReel T0.2.1.2.1 h) gX7_makeReel_X6_addReel rfl ⟨rfl, rfl⟩ dyX6_addReel ⟨Nat.le_of_ble_eq_true rfl, Nat.le_of_ble_eq_true rfl⟩ (rc_recv X T0.2.1.2.1.1 rfl) rfl rfl (Nat.le_of_ble_eq_true rfl) dX7_makeReel_23 ⟨Nat.zero_le _, Nat.zero_le _⟩ (fun r6 I5 h => ?_)
    exact rc_iret X hr dX7_makeReel_26 h
  · have h := h.2 c4
    refine rc_ldc (n := (-100002)) X qX7_makeReel_1 (by decide +kernel) dX7_makeReel_12 ?_
    exact rc_iret X hr dX7_makeReel_14 h
theorem mX7_makeReel {l : Launch} {G : rc_G} {a0 : Nat} {a1 : Int} {I : rc_M} {post : Int → rc_M → Prop} (T0 : kX7 G a0) (h : wX7_makeReel G a0 a1 I post) : rc_CI l yX7_makeReel wsX7_makeReel rmX7_makeReel G [.ref a0, .int (rc_o a1)] I post :=
  rc_body (by decide +kernel) rfl rfl (Nat.le_of_ble_eq_true rfl) rfl (fun p e s m below meth c X hr => gX7_makeReel_0 X hr T0 h)
/-! X7_splice -/
abbrev rmX7_splice : Room := { frames := 2, cells := 0, slots := 0, locals := 46 }
theorem dyX7_splice : yX7_splice.cls = RX7 ∧ yX7_splice.cls ≠ "java/lang/invoke/MethodHandle" ∧ yX7_splice.cls ≠ "java/lang/invoke/VarHandle" ∧ (parseMethodDescriptor yX7_splice.desc).map (fun d => d.parameters.length) = some 3 := ⟨rfl, by decide +kernel, by decide +kernel, by decide +kernel⟩
theorem qX7_splice_1 : Cond.fieldLink RX7 10 "ReelChanger" "room" "LReelChanger$Room;" ∈ wsX7_splice := List.mem_of_getElem? (i := 1) (by decide +kernel)
theorem nX7_splice_X7 : ∀ w ∈ wsX70, w ∈ wsX7_splice := fun w h => List.mem_cons_of_mem _ (List.mem_append_left _ (List.mem_append_left _ (List.mem_append_left _ (List.mem_append_right _ (h)))))
theorem qX7_splice_2 : Cond.fieldLink RX7 35 "ReelChanger$Room" "stock" "LReelChanger$Stock;" ∈ wsX7_splice := List.mem_of_getElem? (i := 2) (by decide +kernel)
theorem nX7_splice_X4 : ∀ w ∈ wsX40, w ∈ wsX7_splice := fun w h => List.mem_cons_of_mem _ (List.mem_append_left _ (List.mem_append_left _ (List.mem_append_right _ (h))))
theorem qX7_splice_3 : Cond.constant RX7 49 (-100001) ∈ wsX7_splice := List.mem_of_getElem? (i := 3) (by decide +kernel)
theorem qX7_splice_4 : Cond.fieldLink RX7 50 "ReelChanger$Reel" "length" "I" ∈ wsX7_splice := List.mem_of_getElem? (i := 4) (by decide +kernel)
theorem nX7_splice_X3 : ∀ w ∈ wsX30, w ∈ wsX7_splice := fun w h => List.mem_cons_of_mem _ (List.mem_append_left _ (List.mem_append_right _ (h)))
theorem qX7_splice_5 : Cond.constant RX7 34 (-100002) ∈ wsX7_splice := List.mem_of_getElem? (i := 5) (by decide +kernel)
def wX7_splice (G : rc_G) (a0 : Nat) (a1 : Int) (a2 : Int) (a3 : Int) (I : rc_M) (post : Int → rc_M → Prop) : Prop :=
  wX6_reelNumbered G (a0 + 1 + 1) a1 I (fun r2 I1 => (r2 = none → post (-100001) I1) ∧ (∀ q3, r2 = some q3 → kX3 G q3 ∧ (wX7_isWithin G a2 1 ((I1 q3 0) - 1) I1 (fun r5 I4 => rc_R r5 ∧ ((r5 = 0 → post (-100002) I4) ∧ (¬ r5 = 0 → wX7_isWithin G a3 1 9 I4 (fun r9 I8 => rc_R r9 ∧ ((¬ r9 = 0 → wX3_join G q3 a2 a3 I8 (fun r13 I12 => post r13 I12)) ∧ (r9 = 0 → post (-100002) I8)))))))))
set_option maxRecDepth 100000 in
set_option maxHeartbeats 4000000 in
theorem gX7_splice_0 {p : Program} {l : Launch} {e : Env} {s : State} {m : MethodId} {below : List Frame} {meth : Method} {c : Code} {G : rc_G} {a0 : Nat} {a1 : Int} {a2 : Int} {a3 : Int} {I : rc_M} {post : Int → rc_M → Prop}  (X : rc_X p s m ([.ref a0, .int (rc_o a1), .int (rc_o a2), .int (rc_o a3)] : List Value).toArray meth c cX7_splice 5 wsX7_splice RX7 G (rc_A G)) (hr : meth.sig.returnType = some .int) (T0 : kX7 G a0)  (h : wX7_splice G a0 a1 a2 a3 I post) : rc_g p l e rmX7_splice s m ([.ref a0, .int (rc_o a1), .int (rc_o a2), .int (rc_o a3)] : List Value).toArray below meth c 0 0 (MQ below (rc_QI G post) ([.ref a0, .int (rc_o a1), .int (rc_o a2), .int (rc_o a3)] : List Value).toArray s 0 0 (rc_A G)) 5 G (rc_A G) 0 [(0, .ref a0), (1, .int (rc_o a1)), (2, .int (rc_o a2)), (3, .int (rc_o a3))] [] I := by
  unfold wX7_splice at h
  refine rc_aload_n X dX7_splice_0 rfl 0 rfl ?_
  refine gfX7_room X T0.1 nX7_splice_X7 qX7_splice_1 dX7_splice_1 ?_
  refine gfX4_stock X T0.2.1.1 nX7_splice_X4 qX7_splice_2 dX7_splice_4 ?_
  refine rc_iload_n X dX7_splice_7 rfl 1 rfl ?_
  refine rc_cVQ (rest := []) X (mX6_reelNumbered T0.2.1.2.1 h) gX7_splice_X6_reelNumbered rfl ⟨rfl, rfl⟩ dyX6_reelNumbered ⟨Nat.le_of_ble_eq_true rfl, Nat.le_of_ble_eq_true rfl⟩ (rc_recv X T0.2.1.2.1.1 rfl) rfl rfl (Nat.le_of_ble_eq_true rfl) dX7_splice_8 ⟨Nat.zero_le _, Nat.zero_le _⟩ (fun r2 I1 h => ?_)
  rcases r2 with _ | q3
  · have h := h.1 rfl
    refine rc_qn ?_
    refine rc_astoreN X [(4, .null), (0, .ref a0), (1, .int (rc_o a1)), (2, .int (rc_o a2)), (3, .int (rc_o a3))] dX7_splice_11 (by decide) rfl ?_
    refine rc_aloadN X dX7_splice_13 0 rfl ?_
    refine rc_nnN X dX7_splice_15 ?_
    refine rc_ldc (n := (-100001)) X qX7_splice_3 (by decide +kernel) dX7_splice_18 ?_
    exact rc_iret X hr dX7_splice_20 h
  · obtain ⟨Tq3, h⟩ := h.2 q3 rfl
    refine rc_qs ?_
    refine rc_astore X [(4, .ref q3), (0, .ref a0), (1, .int (rc_o a1)), (2, .int (rc_o a2)), (3, .int (rc_o a3))] dX7_splice_11 (by decide) rfl ?_
    refine rc_aload X dX7_splice_13 0 rfl ?_
    refine rc_nn X 21 dX7_splice_15 (by decide) ?_
    refine rc_iload_n X dX7_splice_21 rfl 3 rfl ?_
    refine rc_iconst X dX7_splice_22 ?_
    refine rc_aload X dX7_splice_23 0 rfl ?_
    refine gfX3_length X Tq3.1 nX7_splice_X3 qX7_splice_4 dX7_splice_25 ?_
    refine rc_iconst X dX7_splice_28 ?_
    refine rc_isub X dX7_splice_29 ?_
    refine rc_cSI (rest := []) X (mX7_isWithin  h) gX7_splice_X7_isWithin rfl ⟨rfl, rfl⟩ dyX7_isWithin ⟨Nat.le_of_ble_eq_true rfl, Nat.le_of_ble_eq_true rfl⟩ rfl rfl (Nat.le_of_ble_eq_true rfl) dX7_splice_30 ⟨Nat.zero_le _, Nat.zero_le _⟩ (fun r5 I4 h => ?_)
    obtain ⟨c6, h⟩ := h
    refine rc_if_eq X 46 dX7_splice_33 (by decide) c6 (fun c7 => ?_) (fun c7 => ?_)
    · have h := h.1 c7
      refine rc_ldc (n := (-100002)) X qX7_splice_5 (by decide +kernel) dX7_splice_46 ?_
      exact rc_iret X hr dX7_splice_48 h
    · have h := h.2 c7
      refine rc_iload_n X dX7_splice_36 rfl 4 rfl ?_
      refine rc_iconst X dX7_splice_37 ?_
      refine rc_bipush X dX7_splice_38 (rc_b8 _ ⟨by decide, by decide⟩) ?_
      refine rc_cSI (rest := []) X (mX7_isWithin  h) gX7_splice_X7_isWithin rfl ⟨rfl, rfl⟩ dyX7_isWithin ⟨Nat.le_of_ble_eq_true rfl, Nat.le_of_ble_eq_true rfl⟩ rfl rfl (Nat.le_of_ble_eq_true rfl) dX7_splice_40 ⟨Nat.zero_le _, Nat.zero_le _⟩ (fun r9 I8 h => ?_)
      obtain ⟨c10, h⟩ := h
      refine rc_if_ne X 49 dX7_splice_43 (by decide) c10 (fun c11 => ?_) (fun c11 => ?_)
      · have h := h.1 c11
        refine rc_aload X dX7_splice_49 0 rfl ?_
        refine rc_iload_n X dX7_splice_51 rfl 3 rfl ?_
        refine rc_iload_n X dX7_splice_52 rfl 4 rfl ?_
        refine rc_cVI (rest := []) X (mX3_join Tq3 h) gX7_splice_X3_join rfl ⟨rfl, rfl⟩ dyX3_join ⟨Nat.le_of_ble_eq_true rfl, Nat.le_of_ble_eq_true rfl⟩ (rc_recv X Tq3.1 rfl) rfl rfl (Nat.le_of_ble_eq_true rfl) dX7_splice_53 ⟨Nat.zero_le _, Nat.zero_le _⟩ (fun r13 I12 h => ?_)
        exact rc_iret X hr dX7_splice_56 h
      · have h := h.2 c11
        refine rc_ldc (n := (-100002)) X qX7_splice_5 (by decide +kernel) dX7_splice_46 ?_
        exact rc_iret X hr dX7_splice_48 h
theorem mX7_splice {l : Launch} {G : rc_G} {a0 : Nat} {a1 : Int} {a2 : Int} {a3 : Int} {I : rc_M} {post : Int → rc_M → Prop} (T0 : kX7 G a0) (h : wX7_splice G a0 a1 a2 a3 I post) : rc_CI l yX7_splice wsX7_splice rmX7_splice G [.ref a0, .int (rc_o a1), .int (rc_o a2), .int (rc_o a3)] I post :=
  rc_body (by decide +kernel) rfl rfl (Nat.le_of_ble_eq_true rfl) rfl (fun p e s m below meth c X hr => gX7_splice_0 X hr T0 h)
/-! X7_mend -/
abbrev rmX7_mend : Room := { frames := 1, cells := 0, slots := 0, locals := 24 }
theorem dyX7_mend : yX7_mend.cls = RX7 ∧ yX7_mend.cls ≠ "java/lang/invoke/MethodHandle" ∧ yX7_mend.cls ≠ "java/lang/invoke/VarHandle" ∧ (parseMethodDescriptor yX7_mend.desc).map (fun d => d.parameters.length) = some 2 := ⟨rfl, by decide +kernel, by decide +kernel, by decide +kernel⟩
theorem qX7_mend_1 : Cond.fieldLink RX7 10 "ReelChanger" "room" "LReelChanger$Room;" ∈ wsX7_mend := List.mem_of_getElem? (i := 1) (by decide +kernel)
theorem nX7_mend_X7 : ∀ w ∈ wsX70, w ∈ wsX7_mend := fun w h => List.mem_cons_of_mem _ (List.mem_append_left _ (List.mem_append_left _ (List.mem_append_left _ (List.mem_append_right _ (h)))))
theorem qX7_mend_2 : Cond.fieldLink RX7 35 "ReelChanger$Room" "stock" "LReelChanger$Stock;" ∈ wsX7_mend := List.mem_of_getElem? (i := 2) (by decide +kernel)
theorem nX7_mend_X4 : ∀ w ∈ wsX40, w ∈ wsX7_mend := fun w h => List.mem_cons_of_mem _ (List.mem_append_left _ (List.mem_append_left _ (List.mem_append_right _ (h))))
theorem qX7_mend_3 : Cond.constant RX7 49 (-100001) ∈ wsX7_mend := List.mem_of_getElem? (i := 3) (by decide +kernel)
theorem qX7_mend_4 : Cond.constant RX7 34 (-100002) ∈ wsX7_mend := List.mem_of_getElem? (i := 4) (by decide +kernel)
def wX7_mend (G : rc_G) (a0 : Nat) (a1 : Int) (a2 : Int) (I : rc_M) (post : Int → rc_M → Prop) : Prop :=
  wX6_reelNumbered G (a0 + 1 + 1) a1 I (fun r2 I1 => (r2 = none → post (-100001) I1) ∧ (∀ q3, r2 = some q3 → kX3 G q3 ∧ (wX7_isWithin G a2 1 10 I1 (fun r5 I4 => rc_R r5 ∧ ((¬ r5 = 0 → wX3_removeWeaker G q3 a2 I4 (fun r9 I8 => post r9 I8)) ∧ (r5 = 0 → post (-100002) I4))))))
set_option maxRecDepth 100000 in
set_option maxHeartbeats 4000000 in
theorem gX7_mend_0 {p : Program} {l : Launch} {e : Env} {s : State} {m : MethodId} {below : List Frame} {meth : Method} {c : Code} {G : rc_G} {a0 : Nat} {a1 : Int} {a2 : Int} {I : rc_M} {post : Int → rc_M → Prop}  (X : rc_X p s m ([.ref a0, .int (rc_o a1), .int (rc_o a2)] : List Value).toArray meth c cX7_mend 4 wsX7_mend RX7 G (rc_A G)) (hr : meth.sig.returnType = some .int) (T0 : kX7 G a0)  (h : wX7_mend G a0 a1 a2 I post) : rc_g p l e rmX7_mend s m ([.ref a0, .int (rc_o a1), .int (rc_o a2)] : List Value).toArray below meth c 0 0 (MQ below (rc_QI G post) ([.ref a0, .int (rc_o a1), .int (rc_o a2)] : List Value).toArray s 0 0 (rc_A G)) 4 G (rc_A G) 0 [(0, .ref a0), (1, .int (rc_o a1)), (2, .int (rc_o a2))] [] I := by
  unfold wX7_mend at h
  refine rc_aload_n X dX7_mend_0 rfl 0 rfl ?_
  refine gfX7_room X T0.1 nX7_mend_X7 qX7_mend_1 dX7_mend_1 ?_
  refine gfX4_stock X T0.2.1.1 nX7_mend_X4 qX7_mend_2 dX7_mend_4 ?_
  refine rc_iload_n X dX7_mend_7 rfl 1 rfl ?_
  refine rc_cVQ (rest := []) X (mX6_reelNumbered T0.2.1.2.1 h) gX7_mend_X6_reelNumbered rfl ⟨rfl, rfl⟩ dyX6_reelNumbered ⟨Nat.le_of_ble_eq_true rfl, Nat.le_of_ble_eq_true rfl⟩ (rc_recv X T0.2.1.2.1.1 rfl) rfl rfl (Nat.le_of_ble_eq_true rfl) dX7_mend_8 ⟨Nat.zero_le _, Nat.zero_le _⟩ (fun r2 I1 h => ?_)
  rcases r2 with _ | q3
  · have h := h.1 rfl
    refine rc_qn ?_
    refine rc_astore_nN X [(3, .null), (0, .ref a0), (1, .int (rc_o a1)), (2, .int (rc_o a2))] dX7_mend_11 rfl (by decide) rfl ?_
    refine rc_aload_nN X dX7_mend_12 rfl 0 rfl ?_
    refine rc_nnN X dX7_mend_13 ?_
    refine rc_ldc (n := (-100001)) X qX7_mend_3 (by decide +kernel) dX7_mend_16 ?_
    exact rc_iret X hr dX7_mend_18 h
  · obtain ⟨Tq3, h⟩ := h.2 q3 rfl
    refine rc_qs ?_
    refine rc_astore_n X [(3, .ref q3), (0, .ref a0), (1, .int (rc_o a1)), (2, .int (rc_o a2))] dX7_mend_11 rfl (by decide) rfl ?_
    refine rc_aload_n X dX7_mend_12 rfl 0 rfl ?_
    refine rc_nn X 19 dX7_mend_13 (by decide) ?_
    refine rc_iload_n X dX7_mend_19 rfl 3 rfl ?_
    refine rc_iconst X dX7_mend_20 ?_
    refine rc_bipush X dX7_mend_21 (rc_b8 _ ⟨by decide, by decide⟩) ?_
    refine rc_cSI (rest := []) X (mX7_isWithin  h) gX7_mend_X7_isWithin rfl ⟨rfl, rfl⟩ dyX7_isWithin ⟨Nat.le_of_ble_eq_true rfl, Nat.le_of_ble_eq_true rfl⟩ rfl rfl (Nat.le_of_ble_eq_true rfl) dX7_mend_23 ⟨Nat.zero_le _, Nat.zero_le _⟩ (fun r5 I4 h => ?_)
    obtain ⟨c6, h⟩ := h
    refine rc_if_ne X 32 dX7_mend_26 (by decide) c6 (fun c7 => ?_) (fun c7 => ?_)
    · have h := h.1 c7
      refine rc_aload_n X dX7_mend_32 rfl 0 rfl ?_
      refine rc_iload_n X dX7_mend_33 rfl 3 rfl ?_
      refine rc_cVI (rest := []) X (mX3_removeWeaker Tq3 h) gX7_mend_X3_removeWeaker rfl ⟨rfl, rfl⟩ dyX3_removeWeaker ⟨Nat.le_of_ble_eq_true rfl, Nat.le_of_ble_eq_true rfl⟩ (rc_recv X Tq3.1 rfl) rfl rfl (Nat.le_of_ble_eq_true rfl) dX7_mend_34 ⟨Nat.zero_le _, Nat.zero_le _⟩ (fun r9 I8 h => ?_)
      exact rc_iret X hr dX7_mend_37 h
    · have h := h.2 c7
      refine rc_ldc (n := (-100002)) X qX7_mend_4 (by decide +kernel) dX7_mend_29 ?_
      exact rc_iret X hr dX7_mend_31 h
theorem mX7_mend {l : Launch} {G : rc_G} {a0 : Nat} {a1 : Int} {a2 : Int} {I : rc_M} {post : Int → rc_M → Prop} (T0 : kX7 G a0) (h : wX7_mend G a0 a1 a2 I post) : rc_CI l yX7_mend wsX7_mend rmX7_mend G [.ref a0, .int (rc_o a1), .int (rc_o a2)] I post :=
  rc_body (by decide +kernel) rfl rfl (Nat.le_of_ble_eq_true rfl) rfl (fun p e s m below meth c X hr => gX7_mend_0 X hr T0 h)
/-! X7_reel -/
abbrev rmX7_reel : Room := { frames := 1, cells := 0, slots := 0, locals := 22 }
theorem dyX7_reel : yX7_reel.cls = RX7 ∧ yX7_reel.cls ≠ "java/lang/invoke/MethodHandle" ∧ yX7_reel.cls ≠ "java/lang/invoke/VarHandle" ∧ (parseMethodDescriptor yX7_reel.desc).map (fun d => d.parameters.length) = some 2 := ⟨rfl, by decide +kernel, by decide +kernel, by decide +kernel⟩
theorem qX7_reel_1 : Cond.fieldLink RX7 10 "ReelChanger" "room" "LReelChanger$Room;" ∈ wsX7_reel := List.mem_of_getElem? (i := 1) (by decide +kernel)
theorem nX7_reel_X7 : ∀ w ∈ wsX70, w ∈ wsX7_reel := fun w h => List.mem_cons_of_mem _ (List.mem_append_left _ (List.mem_append_left _ (List.mem_append_left _ (List.mem_append_right _ (h)))))
theorem qX7_reel_2 : Cond.fieldLink RX7 35 "ReelChanger$Room" "stock" "LReelChanger$Stock;" ∈ wsX7_reel := List.mem_of_getElem? (i := 2) (by decide +kernel)
theorem nX7_reel_X4 : ∀ w ∈ wsX40, w ∈ wsX7_reel := fun w h => List.mem_cons_of_mem _ (List.mem_append_left _ (List.mem_append_left _ (List.mem_append_right _ (h))))
theorem qX7_reel_3 : Cond.constant RX7 49 (-100001) ∈ wsX7_reel := List.mem_of_getElem? (i := 3) (by decide +kernel)
theorem qX7_reel_4 : Cond.fieldLink RX7 50 "ReelChanger$Reel" "length" "I" ∈ wsX7_reel := List.mem_of_getElem? (i := 4) (by decide +kernel)
theorem nX7_reel_X3 : ∀ w ∈ wsX30, w ∈ wsX7_reel := fun w h => List.mem_cons_of_mem _ (List.mem_append_left _ (List.mem_append_right _ (h)))
theorem qX7_reel_5 : Cond.fieldLink RX7 63 "ReelChanger$Reel" "spliceCount" "I" ∈ wsX7_reel := List.mem_of_getElem? (i := 5) (by decide +kernel)
theorem qX7_reel_6 : Cond.constant RX7 34 (-100002) ∈ wsX7_reel := List.mem_of_getElem? (i := 6) (by decide +kernel)
def wX7_reel (G : rc_G) (a0 : Nat) (a1 : Int) (a2 : Int) (I : rc_M) (post : Int → rc_M → Prop) : Prop :=
  wX6_reelNumbered G (a0 + 1 + 1) a1 I (fun r2 I1 => (r2 = none → post (-100001) I1) ∧ (∀ q3, r2 = some q3 → kX3 G q3 ∧ (rc_R a2 ∧ ((a2 = 0 → post (I1 q3 0) I1) ∧ (a2 = 1 → post (I1 q3 1) I1) ∧ (a2 = 2 → wX3_leastStrength G q3 I1 (fun r6 I5 => post r6 I5)) ∧ ((a2 < 0 ∨ 2 < a2) → post (-100002) I1)))))
set_option maxRecDepth 100000 in
set_option maxHeartbeats 4000000 in
theorem gX7_reel_0 {p : Program} {l : Launch} {e : Env} {s : State} {m : MethodId} {below : List Frame} {meth : Method} {c : Code} {G : rc_G} {a0 : Nat} {a1 : Int} {a2 : Int} {I : rc_M} {post : Int → rc_M → Prop}  (X : rc_X p s m ([.ref a0, .int (rc_o a1), .int (rc_o a2)] : List Value).toArray meth c cX7_reel 4 wsX7_reel RX7 G (rc_A G)) (hr : meth.sig.returnType = some .int) (T0 : kX7 G a0)  (h : wX7_reel G a0 a1 a2 I post) : rc_g p l e rmX7_reel s m ([.ref a0, .int (rc_o a1), .int (rc_o a2)] : List Value).toArray below meth c 0 0 (MQ below (rc_QI G post) ([.ref a0, .int (rc_o a1), .int (rc_o a2)] : List Value).toArray s 0 0 (rc_A G)) 4 G (rc_A G) 0 [(0, .ref a0), (1, .int (rc_o a1)), (2, .int (rc_o a2))] [] I := by
  unfold wX7_reel at h
  refine rc_aload_n X dX7_reel_0 rfl 0 rfl ?_
  refine gfX7_room X T0.1 nX7_reel_X7 qX7_reel_1 dX7_reel_1 ?_
  refine gfX4_stock X T0.2.1.1 nX7_reel_X4 qX7_reel_2 dX7_reel_4 ?_
  refine rc_iload_n X dX7_reel_7 rfl 1 rfl ?_
  refine rc_cVQ (rest := []) X (mX6_reelNumbered T0.2.1.2.1 h) gX7_reel_X6_reelNumbered rfl ⟨rfl, rfl⟩ dyX6_reelNumbered ⟨Nat.le_of_ble_eq_true rfl, Nat.le_of_ble_eq_true rfl⟩ (rc_recv X T0.2.1.2.1.1 rfl) rfl rfl (Nat.le_of_ble_eq_true rfl) dX7_reel_8 ⟨Nat.zero_le _, Nat.zero_le _⟩ (fun r2 I1 h => ?_)
  rcases r2 with _ | q3
  · have h := h.1 rfl
    refine rc_qn ?_
    refine rc_astore_nN X [(3, .null), (0, .ref a0), (1, .int (rc_o a1)), (2, .int (rc_o a2))] dX7_reel_11 rfl (by decide) rfl ?_
    refine rc_aload_nN X dX7_reel_12 rfl 0 rfl ?_
    refine rc_nnN X dX7_reel_13 ?_
    refine rc_ldc (n := (-100001)) X qX7_reel_3 (by decide +kernel) dX7_reel_16 ?_
    exact rc_iret X hr dX7_reel_18 h
  · obtain ⟨Tq3, h⟩ := h.2 q3 rfl
    refine rc_qs ?_
    refine rc_astore_n X [(3, .ref q3), (0, .ref a0), (1, .int (rc_o a1)), (2, .int (rc_o a2))] dX7_reel_11 rfl (by decide) rfl ?_
    refine rc_aload_n X dX7_reel_12 rfl 0 rfl ?_
    refine rc_nn X 19 dX7_reel_13 (by decide) ?_
    refine rc_iload_n X dX7_reel_19 rfl 3 rfl ?_
    obtain ⟨c4, h⟩ := h
    by_cases c7 : a2 = 0
    · have h := h.1 c7
      refine rc_tsAt X 48 0 dX7_reel_20 c4 c7 (by decide) (by decide) rfl (by decide) ?_
      refine rc_aload_n X dX7_reel_48 rfl 0 rfl ?_
      refine gfX3_length X Tq3.1 nX7_reel_X3 qX7_reel_4 dX7_reel_49 ?_
      exact rc_iret X hr dX7_reel_52 h
    by_cases c8 : a2 = 1
    · have h := h.2.1 c8
      refine rc_tsAt X 53 1 dX7_reel_20 c4 c8 (by decide) (by decide) rfl (by decide) ?_
      refine rc_aload_n X dX7_reel_53 rfl 0 rfl ?_
      refine gfX3_spliceCount X Tq3.1 nX7_reel_X3 qX7_reel_5 dX7_reel_54 ?_
      exact rc_iret X hr dX7_reel_57 h
    by_cases c9 : a2 = 2
    · have h := h.2.2.1 c9
      refine rc_tsAt X 58 2 dX7_reel_20 c4 c9 (by decide) (by decide) rfl (by decide) ?_
      refine rc_aload_n X dX7_reel_58 rfl 0 rfl ?_
      refine rc_cVI (rest := []) X (mX3_leastStrength Tq3 h) gX7_reel_X3_leastStrength rfl ⟨rfl, rfl⟩ dyX3_leastStrength ⟨Nat.le_of_ble_eq_true rfl, Nat.le_of_ble_eq_true rfl⟩ (rc_recv X Tq3.1 rfl) rfl rfl (Nat.le_of_ble_eq_true rfl) dX7_reel_59 ⟨Nat.zero_le _, Nat.zero_le _⟩ (fun r6 I5 h => ?_)
      exact rc_iret X hr dX7_reel_62 h
    have h := h.2.2.2 (by omega)
    refine rc_tsOut X 63 dX7_reel_20 c4 (by omega) (by decide) ?_
    refine rc_ldc (n := (-100002)) X qX7_reel_6 (by decide +kernel) dX7_reel_63 ?_
    exact rc_iret X hr dX7_reel_65 h
theorem mX7_reel {l : Launch} {G : rc_G} {a0 : Nat} {a1 : Int} {a2 : Int} {I : rc_M} {post : Int → rc_M → Prop} (T0 : kX7 G a0) (h : wX7_reel G a0 a1 a2 I post) : rc_CI l yX7_reel wsX7_reel rmX7_reel G [.ref a0, .int (rc_o a1), .int (rc_o a2)] I post :=
  rc_body (by decide +kernel) rfl rfl (Nat.le_of_ble_eq_true rfl) rfl (fun p e s m below meth c X hr => gX7_reel_0 X hr T0 h)
/-! X7_spliceAt -/
abbrev rmX7_spliceAt : Room := { frames := 1, cells := 0, slots := 0, locals := 21 }
theorem dyX7_spliceAt : yX7_spliceAt.cls = RX7 ∧ yX7_spliceAt.cls ≠ "java/lang/invoke/MethodHandle" ∧ yX7_spliceAt.cls ≠ "java/lang/invoke/VarHandle" ∧ (parseMethodDescriptor yX7_spliceAt.desc).map (fun d => d.parameters.length) = some 3 := ⟨rfl, by decide +kernel, by decide +kernel, by decide +kernel⟩
theorem qX7_spliceAt_1 : Cond.fieldLink RX7 10 "ReelChanger" "room" "LReelChanger$Room;" ∈ wsX7_spliceAt := List.mem_of_getElem? (i := 1) (by decide +kernel)
theorem nX7_spliceAt_X7 : ∀ w ∈ wsX70, w ∈ wsX7_spliceAt := fun w h => List.mem_cons_of_mem _ (List.mem_append_left _ (List.mem_append_left _ (List.mem_append_left _ (List.mem_append_right _ (h)))))
theorem qX7_spliceAt_2 : Cond.fieldLink RX7 35 "ReelChanger$Room" "stock" "LReelChanger$Stock;" ∈ wsX7_spliceAt := List.mem_of_getElem? (i := 2) (by decide +kernel)
theorem nX7_spliceAt_X4 : ∀ w ∈ wsX40, w ∈ wsX7_spliceAt := fun w h => List.mem_cons_of_mem _ (List.mem_append_left _ (List.mem_append_left _ (List.mem_append_right _ (h))))
theorem qX7_spliceAt_3 : Cond.constant RX7 49 (-100001) ∈ wsX7_spliceAt := List.mem_of_getElem? (i := 3) (by decide +kernel)
theorem qX7_spliceAt_5 : Cond.fieldLink RX7 78 "ReelChanger$Reel" "frames" "[I" ∈ wsX7_spliceAt := List.mem_of_getElem? (i := 5) (by decide +kernel)
theorem nX7_spliceAt_X3 : ∀ w ∈ wsX30, w ∈ wsX7_spliceAt := fun w h => List.mem_cons_of_mem _ (List.mem_append_left _ (List.mem_append_right _ (h)))
theorem qX7_spliceAt_4 : Cond.fieldLink RX7 74 "ReelChanger$Reel" "strengths" "[I" ∈ wsX7_spliceAt := List.mem_of_getElem? (i := 4) (by decide +kernel)
def wX7_spliceAt (G : rc_G) (a0 : Nat) (a1 : Int) (a2 : Int) (a3 : Int) (I : rc_M) (post : Int → rc_M → Prop) : Prop :=
  wX6_reelNumbered G (a0 + 1 + 1) a1 I (fun r2 I1 => (r2 = none → post (-100001) I1) ∧ (∀ q3, r2 = some q3 → kX3 G q3 ∧ (wX3_hasSplice G q3 a2 I1 (fun r5 I4 => rc_R r5 ∧ ((¬ r5 = 0 → rc_R a3 ∧ ((a3 = 0 → (0 ≤ a2 ∧ a2 < 6) ∧ (post (I4 (q3 + 1) a2) I4)) ∧ (¬ a3 = 0 → (0 ≤ a2 ∧ a2 < 6) ∧ (post (I4 (q3 + 2) a2) I4)))) ∧ (r5 = 0 → post (-100001) I4))))))
set_option maxRecDepth 100000 in
set_option maxHeartbeats 4000000 in
theorem gX7_spliceAt_0 {p : Program} {l : Launch} {e : Env} {s : State} {m : MethodId} {below : List Frame} {meth : Method} {c : Code} {G : rc_G} {a0 : Nat} {a1 : Int} {a2 : Int} {a3 : Int} {I : rc_M} {post : Int → rc_M → Prop}  (X : rc_X p s m ([.ref a0, .int (rc_o a1), .int (rc_o a2), .int (rc_o a3)] : List Value).toArray meth c cX7_spliceAt 5 wsX7_spliceAt RX7 G (rc_A G)) (hr : meth.sig.returnType = some .int) (T0 : kX7 G a0)  (h : wX7_spliceAt G a0 a1 a2 a3 I post) : rc_g p l e rmX7_spliceAt s m ([.ref a0, .int (rc_o a1), .int (rc_o a2), .int (rc_o a3)] : List Value).toArray below meth c 0 0 (MQ below (rc_QI G post) ([.ref a0, .int (rc_o a1), .int (rc_o a2), .int (rc_o a3)] : List Value).toArray s 0 0 (rc_A G)) 5 G (rc_A G) 0 [(0, .ref a0), (1, .int (rc_o a1)), (2, .int (rc_o a2)), (3, .int (rc_o a3))] [] I := by
  unfold wX7_spliceAt at h
  refine rc_aload_n X dX7_spliceAt_0 rfl 0 rfl ?_
  refine gfX7_room X T0.1 nX7_spliceAt_X7 qX7_spliceAt_1 dX7_spliceAt_1 ?_
  refine gfX4_stock X T0.2.1.1 nX7_spliceAt_X4 qX7_spliceAt_2 dX7_spliceAt_4 ?_
  refine rc_iload_n X dX7_spliceAt_7 rfl 1 rfl ?_
  refine rc_cVQ (rest := []) X (mX6_reelNumbered T0.2.1.2.1 h) gX7_spliceAt_X6_reelNumbered rfl ⟨rfl, rfl⟩ dyX6_reelNumbered ⟨Nat.le_of_ble_eq_true rfl, Nat.le_of_ble_eq_true rfl⟩ (rc_recv X T0.2.1.2.1.1 rfl) rfl rfl (Nat.le_of_ble_eq_true rfl) dX7_spliceAt_8 ⟨Nat.zero_le _, Nat.zero_le _⟩ (fun r2 I1 h => ?_)
  rcases r2 with _ | q3
  · have h := h.1 rfl
    refine rc_qn ?_
    refine rc_astoreN X [(4, .null), (0, .ref a0), (1, .int (rc_o a1)), (2, .int (rc_o a2)), (3, .int (rc_o a3))] dX7_spliceAt_11 (by decide) rfl ?_
    refine rc_aloadN X dX7_spliceAt_13 0 rfl ?_
    refine rc_nuN X 27 dX7_spliceAt_15 (by decide) ?_
    refine rc_ldc (n := (-100001)) X qX7_spliceAt_3 (by decide +kernel) dX7_spliceAt_27 ?_
    exact rc_iret X hr dX7_spliceAt_29 h
  · obtain ⟨Tq3, h⟩ := h.2 q3 rfl
    refine rc_qs ?_
    refine rc_astore X [(4, .ref q3), (0, .ref a0), (1, .int (rc_o a1)), (2, .int (rc_o a2)), (3, .int (rc_o a3))] dX7_spliceAt_11 (by decide) rfl ?_
    refine rc_aload X dX7_spliceAt_13 0 rfl ?_
    refine rc_nu X dX7_spliceAt_15 ?_
    refine rc_aload X dX7_spliceAt_18 0 rfl ?_
    refine rc_iload_n X dX7_spliceAt_20 rfl 3 rfl ?_
    refine rc_cVI (rest := []) X (mX3_hasSplice Tq3 h) gX7_spliceAt_X3_hasSplice rfl ⟨rfl, rfl⟩ dyX3_hasSplice ⟨Nat.le_of_ble_eq_true rfl, Nat.le_of_ble_eq_true rfl⟩ (rc_recv X Tq3.1 rfl) rfl rfl (Nat.le_of_ble_eq_true rfl) dX7_spliceAt_21 ⟨Nat.zero_le _, Nat.zero_le _⟩ (fun r5 I4 h => ?_)
    obtain ⟨c6, h⟩ := h
    refine rc_if_ne X 30 dX7_spliceAt_24 (by decide) c6 (fun c7 => ?_) (fun c7 => ?_)
    · have h := h.1 c7
      refine rc_iload_n X dX7_spliceAt_30 rfl 4 rfl ?_
      obtain ⟨c8, h⟩ := h
      refine rc_if_eq X 44 dX7_spliceAt_31 (by decide) c8 (fun c9 => ?_) (fun c9 => ?_)
      · have h := h.1 c9
        refine rc_aload X dX7_spliceAt_44 0 rfl ?_
        refine gfX3_frames X Tq3.1 nX7_spliceAt_X3 qX7_spliceAt_5 dX7_spliceAt_46 ?_
        refine rc_iload_n X dX7_spliceAt_49 rfl 3 rfl ?_
        obtain ⟨c10, h⟩ := h
        refine rc_iald X Tq3.2.1 (by decide) dX7_spliceAt_50 c10 ?_
        exact rc_iret X hr dX7_spliceAt_51 h
      · have h := h.2 c9
        refine rc_aload X dX7_spliceAt_34 0 rfl ?_
        refine gfX3_strengths X Tq3.1 nX7_spliceAt_X3 qX7_spliceAt_4 dX7_spliceAt_36 ?_
        refine rc_iload_n X dX7_spliceAt_39 rfl 3 rfl ?_
        obtain ⟨c11, h⟩ := h
        refine rc_iald X Tq3.2.2 (by decide) dX7_spliceAt_40 c11 ?_
        refine rc_goto X 51 dX7_spliceAt_41 (by decide) ?_
        exact rc_iret X hr dX7_spliceAt_51 h
    · have h := h.2 c7
      refine rc_ldc (n := (-100001)) X qX7_spliceAt_3 (by decide +kernel) dX7_spliceAt_27 ?_
      exact rc_iret X hr dX7_spliceAt_29 h
theorem mX7_spliceAt {l : Launch} {G : rc_G} {a0 : Nat} {a1 : Int} {a2 : Int} {a3 : Int} {I : rc_M} {post : Int → rc_M → Prop} (T0 : kX7 G a0) (h : wX7_spliceAt G a0 a1 a2 a3 I post) : rc_CI l yX7_spliceAt wsX7_spliceAt rmX7_spliceAt G [.ref a0, .int (rc_o a1), .int (rc_o a2), .int (rc_o a3)] I post :=
  rc_body (by decide +kernel) rfl rfl (Nat.le_of_ble_eq_true rfl) rfl (fun p e s m below meth c X hr => gX7_spliceAt_0 X hr T0 h)
/-! X7_settingError -/
abbrev rmX7_settingError : Room := { frames := 1, cells := 0, slots := 0, locals := 22 }
theorem dyX7_settingError : yX7_settingError.cls = RX7 ∧ yX7_settingError.cls ≠ "java/lang/invoke/MethodHandle" ∧ yX7_settingError.cls ≠ "java/lang/invoke/VarHandle" ∧ (parseMethodDescriptor yX7_settingError.desc).map (fun d => d.parameters.length) = some 2 := ⟨rfl, by decide +kernel, by decide +kernel, by decide +kernel⟩
theorem qX7_settingError_2 : Cond.constant RX7 34 (-100002) ∈ wsX7_settingError := List.mem_of_getElem? (i := 2) (by decide +kernel)
theorem qX7_settingError_1 : Cond.constant RX7 49 (-100001) ∈ wsX7_settingError := List.mem_of_getElem? (i := 1) (by decide +kernel)
def wX7_settingError (G : rc_G) (a0 : Int) (a1 : Int) (I : rc_M) (post : Int → rc_M → Prop) : Prop :=
  wX7_isWithin G a0 0 7 I (fun r2 I1 => rc_R r2 ∧ ((¬ r2 = 0 → wX6_isSettingValue G a0 a1 I1 (fun r6 I5 => rc_R r6 ∧ ((r6 = 0 → post (-100002) I5) ∧ (¬ r6 = 0 → post 0 I5)))) ∧ (r2 = 0 → post (-100001) I1)))
set_option maxRecDepth 100000 in
set_option maxHeartbeats 4000000 in
theorem gX7_settingError_0 {p : Program} {l : Launch} {e : Env} {s : State} {m : MethodId} {below : List Frame} {meth : Method} {c : Code} {G : rc_G} {a0 : Int} {a1 : Int} {I : rc_M} {post : Int → rc_M → Prop}  (X : rc_X p s m ([.int (rc_o a0), .int (rc_o a1)] : List Value).toArray meth c cX7_settingError 2 wsX7_settingError RX7 G (rc_A G)) (hr : meth.sig.returnType = some .int)   (h : wX7_settingError G a0 a1 I post) : rc_g p l e rmX7_settingError s m ([.int (rc_o a0), .int (rc_o a1)] : List Value).toArray below meth c 0 0 (MQ below (rc_QI G post) ([.int (rc_o a0), .int (rc_o a1)] : List Value).toArray s 0 0 (rc_A G)) 2 G (rc_A G) 0 [(0, .int (rc_o a0)), (1, .int (rc_o a1))] [] I := by
  unfold wX7_settingError at h
  refine rc_iload_n X dX7_settingError_0 rfl 0 rfl ?_
  refine rc_iconst X dX7_settingError_1 ?_
  refine rc_bipush X dX7_settingError_2 (rc_b8 _ ⟨by decide, by decide⟩) ?_
  refine rc_cSI (rest := []) X (mX7_isWithin  h) gX7_settingError_X7_isWithin rfl ⟨rfl, rfl⟩ dyX7_isWithin ⟨Nat.le_of_ble_eq_true rfl, Nat.le_of_ble_eq_true rfl⟩ rfl rfl (Nat.le_of_ble_eq_true rfl) dX7_settingError_4 ⟨Nat.zero_le _, Nat.zero_le _⟩ (fun r2 I1 h => ?_)
  obtain ⟨c3, h⟩ := h
  refine rc_if_ne X 13 dX7_settingError_7 (by decide) c3 (fun c4 => ?_) (fun c4 => ?_)
  · have h := h.1 c4
    refine rc_iload_n X dX7_settingError_13 rfl 0 rfl ?_
    refine rc_iload_n X dX7_settingError_14 rfl 1 rfl ?_
    refine rc_cSI (rest := []) X (mX6_isSettingValue  h) gX7_settingError_X6_isSettingValue rfl ⟨rfl, rfl⟩ dyX6_isSettingValue ⟨Nat.le_of_ble_eq_true rfl, Nat.le_of_ble_eq_true rfl⟩ rfl rfl (Nat.le_of_ble_eq_true rfl) dX7_settingError_15 ⟨Nat.zero_le _, Nat.zero_le _⟩ (fun r6 I5 h => ?_)
    obtain ⟨c7, h⟩ := h
    refine rc_if_eq X 25 dX7_settingError_18 (by decide) c7 (fun c8 => ?_) (fun c8 => ?_)
    · have h := h.1 c8
      refine rc_ldc (n := (-100002)) X qX7_settingError_2 (by decide +kernel) dX7_settingError_25 ?_
      exact rc_iret X hr dX7_settingError_27 h
    · have h := h.2 c8
      refine rc_iconst X dX7_settingError_21 ?_
      refine rc_goto X 27 dX7_settingError_22 (by decide) ?_
      exact rc_iret X hr dX7_settingError_27 h
  · have h := h.2 c4
    refine rc_ldc (n := (-100001)) X qX7_settingError_1 (by decide +kernel) dX7_settingError_10 ?_
    exact rc_iret X hr dX7_settingError_12 h
theorem mX7_settingError {l : Launch} {G : rc_G} {a0 : Int} {a1 : Int} {I : rc_M} {post : Int → rc_M → Prop}  (h : wX7_settingError G a0 a1 I post) : rc_CI l yX7_settingError wsX7_settingError rmX7_settingError G [.int (rc_o a0), .int (rc_o a1)] I post :=
  rc_body (by decide +kernel) rfl rfl (Nat.le_of_ble_eq_true rfl) rfl (fun p e s m below meth c X hr => gX7_settingError_0 X hr  h)
/-! X7_set -/
abbrev rmX7_set : Room := { frames := 2, cells := 0, slots := 0, locals := 44 }
theorem dyX7_set : yX7_set.cls = RX7 ∧ yX7_set.cls ≠ "java/lang/invoke/MethodHandle" ∧ yX7_set.cls ≠ "java/lang/invoke/VarHandle" ∧ (parseMethodDescriptor yX7_set.desc).map (fun d => d.parameters.length) = some 2 := ⟨rfl, by decide +kernel, by decide +kernel, by decide +kernel⟩
theorem qX7_set_1 : Cond.fieldLink RX7 10 "ReelChanger" "room" "LReelChanger$Room;" ∈ wsX7_set := List.mem_of_getElem? (i := 1) (by decide +kernel)
theorem nX7_set_X7 : ∀ w ∈ wsX70, w ∈ wsX7_set := fun w h => List.mem_cons_of_mem _ (List.mem_append_left _ (List.mem_append_left _ (List.mem_append_right _ (h))))
theorem qX7_set_2 : Cond.fieldLink RX7 35 "ReelChanger$Room" "stock" "LReelChanger$Stock;" ∈ wsX7_set := List.mem_of_getElem? (i := 2) (by decide +kernel)
theorem nX7_set_X4 : ∀ w ∈ wsX40, w ∈ wsX7_set := fun w h => List.mem_cons_of_mem _ (List.mem_append_left _ (List.mem_append_right _ (h)))
def wX7_set (G : rc_G) (a0 : Nat) (a1 : Int) (a2 : Int) (I : rc_M) (post : Int → rc_M → Prop) : Prop :=
  wX7_settingError G a1 a2 I (fun r2 I1 => rc_R r2 ∧ ((r2 = 0 → wX6_changeSetting G (a0 + 1 + 1) a1 a2 I1 (fun r6 I5 => post r6 I5)) ∧ (¬ r2 = 0 → post r2 I1)))
set_option maxRecDepth 100000 in
set_option maxHeartbeats 4000000 in
theorem gX7_set_0 {p : Program} {l : Launch} {e : Env} {s : State} {m : MethodId} {below : List Frame} {meth : Method} {c : Code} {G : rc_G} {a0 : Nat} {a1 : Int} {a2 : Int} {I : rc_M} {post : Int → rc_M → Prop}  (X : rc_X p s m ([.ref a0, .int (rc_o a1), .int (rc_o a2)] : List Value).toArray meth c cX7_set 4 wsX7_set RX7 G (rc_A G)) (hr : meth.sig.returnType = some .int) (T0 : kX7 G a0)  (h : wX7_set G a0 a1 a2 I post) : rc_g p l e rmX7_set s m ([.ref a0, .int (rc_o a1), .int (rc_o a2)] : List Value).toArray below meth c 0 0 (MQ below (rc_QI G post) ([.ref a0, .int (rc_o a1), .int (rc_o a2)] : List Value).toArray s 0 0 (rc_A G)) 4 G (rc_A G) 0 [(0, .ref a0), (1, .int (rc_o a1)), (2, .int (rc_o a2))] [] I := by
  unfold wX7_set at h
  refine rc_iload_n X dX7_set_0 rfl 1 rfl ?_
  refine rc_iload_n X dX7_set_1 rfl 2 rfl ?_
  refine rc_cSI (rest := []) X (mX7_settingError  h) gX7_set_X7_settingError rfl ⟨rfl, rfl⟩ dyX7_settingError ⟨Nat.le_of_ble_eq_true rfl, Nat.le_of_ble_eq_true rfl⟩ rfl rfl (Nat.le_of_ble_eq_true rfl) dX7_set_2 ⟨Nat.zero_le _, Nat.zero_le _⟩ (fun r2 I1 h => ?_)
  refine rc_istore_n X [(3, .int (rc_o r2)), (0, .ref a0), (1, .int (rc_o a1)), (2, .int (rc_o a2))] dX7_set_5 rfl (by decide) rfl ?_
  refine rc_iload_n X dX7_set_6 rfl 0 rfl ?_
  obtain ⟨c3, h⟩ := h
  refine rc_if_eq X 14 dX7_set_7 (by decide) c3 (fun c4 => ?_) (fun c4 => ?_)
  · have h := h.1 c4
    refine rc_aload_n X dX7_set_14 rfl 1 rfl ?_
    refine gfX7_room X T0.1 nX7_set_X7 qX7_set_1 dX7_set_15 ?_
    refine gfX4_stock X T0.2.1.1 nX7_set_X4 qX7_set_2 dX7_set_18 ?_
    refine rc_iload_n X dX7_set_21 rfl 2 rfl ?_
    refine rc_iload_n X dX7_set_22 rfl 3 rfl ?_
    refine rc_cVI (rest := []) X (mX6_changeSetting T0.2.1.2.1 h) gX7_set_X6_changeSetting rfl ⟨rfl, rfl⟩ dyX6_changeSetting ⟨Nat.le_of_ble_eq_true rfl, Nat.le_of_ble_eq_true rfl⟩ (rc_recv X T0.2.1.2.1.1 rfl) rfl rfl (Nat.le_of_ble_eq_true rfl) dX7_set_23 ⟨Nat.zero_le _, Nat.zero_le _⟩ (fun r6 I5 h => ?_)
    exact rc_iret X hr dX7_set_26 h
  · have h := h.2 c4
    refine rc_iload_n X dX7_set_10 rfl 0 rfl ?_
    refine rc_goto X 26 dX7_set_11 (by decide) ?_
    exact rc_iret X hr dX7_set_26 h
theorem mX7_set {l : Launch} {G : rc_G} {a0 : Nat} {a1 : Int} {a2 : Int} {I : rc_M} {post : Int → rc_M → Prop} (T0 : kX7 G a0) (h : wX7_set G a0 a1 a2 I post) : rc_CI l yX7_set wsX7_set rmX7_set G [.ref a0, .int (rc_o a1), .int (rc_o a2)] I post :=
  rc_body (by decide +kernel) rfl rfl (Nat.le_of_ble_eq_true rfl) rfl (fun p e s m below meth c X hr => gX7_set_0 X hr T0 h)
/-! X7_append -/
abbrev rmX7_append : Room := { frames := 1, cells := 0, slots := 0, locals := 22 }
theorem dyX7_append : yX7_append.cls = RX7 ∧ yX7_append.cls ≠ "java/lang/invoke/MethodHandle" ∧ yX7_append.cls ≠ "java/lang/invoke/VarHandle" ∧ (parseMethodDescriptor yX7_append.desc).map (fun d => d.parameters.length) = some 1 := ⟨rfl, by decide +kernel, by decide +kernel, by decide +kernel⟩
theorem qX7_append_2 : Cond.fieldLink RX7 26 "ReelChanger" "text" "LReelChanger$ProgramText;" ∈ wsX7_append := List.mem_of_getElem? (i := 2) (by decide +kernel)
theorem nX7_append_X7 : ∀ w ∈ wsX70, w ∈ wsX7_append := fun w h => List.mem_cons_of_mem _ (List.mem_append_left _ (List.mem_append_right _ (h)))
theorem qX7_append_1 : Cond.constant RX7 34 (-100002) ∈ wsX7_append := List.mem_of_getElem? (i := 1) (by decide +kernel)
def wX7_append (G : rc_G) (a0 : Nat) (a1 : Int) (I : rc_M) (post : Int → rc_M → Prop) : Prop :=
  wX7_isWithin G a1 0 127 I (fun r2 I1 => rc_R r2 ∧ ((¬ r2 = 0 → wX1_add G (a0 + 84) a1 I1 (fun r6 I5 => post r6 I5)) ∧ (r2 = 0 → post (-100002) I1)))
set_option maxRecDepth 100000 in
set_option maxHeartbeats 4000000 in
theorem gX7_append_0 {p : Program} {l : Launch} {e : Env} {s : State} {m : MethodId} {below : List Frame} {meth : Method} {c : Code} {G : rc_G} {a0 : Nat} {a1 : Int} {I : rc_M} {post : Int → rc_M → Prop}  (X : rc_X p s m ([.ref a0, .int (rc_o a1)] : List Value).toArray meth c cX7_append 2 wsX7_append RX7 G (rc_A G)) (hr : meth.sig.returnType = some .int) (T0 : kX7 G a0)  (h : wX7_append G a0 a1 I post) : rc_g p l e rmX7_append s m ([.ref a0, .int (rc_o a1)] : List Value).toArray below meth c 0 0 (MQ below (rc_QI G post) ([.ref a0, .int (rc_o a1)] : List Value).toArray s 0 0 (rc_A G)) 2 G (rc_A G) 0 [(0, .ref a0), (1, .int (rc_o a1))] [] I := by
  unfold wX7_append at h
  refine rc_iload_n X dX7_append_0 rfl 1 rfl ?_
  refine rc_iconst X dX7_append_1 ?_
  refine rc_bipush X dX7_append_2 (rc_b8 _ ⟨by decide, by decide⟩) ?_
  refine rc_cSI (rest := []) X (mX7_isWithin  h) gX7_append_X7_isWithin rfl ⟨rfl, rfl⟩ dyX7_isWithin ⟨Nat.le_of_ble_eq_true rfl, Nat.le_of_ble_eq_true rfl⟩ rfl rfl (Nat.le_of_ble_eq_true rfl) dX7_append_4 ⟨Nat.zero_le _, Nat.zero_le _⟩ (fun r2 I1 h => ?_)
  obtain ⟨c3, h⟩ := h
  refine rc_if_ne X 13 dX7_append_7 (by decide) c3 (fun c4 => ?_) (fun c4 => ?_)
  · have h := h.1 c4
    refine rc_aload_n X dX7_append_13 rfl 0 rfl ?_
    refine gfX7_text X T0.1 nX7_append_X7 qX7_append_2 dX7_append_14 ?_
    refine rc_iload_n X dX7_append_17 rfl 1 rfl ?_
    refine rc_cVI (rest := []) X (mX1_add T0.2.2.2.2 h) gX7_append_X1_add rfl ⟨rfl, rfl⟩ dyX1_add ⟨Nat.le_of_ble_eq_true rfl, Nat.le_of_ble_eq_true rfl⟩ (rc_recv X T0.2.2.2.2.1 rfl) rfl rfl (Nat.le_of_ble_eq_true rfl) dX7_append_18 ⟨Nat.zero_le _, Nat.zero_le _⟩ (fun r6 I5 h => ?_)
    exact rc_iret X hr dX7_append_21 h
  · have h := h.2 c4
    refine rc_ldc (n := (-100002)) X qX7_append_1 (by decide +kernel) dX7_append_10 ?_
    exact rc_iret X hr dX7_append_12 h
theorem mX7_append {l : Launch} {G : rc_G} {a0 : Nat} {a1 : Int} {I : rc_M} {post : Int → rc_M → Prop} (T0 : kX7 G a0) (h : wX7_append G a0 a1 I post) : rc_CI l yX7_append wsX7_append rmX7_append G [.ref a0, .int (rc_o a1)] I post :=
  rc_body (by decide +kernel) rfl rfl (Nat.le_of_ble_eq_true rfl) rfl (fun p e s m below meth c X hr => gX7_append_0 X hr T0 h)
/-! X7_faultPosition -/
abbrev rmX7_faultPosition : Room := { frames := 2, cells := 0, slots := 0, locals := 45 }
theorem dyX7_faultPosition : yX7_faultPosition.cls = RX7 ∧ yX7_faultPosition.cls ≠ "java/lang/invoke/MethodHandle" ∧ yX7_faultPosition.cls ≠ "java/lang/invoke/VarHandle" ∧ (parseMethodDescriptor yX7_faultPosition.desc).map (fun d => d.parameters.length) = some 0 := ⟨rfl, by decide +kernel, by decide +kernel, by decide +kernel⟩
theorem qX7_faultPosition_1 : Cond.fieldLink RX7 26 "ReelChanger" "text" "LReelChanger$ProgramText;" ∈ wsX7_faultPosition := List.mem_of_getElem? (i := 1) (by decide +kernel)
theorem nX7_faultPosition_X7 : ∀ w ∈ wsX70, w ∈ wsX7_faultPosition := fun w h => List.mem_cons_of_mem _ (List.mem_append_left _ (List.mem_append_left _ (List.mem_append_left _ (List.mem_append_right _ (h)))))
theorem qX7_faultPosition_2 : Cond.fieldLink RX7 10 "ReelChanger" "room" "LReelChanger$Room;" ∈ wsX7_faultPosition := List.mem_of_getElem? (i := 2) (by decide +kernel)
theorem qX7_faultPosition_3 : Cond.fieldLink RX7 35 "ReelChanger$Room" "stock" "LReelChanger$Stock;" ∈ wsX7_faultPosition := List.mem_of_getElem? (i := 3) (by decide +kernel)
theorem nX7_faultPosition_X4 : ∀ w ∈ wsX40, w ∈ wsX7_faultPosition := fun w h => List.mem_cons_of_mem _ (List.mem_append_left _ (List.mem_append_left _ (List.mem_append_right _ (h))))
theorem qX7_faultPosition_4 : Cond.fieldLink RX7 93 "ReelChanger$Stock" "reelCount" "I" ∈ wsX7_faultPosition := List.mem_of_getElem? (i := 4) (by decide +kernel)
theorem nX7_faultPosition_X6 : ∀ w ∈ wsX60, w ∈ wsX7_faultPosition := fun w h => List.mem_cons_of_mem _ (List.mem_append_left _ (List.mem_append_right _ (h)))
def wX7_faultPosition (G : rc_G) (a0 : Nat) (I : rc_M) (post : Int → rc_M → Prop) : Prop :=
  wX1_findFault G (a0 + 84) (I (a0 + 1 + 1) 0) I (fun r2 I1 => post r2 I1)
set_option maxRecDepth 100000 in
set_option maxHeartbeats 4000000 in
theorem gX7_faultPosition_0 {p : Program} {l : Launch} {e : Env} {s : State} {m : MethodId} {below : List Frame} {meth : Method} {c : Code} {G : rc_G} {a0 : Nat} {I : rc_M} {post : Int → rc_M → Prop}  (X : rc_X p s m ([.ref a0] : List Value).toArray meth c cX7_faultPosition 1 wsX7_faultPosition RX7 G (rc_A G)) (hr : meth.sig.returnType = some .int) (T0 : kX7 G a0)  (h : wX7_faultPosition G a0 I post) : rc_g p l e rmX7_faultPosition s m ([.ref a0] : List Value).toArray below meth c 0 0 (MQ below (rc_QI G post) ([.ref a0] : List Value).toArray s 0 0 (rc_A G)) 1 G (rc_A G) 0 [(0, .ref a0)] [] I := by
  unfold wX7_faultPosition at h
  refine rc_aload_n X dX7_faultPosition_0 rfl 0 rfl ?_
  refine gfX7_text X T0.1 nX7_faultPosition_X7 qX7_faultPosition_1 dX7_faultPosition_1 ?_
  refine rc_aload_n X dX7_faultPosition_4 rfl 0 rfl ?_
  refine gfX7_room X T0.1 nX7_faultPosition_X7 qX7_faultPosition_2 dX7_faultPosition_5 ?_
  refine gfX4_stock X T0.2.1.1 nX7_faultPosition_X4 qX7_faultPosition_3 dX7_faultPosition_8 ?_
  refine gfX6_reelCount X T0.2.1.2.1.1 nX7_faultPosition_X6 qX7_faultPosition_4 dX7_faultPosition_11 ?_
  refine rc_cVI (rest := []) X (mX1_findFault T0.2.2.2.2 h) gX7_faultPosition_X1_findFault rfl ⟨rfl, rfl⟩ dyX1_findFault ⟨Nat.le_of_ble_eq_true rfl, Nat.le_of_ble_eq_true rfl⟩ (rc_recv X T0.2.2.2.2.1 rfl) rfl rfl (Nat.le_of_ble_eq_true rfl) dX7_faultPosition_14 ⟨Nat.zero_le _, Nat.zero_le _⟩ (fun r2 I1 h => ?_)
  exact rc_iret X hr dX7_faultPosition_17 h
theorem mX7_faultPosition {l : Launch} {G : rc_G} {a0 : Nat} {I : rc_M} {post : Int → rc_M → Prop} (T0 : kX7 G a0) (h : wX7_faultPosition G a0 I post) : rc_CI l yX7_faultPosition wsX7_faultPosition rmX7_faultPosition G [.ref a0] I post :=
  rc_body (by decide +kernel) rfl rfl (Nat.le_of_ble_eq_true rfl) rfl (fun p e s m below meth c X hr => gX7_faultPosition_0 X hr T0 h)
/-! X7_setProgram -/
abbrev rmX7_setProgram : Room := { frames := 3, cells := 0, slots := 0, locals := 74 }
theorem dyX7_setProgram : yX7_setProgram.cls = RX7 ∧ yX7_setProgram.cls ≠ "java/lang/invoke/MethodHandle" ∧ yX7_setProgram.cls ≠ "java/lang/invoke/VarHandle" ∧ (parseMethodDescriptor yX7_setProgram.desc).map (fun d => d.parameters.length) = some 0 := ⟨rfl, by decide +kernel, by decide +kernel, by decide +kernel⟩
theorem qX7_setProgram_1 : Cond.constant RX7 99 (-100005) ∈ wsX7_setProgram := List.mem_of_getElem? (i := 1) (by decide +kernel)
theorem qX7_setProgram_5 : Cond.constant RX7 116 (-100003) ∈ wsX7_setProgram := List.mem_of_getElem? (i := 5) (by decide +kernel)
theorem qX7_setProgram_2 : Cond.fieldLink RX7 10 "ReelChanger" "room" "LReelChanger$Room;" ∈ wsX7_setProgram := List.mem_of_getElem? (i := 2) (by decide +kernel)
theorem nX7_setProgram_X7 : ∀ w ∈ wsX70, w ∈ wsX7_setProgram := fun w h => List.mem_cons_of_mem _ (List.mem_append_left _ (List.mem_append_left _ (List.mem_append_left _ (List.mem_append_left _ (List.mem_append_right _ (h))))))
theorem qX7_setProgram_3 : Cond.fieldLink RX7 106 "ReelChanger$Room" "show" "LReelChanger$Show;" ∈ wsX7_setProgram := List.mem_of_getElem? (i := 3) (by decide +kernel)
theorem nX7_setProgram_X4 : ∀ w ∈ wsX40, w ∈ wsX7_setProgram := fun w h => List.mem_cons_of_mem _ (List.mem_append_left _ (List.mem_append_left _ (List.mem_append_left _ (List.mem_append_right _ (h)))))
theorem qX7_setProgram_4 : Cond.fieldLink RX7 110 "ReelChanger$Show" "running" "Z" ∈ wsX7_setProgram := List.mem_of_getElem? (i := 4) (by decide +kernel)
theorem nX7_setProgram_X5 : ∀ w ∈ wsX50, w ∈ wsX7_setProgram := fun w h => List.mem_cons_of_mem _ (List.mem_append_left _ (List.mem_append_left _ (List.mem_append_right _ (h))))
theorem qX7_setProgram_6 : Cond.fieldLink RX7 26 "ReelChanger" "text" "LReelChanger$ProgramText;" ∈ wsX7_setProgram := List.mem_of_getElem? (i := 6) (by decide +kernel)
theorem qX7_setProgram_7 : Cond.constant RX7 120 (-100004) ∈ wsX7_setProgram := List.mem_of_getElem? (i := 7) (by decide +kernel)
theorem qX7_setProgram_8 : Cond.fieldLink RX7 35 "ReelChanger$Room" "stock" "LReelChanger$Stock;" ∈ wsX7_setProgram := List.mem_of_getElem? (i := 8) (by decide +kernel)
theorem qX7_setProgram_9 : Cond.fieldLink RX7 121 "ReelChanger$ProgramText" "expanded" "[I" ∈ wsX7_setProgram := List.mem_of_getElem? (i := 9) (by decide +kernel)
theorem nX7_setProgram_X1 : ∀ w ∈ wsX10, w ∈ wsX7_setProgram := fun w h => List.mem_cons_of_mem _ (List.mem_append_left _ (List.mem_append_right _ (h)))
def wX7_setProgram (G : rc_G) (a0 : Nat) (I : rc_M) (post : Int → rc_M → Prop) : Prop :=
  wX7_faultPosition G a0 I (fun r2 I1 => rc_R r2 ∧ ((¬ r2 = (-100005) → post (-100003) I1) ∧ (r2 = (-100005) → rc_R (I1 (a0 + 1 + 35) 0) ∧ (((I1 (a0 + 1 + 35) 0) = 0 → wX1_expand G (a0 + 84) I1 (fun r8 I7 => rc_R r8 ∧ ((r8 = (-100004) → post r8 I7) ∧ (¬ r8 = (-100004) → wX6_takeProgram G (a0 + 1 + 1) (a0 + 84 + 1) r8 I7 (fun I11 => post r8 I11))))) ∧ (¬ (I1 (a0 + 1 + 35) 0) = 0 → post (-100003) I1)))))
set_option maxRecDepth 100000 in
set_option maxHeartbeats 4000000 in
theorem gX7_setProgram_0 {p : Program} {l : Launch} {e : Env} {s : State} {m : MethodId} {below : List Frame} {meth : Method} {c : Code} {G : rc_G} {a0 : Nat} {I : rc_M} {post : Int → rc_M → Prop}  (X : rc_X p s m ([.ref a0] : List Value).toArray meth c cX7_setProgram 2 wsX7_setProgram RX7 G (rc_A G)) (hr : meth.sig.returnType = some .int) (T0 : kX7 G a0)  (h : wX7_setProgram G a0 I post) : rc_g p l e rmX7_setProgram s m ([.ref a0] : List Value).toArray below meth c 0 0 (MQ below (rc_QI G post) ([.ref a0] : List Value).toArray s 0 0 (rc_A G)) 2 G (rc_A G) 0 [(0, .ref a0)] [] I := by
  unfold wX7_setProgram at h
  refine rc_aload_n X dX7_setProgram_0 rfl 0 rfl ?_
  refine rc_cVI (rest := []) X (mX7_faultPosition T0 h) gX7_setProgram_X7_faultPosition rfl ⟨rfl, rfl⟩ dyX7_faultPosition ⟨Nat.le_of_ble_eq_true rfl, Nat.le_of_ble_eq_true rfl⟩ (rc_recv X T0.1 rfl) rfl rfl (Nat.le_of_ble_eq_true rfl) dX7_setProgram_1 ⟨Nat.zero_le _, Nat.zero_le _⟩ (fun r2 I1 h => ?_)
  refine rc_ldc (n := (-100005)) X qX7_setProgram_1 (by decide +kernel) dX7_setProgram_4 ?_
  obtain ⟨c3, h⟩ := h
  refine rc_ic_ne X 22 dX7_setProgram_6 (by decide) c3 ⟨by decide, by decide⟩ (fun c4 => ?_) (fun c4 => ?_)
  · have h := h.1 c4
    refine rc_ldc (n := (-100003)) X qX7_setProgram_5 (by decide +kernel) dX7_setProgram_22 ?_
    exact rc_iret X hr dX7_setProgram_24 h
  · have h := h.2 c4
    refine rc_aload_n X dX7_setProgram_9 rfl 0 rfl ?_
    refine gfX7_room X T0.1 nX7_setProgram_X7 qX7_setProgram_2 dX7_setProgram_10 ?_
    refine gfX4_show X T0.2.1.1 nX7_setProgram_X4 qX7_setProgram_3 dX7_setProgram_13 ?_
    refine gfX5_running X T0.2.1.2.2.1 nX7_setProgram_X5 qX7_setProgram_4 dX7_setProgram_16 ?_
    obtain ⟨c5, h⟩ := h
    refine rc_if_eq X 25 dX7_setProgram_19 (by decide) c5 (fun c6 => ?_) (fun c6 => ?_)
    · have h := h.1 c6
      refine rc_aload_n X dX7_setProgram_25 rfl 0 rfl ?_
      refine gfX7_text X T0.1 nX7_setProgram_X7 qX7_setProgram_6 dX7_setProgram_26 ?_
      refine rc_cVI (rest := []) X (mX1_expand T0.2.2.2.2 h) gX7_setProgram_X1_expand rfl ⟨rfl, rfl⟩ dyX1_expand ⟨Nat.le_of_ble_eq_true rfl, Nat.le_of_ble_eq_true rfl⟩ (rc_recv X T0.2.2.2.2.1 rfl) rfl rfl (Nat.le_of_ble_eq_true rfl) dX7_setProgram_29 ⟨Nat.zero_le _, Nat.zero_le _⟩ (fun r8 I7 h => ?_)
      refine rc_istore_n X [(1, .int (rc_o r8)), (0, .ref a0)] dX7_setProgram_32 rfl (by decide) rfl ?_
      refine rc_iload_n X dX7_setProgram_33 rfl 0 rfl ?_
      refine rc_ldc (n := (-100004)) X qX7_setProgram_7 (by decide +kernel) dX7_setProgram_34 ?_
      obtain ⟨c9, h⟩ := h
      refine rc_ic_eq X 57 dX7_setProgram_36 (by decide) c9 ⟨by decide, by decide⟩ (fun c10 => ?_) (fun c10 => ?_)
      · have h := h.1 c10
        refine rc_iload_n X dX7_setProgram_57 rfl 0 rfl ?_
        exact rc_iret X hr dX7_setProgram_58 h
      · have h := h.2 c10
        refine rc_aload_n X dX7_setProgram_39 rfl 1 rfl ?_
        refine gfX7_room X T0.1 nX7_setProgram_X7 qX7_setProgram_2 dX7_setProgram_40 ?_
        refine gfX4_stock X T0.2.1.1 nX7_setProgram_X4 qX7_setProgram_8 dX7_setProgram_43 ?_
        refine rc_aload_n X dX7_setProgram_46 rfl 1 rfl ?_
        refine gfX7_text X T0.1 nX7_setProgram_X7 qX7_setProgram_6 dX7_setProgram_47 ?_
        refine gfX1_expanded X T0.2.2.2.2.1 nX7_setProgram_X1 qX7_setProgram_9 dX7_setProgram_50 ?_
        refine rc_iload_n X dX7_setProgram_53 rfl 0 rfl ?_
        refine rc_cVV (rest := []) X (mX6_takeProgram T0.2.1.2.1 T0.2.2.2.2.2.1 h) gX7_setProgram_X6_takeProgram rfl ⟨rfl, rfl⟩ dyX6_takeProgram ⟨Nat.le_of_ble_eq_true rfl, Nat.le_of_ble_eq_true rfl⟩ (rc_recv X T0.2.1.2.1.1 rfl) rfl rfl (Nat.le_of_ble_eq_true rfl) dX7_setProgram_54 ⟨Nat.zero_le _, Nat.zero_le _⟩ (fun I11 h => ?_)
        refine rc_iload_n X dX7_setProgram_57 rfl 0 rfl ?_
        exact rc_iret X hr dX7_setProgram_58 h
    · have h := h.2 c6
      refine rc_ldc (n := (-100003)) X qX7_setProgram_5 (by decide +kernel) dX7_setProgram_22 ?_
      exact rc_iret X hr dX7_setProgram_24 h
theorem mX7_setProgram {l : Launch} {G : rc_G} {a0 : Nat} {I : rc_M} {post : Int → rc_M → Prop} (T0 : kX7 G a0) (h : wX7_setProgram G a0 I post) : rc_CI l yX7_setProgram wsX7_setProgram rmX7_setProgram G [.ref a0] I post :=
  rc_body (by decide +kernel) rfl rfl (Nat.le_of_ble_eq_true rfl) rfl (fun p e s m below meth c X hr => gX7_setProgram_0 X hr T0 h)
/-! X7_program -/
abbrev rmX7_program : Room := { frames := 1, cells := 0, slots := 0, locals := 21 }
theorem dyX7_program : yX7_program.cls = RX7 ∧ yX7_program.cls ≠ "java/lang/invoke/MethodHandle" ∧ yX7_program.cls ≠ "java/lang/invoke/VarHandle" ∧ (parseMethodDescriptor yX7_program.desc).map (fun d => d.parameters.length) = some 1 := ⟨rfl, by decide +kernel, by decide +kernel, by decide +kernel⟩
theorem qX7_program_1 : Cond.fieldLink RX7 10 "ReelChanger" "room" "LReelChanger$Room;" ∈ wsX7_program := List.mem_of_getElem? (i := 1) (by decide +kernel)
theorem nX7_program_X7 : ∀ w ∈ wsX70, w ∈ wsX7_program := fun w h => List.mem_cons_of_mem _ (List.mem_append_left _ (List.mem_append_left _ (List.mem_append_right _ (h))))
theorem qX7_program_2 : Cond.fieldLink RX7 35 "ReelChanger$Room" "stock" "LReelChanger$Stock;" ∈ wsX7_program := List.mem_of_getElem? (i := 2) (by decide +kernel)
theorem nX7_program_X4 : ∀ w ∈ wsX40, w ∈ wsX7_program := fun w h => List.mem_cons_of_mem _ (List.mem_append_left _ (List.mem_append_right _ (h)))
def wX7_program (G : rc_G) (a0 : Nat) (a1 : Int) (I : rc_M) (post : Int → rc_M → Prop) : Prop :=
  wX6_numberAtPlace G (a0 + 1 + 1) a1 I (fun r2 I1 => post r2 I1)
set_option maxRecDepth 100000 in
set_option maxHeartbeats 4000000 in
theorem gX7_program_0 {p : Program} {l : Launch} {e : Env} {s : State} {m : MethodId} {below : List Frame} {meth : Method} {c : Code} {G : rc_G} {a0 : Nat} {a1 : Int} {I : rc_M} {post : Int → rc_M → Prop}  (X : rc_X p s m ([.ref a0, .int (rc_o a1)] : List Value).toArray meth c cX7_program 2 wsX7_program RX7 G (rc_A G)) (hr : meth.sig.returnType = some .int) (T0 : kX7 G a0)  (h : wX7_program G a0 a1 I post) : rc_g p l e rmX7_program s m ([.ref a0, .int (rc_o a1)] : List Value).toArray below meth c 0 0 (MQ below (rc_QI G post) ([.ref a0, .int (rc_o a1)] : List Value).toArray s 0 0 (rc_A G)) 2 G (rc_A G) 0 [(0, .ref a0), (1, .int (rc_o a1))] [] I := by
  unfold wX7_program at h
  refine rc_aload_n X dX7_program_0 rfl 0 rfl ?_
  refine gfX7_room X T0.1 nX7_program_X7 qX7_program_1 dX7_program_1 ?_
  refine gfX4_stock X T0.2.1.1 nX7_program_X4 qX7_program_2 dX7_program_4 ?_
  refine rc_iload_n X dX7_program_7 rfl 1 rfl ?_
  refine rc_cVI (rest := []) X (mX6_numberAtPlace T0.2.1.2.1 h) gX7_program_X6_numberAtPlace rfl ⟨rfl, rfl⟩ dyX6_numberAtPlace ⟨Nat.le_of_ble_eq_true rfl, Nat.le_of_ble_eq_true rfl⟩ (rc_recv X T0.2.1.2.1.1 rfl) rfl rfl (Nat.le_of_ble_eq_true rfl) dX7_program_8 ⟨Nat.zero_le _, Nat.zero_le _⟩ (fun r2 I1 h => ?_)
  exact rc_iret X hr dX7_program_11 h
theorem mX7_program {l : Launch} {G : rc_G} {a0 : Nat} {a1 : Int} {I : rc_M} {post : Int → rc_M → Prop} (T0 : kX7 G a0) (h : wX7_program G a0 a1 I post) : rc_CI l yX7_program wsX7_program rmX7_program G [.ref a0, .int (rc_o a1)] I post :=
  rc_body (by decide +kernel) rfl rfl (Nat.le_of_ble_eq_true rfl) rfl (fun p e s m below meth c X hr => gX7_program_0 X hr T0 h)
/-! X7_begin -/
abbrev rmX7_begin : Room := { frames := 2, cells := 0, slots := 0, locals := 42 }
theorem dyX7_begin : yX7_begin.cls = RX7 ∧ yX7_begin.cls ≠ "java/lang/invoke/MethodHandle" ∧ yX7_begin.cls ≠ "java/lang/invoke/VarHandle" ∧ (parseMethodDescriptor yX7_begin.desc).map (fun d => d.parameters.length) = some 0 := ⟨rfl, by decide +kernel, by decide +kernel, by decide +kernel⟩
theorem qX7_begin_1 : Cond.fieldLink RX7 10 "ReelChanger" "room" "LReelChanger$Room;" ∈ wsX7_begin := List.mem_of_getElem? (i := 1) (by decide +kernel)
theorem nX7_begin_X7 : ∀ w ∈ wsX70, w ∈ wsX7_begin := fun w h => List.mem_cons_of_mem _ (List.mem_append_left _ (List.mem_append_left _ (List.mem_append_left _ (List.mem_append_left _ (List.mem_append_left _ (List.mem_append_right _ (h)))))))
theorem qX7_begin_2 : Cond.fieldLink RX7 35 "ReelChanger$Room" "stock" "LReelChanger$Stock;" ∈ wsX7_begin := List.mem_of_getElem? (i := 2) (by decide +kernel)
theorem nX7_begin_X4 : ∀ w ∈ wsX40, w ∈ wsX7_begin := fun w h => List.mem_cons_of_mem _ (List.mem_append_left _ (List.mem_append_left _ (List.mem_append_left _ (List.mem_append_left _ (List.mem_append_right _ (h))))))
theorem qX7_begin_3 : Cond.fieldLink RX7 131 "ReelChanger$Stock" "placeCount" "I" ∈ wsX7_begin := List.mem_of_getElem? (i := 3) (by decide +kernel)
theorem nX7_begin_X6 : ∀ w ∈ wsX60, w ∈ wsX7_begin := fun w h => List.mem_cons_of_mem _ (List.mem_append_left _ (List.mem_append_left _ (List.mem_append_left _ (List.mem_append_right _ (h)))))
theorem qX7_begin_5 : Cond.fieldLink RX7 106 "ReelChanger$Room" "show" "LReelChanger$Show;" ∈ wsX7_begin := List.mem_of_getElem? (i := 5) (by decide +kernel)
theorem qX7_begin_4 : Cond.constant RX7 116 (-100003) ∈ wsX7_begin := List.mem_of_getElem? (i := 4) (by decide +kernel)
def wX7_begin (G : rc_G) (a0 : Nat) (I : rc_M) (post : Int → rc_M → Prop) : Prop :=
  rc_R (I (a0 + 1 + 1) 1) ∧ ((¬ (I (a0 + 1 + 1) 1) = 0 → wX5_open G (a0 + 1 + 35) (a0 + 1 + 1) I (fun I3 => post (I3 (a0 + 1 + 1) 1) I3)) ∧ ((I (a0 + 1 + 1) 1) = 0 → post (-100003) I))
set_option maxRecDepth 100000 in
set_option maxHeartbeats 4000000 in
theorem gX7_begin_0 {p : Program} {l : Launch} {e : Env} {s : State} {m : MethodId} {below : List Frame} {meth : Method} {c : Code} {G : rc_G} {a0 : Nat} {I : rc_M} {post : Int → rc_M → Prop}  (X : rc_X p s m ([.ref a0] : List Value).toArray meth c cX7_begin 1 wsX7_begin RX7 G (rc_A G)) (hr : meth.sig.returnType = some .int) (T0 : kX7 G a0)  (h : wX7_begin G a0 I post) : rc_g p l e rmX7_begin s m ([.ref a0] : List Value).toArray below meth c 0 0 (MQ below (rc_QI G post) ([.ref a0] : List Value).toArray s 0 0 (rc_A G)) 1 G (rc_A G) 0 [(0, .ref a0)] [] I := by
  unfold wX7_begin at h
  refine rc_aload_n X dX7_begin_0 rfl 0 rfl ?_
  refine gfX7_room X T0.1 nX7_begin_X7 qX7_begin_1 dX7_begin_1 ?_
  refine gfX4_stock X T0.2.1.1 nX7_begin_X4 qX7_begin_2 dX7_begin_4 ?_
  refine gfX6_placeCount X T0.2.1.2.1.1 nX7_begin_X6 qX7_begin_3 dX7_begin_7 ?_
  obtain ⟨c1, h⟩ := h
  refine rc_if_ne X 16 dX7_begin_10 (by decide) c1 (fun c2 => ?_) (fun c2 => ?_)
  · have h := h.1 c2
    refine rc_aload_n X dX7_begin_16 rfl 0 rfl ?_
    refine gfX7_room X T0.1 nX7_begin_X7 qX7_begin_1 dX7_begin_17 ?_
    refine gfX4_show X T0.2.1.1 nX7_begin_X4 qX7_begin_5 dX7_begin_20 ?_
    refine rc_aload_n X dX7_begin_23 rfl 0 rfl ?_
    refine gfX7_room X T0.1 nX7_begin_X7 qX7_begin_1 dX7_begin_24 ?_
    refine gfX4_stock X T0.2.1.1 nX7_begin_X4 qX7_begin_2 dX7_begin_27 ?_
    refine rc_cVV (rest := []) X (mX5_open T0.2.1.2.2 T0.2.1.2.1 h) gX7_begin_X5_open rfl ⟨rfl, rfl⟩ dyX5_open ⟨Nat.le_of_ble_eq_true rfl, Nat.le_of_ble_eq_true rfl⟩ (rc_recv X T0.2.1.2.2.1 rfl) rfl rfl (Nat.le_of_ble_eq_true rfl) dX7_begin_30 ⟨Nat.zero_le _, Nat.zero_le _⟩ (fun I3 h => ?_)
    refine rc_aload_n X dX7_begin_33 rfl 0 rfl ?_
    refine gfX7_room X T0.1 nX7_begin_X7 qX7_begin_1 dX7_begin_34 ?_
    refine gfX4_stock X T0.2.1.1 nX7_begin_X4 qX7_begin_2 dX7_begin_37 ?_
    refine gfX6_placeCount X T0.2.1.2.1.1 nX7_begin_X6 qX7_begin_3 dX7_begin_40 ?_
    exact rc_iret X hr dX7_begin_43 h
  · have h := h.2 c2
    refine rc_ldc (n := (-100003)) X qX7_begin_4 (by decide +kernel) dX7_begin_13 ?_
    exact rc_iret X hr dX7_begin_15 h
theorem mX7_begin {l : Launch} {G : rc_G} {a0 : Nat} {I : rc_M} {post : Int → rc_M → Prop} (T0 : kX7 G a0) (h : wX7_begin G a0 I post) : rc_CI l yX7_begin wsX7_begin rmX7_begin G [.ref a0] I post :=
  rc_body (by decide +kernel) rfl rfl (Nat.le_of_ble_eq_true rfl) rfl (fun p e s m below meth c X hr => gX7_begin_0 X hr T0 h)
/-! X7_pass -/
abbrev rmX7_pass : Room := { frames := 6, cells := 0, slots := 0, locals := 135 }
theorem dyX7_pass : yX7_pass.cls = RX7 ∧ yX7_pass.cls ≠ "java/lang/invoke/MethodHandle" ∧ yX7_pass.cls ≠ "java/lang/invoke/VarHandle" ∧ (parseMethodDescriptor yX7_pass.desc).map (fun d => d.parameters.length) = some 1 := ⟨rfl, by decide +kernel, by decide +kernel, by decide +kernel⟩
theorem qX7_pass_2 : Cond.fieldLink RX7 10 "ReelChanger" "room" "LReelChanger$Room;" ∈ wsX7_pass := List.mem_of_getElem? (i := 2) (by decide +kernel)
theorem nX7_pass_X7 : ∀ w ∈ wsX70, w ∈ wsX7_pass := fun w h => List.mem_cons_of_mem _ (List.mem_append_left _ (List.mem_append_left _ (List.mem_append_left _ (List.mem_append_left _ (List.mem_append_left _ (List.mem_append_left _ (List.mem_append_right _ (h))))))))
theorem qX7_pass_3 : Cond.fieldLink RX7 106 "ReelChanger$Room" "show" "LReelChanger$Show;" ∈ wsX7_pass := List.mem_of_getElem? (i := 3) (by decide +kernel)
theorem nX7_pass_X4 : ∀ w ∈ wsX40, w ∈ wsX7_pass := fun w h => List.mem_cons_of_mem _ (List.mem_append_left _ (List.mem_append_left _ (List.mem_append_left _ (List.mem_append_left _ (List.mem_append_left _ (List.mem_append_right _ (h)))))))
theorem qX7_pass_4 : Cond.fieldLink RX7 110 "ReelChanger$Show" "running" "Z" ∈ wsX7_pass := List.mem_of_getElem? (i := 4) (by decide +kernel)
theorem nX7_pass_X5 : ∀ w ∈ wsX50, w ∈ wsX7_pass := fun w h => List.mem_cons_of_mem _ (List.mem_append_left _ (List.mem_append_left _ (List.mem_append_left _ (List.mem_append_left _ (List.mem_append_right _ (h))))))
theorem qX7_pass_6 : Cond.fieldLink RX7 35 "ReelChanger$Room" "stock" "LReelChanger$Stock;" ∈ wsX7_pass := List.mem_of_getElem? (i := 6) (by decide +kernel)
theorem qX7_pass_5 : Cond.constant RX7 116 (-100003) ∈ wsX7_pass := List.mem_of_getElem? (i := 5) (by decide +kernel)
theorem qX7_pass_1 : Cond.constant RX7 34 (-100002) ∈ wsX7_pass := List.mem_of_getElem? (i := 1) (by decide +kernel)
def wX7_pass (G : rc_G) (a0 : Nat) (a1 : Int) (I : rc_M) (post : Int → rc_M → Prop) : Prop :=
  wX7_isWithin G a1 1 2000 I (fun r2 I1 => rc_R r2 ∧ ((¬ r2 = 0 → rc_R (I1 (a0 + 1 + 35) 0) ∧ ((¬ (I1 (a0 + 1 + 35) 0) = 0 → wX5_run G (a0 + 1 + 35) (a0 + 1 + 1) a1 I1 (fun r8 I7 => post r8 I7)) ∧ ((I1 (a0 + 1 + 35) 0) = 0 → post (-100003) I1))) ∧ (r2 = 0 → post (-100002) I1)))
set_option maxRecDepth 100000 in
set_option maxHeartbeats 4000000 in
theorem gX7_pass_0 {p : Program} {l : Launch} {e : Env} {s : State} {m : MethodId} {below : List Frame} {meth : Method} {c : Code} {G : rc_G} {a0 : Nat} {a1 : Int} {I : rc_M} {post : Int → rc_M → Prop}  (X : rc_X p s m ([.ref a0, .int (rc_o a1)] : List Value).toArray meth c cX7_pass 2 wsX7_pass RX7 G (rc_A G)) (hr : meth.sig.returnType = some .int) (T0 : kX7 G a0)  (h : wX7_pass G a0 a1 I post) : rc_g p l e rmX7_pass s m ([.ref a0, .int (rc_o a1)] : List Value).toArray below meth c 0 0 (MQ below (rc_QI G post) ([.ref a0, .int (rc_o a1)] : List Value).toArray s 0 0 (rc_A G)) 2 G (rc_A G) 0 [(0, .ref a0), (1, .int (rc_o a1))] [] I := by
  unfold wX7_pass at h
  refine rc_iload_n X dX7_pass_0 rfl 1 rfl ?_
  refine rc_iconst X dX7_pass_1 ?_
  refine rc_sipush X dX7_pass_2 (rc_b16 _ ⟨by decide, by decide⟩) ?_
  refine rc_cSI (rest := []) X (mX7_isWithin  h) gX7_pass_X7_isWithin rfl ⟨rfl, rfl⟩ dyX7_isWithin ⟨Nat.le_of_ble_eq_true rfl, Nat.le_of_ble_eq_true rfl⟩ rfl rfl (Nat.le_of_ble_eq_true rfl) dX7_pass_5 ⟨Nat.zero_le _, Nat.zero_le _⟩ (fun r2 I1 h => ?_)
  obtain ⟨c3, h⟩ := h
  refine rc_if_ne X 14 dX7_pass_8 (by decide) c3 (fun c4 => ?_) (fun c4 => ?_)
  · have h := h.1 c4
    refine rc_aload_n X dX7_pass_14 rfl 0 rfl ?_
    refine gfX7_room X T0.1 nX7_pass_X7 qX7_pass_2 dX7_pass_15 ?_
    refine gfX4_show X T0.2.1.1 nX7_pass_X4 qX7_pass_3 dX7_pass_18 ?_
    refine gfX5_running X T0.2.1.2.2.1 nX7_pass_X5 qX7_pass_4 dX7_pass_21 ?_
    obtain ⟨c5, h⟩ := h
    refine rc_if_ne X 30 dX7_pass_24 (by decide) c5 (fun c6 => ?_) (fun c6 => ?_)
    · have h := h.1 c6
      refine rc_aload_n X dX7_pass_30 rfl 0 rfl ?_
      refine gfX7_room X T0.1 nX7_pass_X7 qX7_pass_2 dX7_pass_31 ?_
      refine gfX4_show X T0.2.1.1 nX7_pass_X4 qX7_pass_3 dX7_pass_34 ?_
      refine rc_aload_n X dX7_pass_37 rfl 0 rfl ?_
      refine gfX7_room X T0.1 nX7_pass_X7 qX7_pass_2 dX7_pass_38 ?_
      refine gfX4_stock X T0.2.1.1 nX7_pass_X4 qX7_pass_6 dX7_pass_41 ?_
      refine rc_iload_n X dX7_pass_44 rfl 1 rfl ?_
      refine rc_cVI (rest := []) X (mX5_run T0.2.1.2.2 T0.2.1.2.1 h) gX7_pass_X5_run rfl ⟨rfl, rfl⟩ dyX5_run ⟨Nat.le_of_ble_eq_true rfl, Nat.le_of_ble_eq_true rfl⟩ (rc_recv X T0.2.1.2.2.1 rfl) rfl rfl (Nat.le_of_ble_eq_true rfl) dX7_pass_45 ⟨Nat.zero_le _, Nat.zero_le _⟩ (fun r8 I7 h => ?_)
      exact rc_iret X hr dX7_pass_48 h
    · have h := h.2 c6
      refine rc_ldc (n := (-100003)) X qX7_pass_5 (by decide +kernel) dX7_pass_27 ?_
      exact rc_iret X hr dX7_pass_29 h
  · have h := h.2 c4
    refine rc_ldc (n := (-100002)) X qX7_pass_1 (by decide +kernel) dX7_pass_11 ?_
    exact rc_iret X hr dX7_pass_13 h
theorem mX7_pass {l : Launch} {G : rc_G} {a0 : Nat} {a1 : Int} {I : rc_M} {post : Int → rc_M → Prop} (T0 : kX7 G a0) (h : wX7_pass G a0 a1 I post) : rc_CI l yX7_pass wsX7_pass rmX7_pass G [.ref a0, .int (rc_o a1)] I post :=
  rc_body (by decide +kernel) rfl rfl (Nat.le_of_ble_eq_true rfl) rfl (fun p e s m below meth c X hr => gX7_pass_0 X hr T0 h)
/-! X7_tell -/
abbrev rmX7_tell : Room := { frames := 1, cells := 0, slots := 0, locals := 21 }
theorem dyX7_tell : yX7_tell.cls = RX7 ∧ yX7_tell.cls ≠ "java/lang/invoke/MethodHandle" ∧ yX7_tell.cls ≠ "java/lang/invoke/VarHandle" ∧ (parseMethodDescriptor yX7_tell.desc).map (fun d => d.parameters.length) = some 1 := ⟨rfl, by decide +kernel, by decide +kernel, by decide +kernel⟩
theorem qX7_tell_1 : Cond.fieldLink RX7 10 "ReelChanger" "room" "LReelChanger$Room;" ∈ wsX7_tell := List.mem_of_getElem? (i := 1) (by decide +kernel)
theorem nX7_tell_X7 : ∀ w ∈ wsX70, w ∈ wsX7_tell := fun w h => List.mem_cons_of_mem _ (List.mem_append_left _ (List.mem_append_left _ (List.mem_append_left _ (List.mem_append_right _ (h)))))
theorem qX7_tell_2 : Cond.fieldLink RX7 106 "ReelChanger$Room" "show" "LReelChanger$Show;" ∈ wsX7_tell := List.mem_of_getElem? (i := 2) (by decide +kernel)
theorem nX7_tell_X4 : ∀ w ∈ wsX40, w ∈ wsX7_tell := fun w h => List.mem_cons_of_mem _ (List.mem_append_left _ (List.mem_append_left _ (List.mem_append_right _ (h))))
def wX7_tell (G : rc_G) (a0 : Nat) (a1 : Int) (I : rc_M) (post : Int → rc_M → Prop) : Prop :=
  wX5_count G (a0 + 1 + 35) a1 I (fun r2 I1 => post r2 I1)
set_option maxRecDepth 100000 in
set_option maxHeartbeats 4000000 in
theorem gX7_tell_0 {p : Program} {l : Launch} {e : Env} {s : State} {m : MethodId} {below : List Frame} {meth : Method} {c : Code} {G : rc_G} {a0 : Nat} {a1 : Int} {I : rc_M} {post : Int → rc_M → Prop}  (X : rc_X p s m ([.ref a0, .int (rc_o a1)] : List Value).toArray meth c cX7_tell 2 wsX7_tell RX7 G (rc_A G)) (hr : meth.sig.returnType = some .int) (T0 : kX7 G a0)  (h : wX7_tell G a0 a1 I post) : rc_g p l e rmX7_tell s m ([.ref a0, .int (rc_o a1)] : List Value).toArray below meth c 0 0 (MQ below (rc_QI G post) ([.ref a0, .int (rc_o a1)] : List Value).toArray s 0 0 (rc_A G)) 2 G (rc_A G) 0 [(0, .ref a0), (1, .int (rc_o a1))] [] I := by
  unfold wX7_tell at h
  refine rc_aload_n X dX7_tell_0 rfl 0 rfl ?_
  refine gfX7_room X T0.1 nX7_tell_X7 qX7_tell_1 dX7_tell_1 ?_
  refine gfX4_show X T0.2.1.1 nX7_tell_X4 qX7_tell_2 dX7_tell_4 ?_
  refine rc_iload_n X dX7_tell_7 rfl 1 rfl ?_
  refine rc_cVI (rest := []) X (mX5_count T0.2.1.2.2 h) gX7_tell_X5_count rfl ⟨rfl, rfl⟩ dyX5_count ⟨Nat.le_of_ble_eq_true rfl, Nat.le_of_ble_eq_true rfl⟩ (rc_recv X T0.2.1.2.2.1 rfl) rfl rfl (Nat.le_of_ble_eq_true rfl) dX7_tell_8 ⟨Nat.zero_le _, Nat.zero_le _⟩ (fun r2 I1 h => ?_)
  exact rc_iret X hr dX7_tell_11 h
theorem mX7_tell {l : Launch} {G : rc_G} {a0 : Nat} {a1 : Int} {I : rc_M} {post : Int → rc_M → Prop} (T0 : kX7 G a0) (h : wX7_tell G a0 a1 I post) : rc_CI l yX7_tell wsX7_tell rmX7_tell G [.ref a0, .int (rc_o a1)] I post :=
  rc_body (by decide +kernel) rfl rfl (Nat.le_of_ble_eq_true rfl) rfl (fun p e s m below meth c X hr => gX7_tell_0 X hr T0 h)
/-! X7_projector -/
abbrev rmX7_projector : Room := { frames := 1, cells := 0, slots := 0, locals := 22 }
theorem dyX7_projector : yX7_projector.cls = RX7 ∧ yX7_projector.cls ≠ "java/lang/invoke/MethodHandle" ∧ yX7_projector.cls ≠ "java/lang/invoke/VarHandle" ∧ (parseMethodDescriptor yX7_projector.desc).map (fun d => d.parameters.length) = some 2 := ⟨rfl, by decide +kernel, by decide +kernel, by decide +kernel⟩
theorem qX7_projector_2 : Cond.fieldLink RX7 10 "ReelChanger" "room" "LReelChanger$Room;" ∈ wsX7_projector := List.mem_of_getElem? (i := 2) (by decide +kernel)
theorem nX7_projector_X7 : ∀ w ∈ wsX70, w ∈ wsX7_projector := fun w h => List.mem_cons_of_mem _ (List.mem_append_left _ (List.mem_append_left _ (List.mem_append_left _ (List.mem_append_right _ (h)))))
theorem qX7_projector_3 : Cond.fieldLink RX7 106 "ReelChanger$Room" "show" "LReelChanger$Show;" ∈ wsX7_projector := List.mem_of_getElem? (i := 3) (by decide +kernel)
theorem nX7_projector_X4 : ∀ w ∈ wsX40, w ∈ wsX7_projector := fun w h => List.mem_cons_of_mem _ (List.mem_append_left _ (List.mem_append_left _ (List.mem_append_right _ (h))))
theorem qX7_projector_4 : Cond.fieldLink RX7 149 "ReelChanger$Projector" "state" "I" ∈ wsX7_projector := List.mem_of_getElem? (i := 4) (by decide +kernel)
theorem nX7_projector_X2 : ∀ w ∈ wsX20, w ∈ wsX7_projector := fun w h => List.mem_cons_of_mem _ (List.mem_append_left _ (List.mem_append_right _ (h)))
theorem qX7_projector_6 : Cond.fieldLink RX7 154 "ReelChanger$Projector" "place" "I" ∈ wsX7_projector := List.mem_of_getElem? (i := 6) (by decide +kernel)
theorem qX7_projector_5 : Cond.constant RX7 99 (-100005) ∈ wsX7_projector := List.mem_of_getElem? (i := 5) (by decide +kernel)
theorem qX7_projector_7 : Cond.fieldLink RX7 161 "ReelChanger$Projector" "frame" "I" ∈ wsX7_projector := List.mem_of_getElem? (i := 7) (by decide +kernel)
theorem qX7_projector_8 : Cond.constant RX7 34 (-100002) ∈ wsX7_projector := List.mem_of_getElem? (i := 8) (by decide +kernel)
theorem qX7_projector_1 : Cond.constant RX7 49 (-100001) ∈ wsX7_projector := List.mem_of_getElem? (i := 1) (by decide +kernel)
def wX7_projector (G : rc_G) (a0 : Nat) (a1 : Int) (a2 : Int) (I : rc_M) (post : Int → rc_M → Prop) : Prop :=
  wX7_isWithin G a1 0 1 I (fun r2 I1 => rc_R r2 ∧ ((¬ r2 = 0 → wX5_projectorNumbered G (a0 + 1 + 35) a1 I1 (fun r6 I5 => ∃ q7, r6 = some q7 ∧ kX2 G q7 ∧ (rc_R a2 ∧ ((a2 = 0 → post (I5 q7 0) I5) ∧ (a2 = 1 → rc_R (I5 q7 0) ∧ ((¬ (I5 q7 0) = 0 → post (I5 q7 1) I5) ∧ ((I5 q7 0) = 0 → post (-100005) I5))) ∧ (a2 = 2 → wX2_isAtFrame G q7 I5 (fun r12 I11 => rc_R r12 ∧ ((r12 = 0 → post (-100005) I11) ∧ (¬ r12 = 0 → post (I11 q7 2) I11)))) ∧ ((a2 < 0 ∨ 2 < a2) → post (-100002) I5))))) ∧ (r2 = 0 → post (-100001) I1)))
set_option maxRecDepth 100000 in
set_option maxHeartbeats 4000000 in
theorem gX7_projector_0 {p : Program} {l : Launch} {e : Env} {s : State} {m : MethodId} {below : List Frame} {meth : Method} {c : Code} {G : rc_G} {a0 : Nat} {a1 : Int} {a2 : Int} {I : rc_M} {post : Int → rc_M → Prop}  (X : rc_X p s m ([.ref a0, .int (rc_o a1), .int (rc_o a2)] : List Value).toArray meth c cX7_projector 4 wsX7_projector RX7 G (rc_A G)) (hr : meth.sig.returnType = some .int) (T0 : kX7 G a0)  (h : wX7_projector G a0 a1 a2 I post) : rc_g p l e rmX7_projector s m ([.ref a0, .int (rc_o a1), .int (rc_o a2)] : List Value).toArray below meth c 0 0 (MQ below (rc_QI G post) ([.ref a0, .int (rc_o a1), .int (rc_o a2)] : List Value).toArray s 0 0 (rc_A G)) 4 G (rc_A G) 0 [(0, .ref a0), (1, .int (rc_o a1)), (2, .int (rc_o a2))] [] I := by
  unfold wX7_projector at h
  refine rc_iload_n X dX7_projector_0 rfl 1 rfl ?_
  refine rc_iconst X dX7_projector_1 ?_
  refine rc_iconst X dX7_projector_2 ?_
  refine rc_cSI (rest := []) X (mX7_isWithin  h) gX7_projector_X7_isWithin rfl ⟨rfl, rfl⟩ dyX7_isWithin ⟨Nat.le_of_ble_eq_true rfl, Nat.le_of_ble_eq_true rfl⟩ rfl rfl (Nat.le_of_ble_eq_true rfl) dX7_projector_3 ⟨Nat.zero_le _, Nat.zero_le _⟩ (fun r2 I1 h => ?_)
  obtain ⟨c3, h⟩ := h
  refine rc_if_ne X 12 dX7_projector_6 (by decide) c3 (fun c4 => ?_) (fun c4 => ?_)
  · have h := h.1 c4
    refine rc_aload_n X dX7_projector_12 rfl 0 rfl ?_
    refine gfX7_room X T0.1 nX7_projector_X7 qX7_projector_2 dX7_projector_13 ?_
    refine gfX4_show X T0.2.1.1 nX7_projector_X4 qX7_projector_3 dX7_projector_16 ?_
    refine rc_iload_n X dX7_projector_19 rfl 1 rfl ?_
    refine rc_cVQ (rest := []) X (mX5_projectorNumbered T0.2.1.2.2 h) gX7_projector_X5_projectorNumbered rfl ⟨rfl, rfl⟩ dyX5_projectorNumbered ⟨Nat.le_of_ble_eq_true rfl, Nat.le_of_ble_eq_true rfl⟩ (rc_recv X T0.2.1.2.2.1 rfl) rfl rfl (Nat.le_of_ble_eq_true rfl) dX7_projector_20 ⟨Nat.zero_le _, Nat.zero_le _⟩ (fun r6 I5 h => ?_)
    obtain ⟨q7, rfl, Tq7, h⟩ := h
    refine rc_qs ?_
    refine rc_astore_n X [(3, .ref q7), (0, .ref a0), (1, .int (rc_o a1)), (2, .int (rc_o a2))] dX7_projector_23 rfl (by decide) rfl ?_
    refine rc_iload_n X dX7_projector_24 rfl 3 rfl ?_
    obtain ⟨c8, h⟩ := h
    by_cases c15 : a2 = 0
    · have h := h.1 c15
      refine rc_tsAt X 52 0 dX7_projector_25 c8 c15 (by decide) (by decide) rfl (by decide) ?_
      refine rc_aload_n X dX7_projector_52 rfl 0 rfl ?_
      refine gfX2_state X Tq7.1 nX7_projector_X2 qX7_projector_4 dX7_projector_53 ?_
      exact rc_iret X hr dX7_projector_56 h
    by_cases c16 : a2 = 1
    · have h := h.2.1 c16
      refine rc_tsAt X 57 1 dX7_projector_25 c8 c16 (by decide) (by decide) rfl (by decide) ?_
      refine rc_aload_n X dX7_projector_57 rfl 0 rfl ?_
      refine gfX2_state X Tq7.1 nX7_projector_X2 qX7_projector_4 dX7_projector_58 ?_
      obtain ⟨c9, h⟩ := h
      refine rc_if_ne X 69 dX7_projector_61 (by decide) c9 (fun c10 => ?_) (fun c10 => ?_)
      · have h := h.1 c10
        refine rc_aload_n X dX7_projector_69 rfl 0 rfl ?_
        refine gfX2_place X Tq7.1 nX7_projector_X2 qX7_projector_6 dX7_projector_70 ?_
        exact rc_iret X hr dX7_projector_73 h
      · have h := h.2 c10
        refine rc_ldc (n := (-100005)) X qX7_projector_5 (by decide +kernel) dX7_projector_64 ?_
        refine rc_goto X 73 dX7_projector_66 (by decide) ?_
        exact rc_iret X hr dX7_projector_73 h
    by_cases c17 : a2 = 2
    · have h := h.2.2.1 c17
      refine rc_tsAt X 74 2 dX7_projector_25 c8 c17 (by decide) (by decide) rfl (by decide) ?_
      refine rc_aload_n X dX7_projector_74 rfl 0 rfl ?_
      refine rc_cVI (rest := []) X (mX2_isAtFrame Tq7 h) gX7_projector_X2_isAtFrame rfl ⟨rfl, rfl⟩ dyX2_isAtFrame ⟨Nat.le_of_ble_eq_true rfl, Nat.le_of_ble_eq_true rfl⟩ (rc_recv X Tq7.1 rfl) rfl rfl (Nat.le_of_ble_eq_true rfl) dX7_projector_75 ⟨Nat.zero_le _, Nat.zero_le _⟩ (fun r12 I11 h => ?_)
      obtain ⟨c13, h⟩ := h
      refine rc_if_eq X 88 dX7_projector_78 (by decide) c13 (fun c14 => ?_) (fun c14 => ?_)
      · have h := h.1 c14
        refine rc_ldc (n := (-100005)) X qX7_projector_5 (by decide +kernel) dX7_projector_88 ?_
        exact rc_iret X hr dX7_projector_90 h
      · have h := h.2 c14
        refine rc_aload_n X dX7_projector_81 rfl 0 rfl ?_
        refine gfX2_frame X Tq7.1 nX7_projector_X2 qX7_projector_7 dX7_projector_82 ?_
        refine rc_goto X 90 dX7_projector_85 (by decide) ?_
        exact rc_iret X hr dX7_projector_90 h
    have h := h.2.2.2 (by omega)
    refine rc_tsOut X 91 dX7_projector_25 c8 (by omega) (by decide) ?_
    refine rc_ldc (n := (-100002)) X qX7_projector_8 (by decide +kernel) dX7_projector_91 ?_
    exact rc_iret X hr dX7_projector_93 h
  · have h := h.2 c4
    refine rc_ldc (n := (-100001)) X qX7_projector_1 (by decide +kernel) dX7_projector_9 ?_
    exact rc_iret X hr dX7_projector_11 h
theorem mX7_projector {l : Launch} {G : rc_G} {a0 : Nat} {a1 : Int} {a2 : Int} {I : rc_M} {post : Int → rc_M → Prop} (T0 : kX7 G a0) (h : wX7_projector G a0 a1 a2 I post) : rc_CI l yX7_projector wsX7_projector rmX7_projector G [.ref a0, .int (rc_o a1), .int (rc_o a2)] I post :=
  rc_body (by decide +kernel) rfl rfl (Nat.le_of_ble_eq_true rfl) rfl (fun p e s m below meth c X hr => gX7_projector_0 X hr T0 h)
/-! X7_task -/
abbrev rmX7_task : Room := { frames := 2, cells := 0, slots := 0, locals := 42 }
theorem dyX7_task : yX7_task.cls = RX7 ∧ yX7_task.cls ≠ "java/lang/invoke/MethodHandle" ∧ yX7_task.cls ≠ "java/lang/invoke/VarHandle" ∧ (parseMethodDescriptor yX7_task.desc).map (fun d => d.parameters.length) = some 2 := ⟨rfl, by decide +kernel, by decide +kernel, by decide +kernel⟩
theorem qX7_task_1 : Cond.fieldLink RX7 10 "ReelChanger" "room" "LReelChanger$Room;" ∈ wsX7_task := List.mem_of_getElem? (i := 1) (by decide +kernel)
theorem nX7_task_X7 : ∀ w ∈ wsX70, w ∈ wsX7_task := fun w h => List.mem_cons_of_mem _ (List.mem_append_left _ (List.mem_append_left _ (List.mem_append_left _ (List.mem_append_right _ (h)))))
theorem qX7_task_2 : Cond.fieldLink RX7 106 "ReelChanger$Room" "show" "LReelChanger$Show;" ∈ wsX7_task := List.mem_of_getElem? (i := 2) (by decide +kernel)
theorem nX7_task_X4 : ∀ w ∈ wsX40, w ∈ wsX7_task := fun w h => List.mem_cons_of_mem _ (List.mem_append_left _ (List.mem_append_left _ (List.mem_append_right _ (h))))
theorem qX7_task_3 : Cond.fieldLink RX7 164 "ReelChanger$Show" "operator" "LReelChanger$Operator;" ∈ wsX7_task := List.mem_of_getElem? (i := 3) (by decide +kernel)
theorem nX7_task_X5 : ∀ w ∈ wsX50, w ∈ wsX7_task := fun w h => List.mem_cons_of_mem _ (List.mem_append_left _ (List.mem_append_right _ (h)))
theorem qX7_task_5 : Cond.constant RX7 34 (-100002) ∈ wsX7_task := List.mem_of_getElem? (i := 5) (by decide +kernel)
theorem qX7_task_4 : Cond.constant RX7 49 (-100001) ∈ wsX7_task := List.mem_of_getElem? (i := 4) (by decide +kernel)
def wX7_task (G : rc_G) (a0 : Nat) (a1 : Int) (a2 : Int) (I : rc_M) (post : Int → rc_M → Prop) : Prop :=
  wX0_hasTask G (a0 + 1 + 35 + 1) a1 I (fun r2 I1 => rc_R r2 ∧ ((¬ r2 = 0 → rc_R a2 ∧ ((a2 = 0 → wX0_kindOf G (a0 + 1 + 35 + 1) a1 I1 (fun r7 I6 => post r7 I6)) ∧ (a2 = 1 → wX0_projectorOf G (a0 + 1 + 35 + 1) a1 I1 (fun r9 I8 => post r9 I8)) ∧ (¬ a2 = 0 → ¬ a2 = 1 → post (-100002) I1))) ∧ (r2 = 0 → post (-100001) I1)))
set_option maxRecDepth 100000 in
set_option maxHeartbeats 4000000 in
theorem gX7_task_0 {p : Program} {l : Launch} {e : Env} {s : State} {m : MethodId} {below : List Frame} {meth : Method} {c : Code} {G : rc_G} {a0 : Nat} {a1 : Int} {a2 : Int} {I : rc_M} {post : Int → rc_M → Prop}  (X : rc_X p s m ([.ref a0, .int (rc_o a1), .int (rc_o a2)] : List Value).toArray meth c cX7_task 4 wsX7_task RX7 G (rc_A G)) (hr : meth.sig.returnType = some .int) (T0 : kX7 G a0)  (h : wX7_task G a0 a1 a2 I post) : rc_g p l e rmX7_task s m ([.ref a0, .int (rc_o a1), .int (rc_o a2)] : List Value).toArray below meth c 0 0 (MQ below (rc_QI G post) ([.ref a0, .int (rc_o a1), .int (rc_o a2)] : List Value).toArray s 0 0 (rc_A G)) 4 G (rc_A G) 0 [(0, .ref a0), (1, .int (rc_o a1)), (2, .int (rc_o a2))] [] I := by
  unfold wX7_task at h
  refine rc_aload_n X dX7_task_0 rfl 0 rfl ?_
  refine gfX7_room X T0.1 nX7_task_X7 qX7_task_1 dX7_task_1 ?_
  refine gfX4_show X T0.2.1.1 nX7_task_X4 qX7_task_2 dX7_task_4 ?_
  refine gfX5_operator X T0.2.1.2.2.1 nX7_task_X5 qX7_task_3 dX7_task_7 ?_
  refine rc_astore_n X [(3, .ref (a0 + 1 + 35 + 1)), (0, .ref a0), (1, .int (rc_o a1)), (2, .int (rc_o a2))] dX7_task_10 rfl (by decide) rfl ?_
  refine rc_aload_n X dX7_task_11 rfl 0 rfl ?_
  refine rc_iload_n X dX7_task_12 rfl 2 rfl ?_
  refine rc_cVI (rest := []) X (mX0_hasTask T0.2.1.2.2.2.1 h) gX7_task_X0_hasTask rfl ⟨rfl, rfl⟩ dyX0_hasTask ⟨Nat.le_of_ble_eq_true rfl, Nat.le_of_ble_eq_true rfl⟩ (rc_recv X T0.2.1.2.2.2.1.1 rfl) rfl rfl (Nat.le_of_ble_eq_true rfl) dX7_task_13 ⟨Nat.zero_le _, Nat.zero_le _⟩ (fun r2 I1 h => ?_)
  obtain ⟨c3, h⟩ := h
  refine rc_if_ne X 22 dX7_task_16 (by decide) c3 (fun c4 => ?_) (fun c4 => ?_)
  · have h := h.1 c4
    refine rc_iload_n X dX7_task_22 rfl 3 rfl ?_
    obtain ⟨c5, h⟩ := h
    by_cases c10 : a2 = 0
    · have h := h.1 c10
      refine rc_look X (off := 25) 48 dX7_task_23 rfl c5 (by rw [c10]; rfl) (by decide) ?_
      refine rc_aload_n X dX7_task_48 rfl 0 rfl ?_
      refine rc_iload_n X dX7_task_49 rfl 2 rfl ?_
      refine rc_cVI (rest := []) X (mX0_kindOf T0.2.1.2.2.2.1 h) gX7_task_X0_kindOf rfl ⟨rfl, rfl⟩ dyX0_kindOf ⟨Nat.le_of_ble_eq_true rfl, Nat.le_of_ble_eq_true rfl⟩ (rc_recv X T0.2.1.2.2.2.1.1 rfl) rfl rfl (Nat.le_of_ble_eq_true rfl) dX7_task_50 ⟨Nat.zero_le _, Nat.zero_le _⟩ (fun r7 I6 h => ?_)
      exact rc_iret X hr dX7_task_53 h
    by_cases c11 : a2 = 1
    · have h := h.2.1 c11
      refine rc_look X (off := 31) 54 dX7_task_23 rfl c5 (by rw [c11]; rfl) (by decide) ?_
      refine rc_aload_n X dX7_task_54 rfl 0 rfl ?_
      refine rc_iload_n X dX7_task_55 rfl 2 rfl ?_
      refine rc_cVI (rest := []) X (mX0_projectorOf T0.2.1.2.2.2.1 h) gX7_task_X0_projectorOf rfl ⟨rfl, rfl⟩ dyX0_projectorOf ⟨Nat.le_of_ble_eq_true rfl, Nat.le_of_ble_eq_true rfl⟩ (rc_recv X T0.2.1.2.2.2.1.1 rfl) rfl rfl (Nat.le_of_ble_eq_true rfl) dX7_task_56 ⟨Nat.zero_le _, Nat.zero_le _⟩ (fun r9 I8 h => ?_)
      exact rc_iret X hr dX7_task_59 h
    have h := h.2.2 c10 c11
    refine rc_look X (off := 37) 60 dX7_task_23 rfl c5 (by simp only [Op.lookupswitch.offset_cons, Op.lookupswitch.offset]; (repeat' split) <;> omega) (by decide) ?_
    refine rc_ldc (n := (-100002)) X qX7_task_5 (by decide +kernel) dX7_task_60 ?_
    exact rc_iret X hr dX7_task_62 h
  · have h := h.2 c4
    refine rc_ldc (n := (-100001)) X qX7_task_4 (by decide +kernel) dX7_task_19 ?_
    exact rc_iret X hr dX7_task_21 h
theorem mX7_task {l : Launch} {G : rc_G} {a0 : Nat} {a1 : Int} {a2 : Int} {I : rc_M} {post : Int → rc_M → Prop} (T0 : kX7 G a0) (h : wX7_task G a0 a1 a2 I post) : rc_CI l yX7_task wsX7_task rmX7_task G [.ref a0, .int (rc_o a1), .int (rc_o a2)] I post :=
  rc_body (by decide +kernel) rfl rfl (Nat.le_of_ble_eq_true rfl) rfl (fun p e s m below meth c X hr => gX7_task_0 X hr T0 h)
/-! X7_foretold -/
abbrev rmX7_foretold : Room := { frames := 0, cells := 0, slots := 0, locals := 0 }
theorem dyX7_foretold : yX7_foretold.cls = RX7 ∧ yX7_foretold.cls ≠ "java/lang/invoke/MethodHandle" ∧ yX7_foretold.cls ≠ "java/lang/invoke/VarHandle" ∧ (parseMethodDescriptor yX7_foretold.desc).map (fun d => d.parameters.length) = some 1 := ⟨rfl, by decide +kernel, by decide +kernel, by decide +kernel⟩
theorem qX7_foretold_1 : Cond.fieldLink RX7 16 "ReelChanger" "trial" "LReelChanger$Room;" ∈ wsX7_foretold := List.mem_of_getElem? (i := 1) (by decide +kernel)
theorem nX7_foretold_X7 : ∀ w ∈ wsX70, w ∈ wsX7_foretold := fun w h => List.mem_cons_of_mem _ (List.mem_append_left _ (List.mem_append_left _ (List.mem_append_right _ (h))))
theorem qX7_foretold_2 : Cond.fieldLink RX7 106 "ReelChanger$Room" "show" "LReelChanger$Show;" ∈ wsX7_foretold := List.mem_of_getElem? (i := 2) (by decide +kernel)
theorem nX7_foretold_X4 : ∀ w ∈ wsX40, w ∈ wsX7_foretold := fun w h => List.mem_cons_of_mem _ (List.mem_append_left _ (List.mem_append_right _ (h)))
theorem qX7_foretold_3 : Cond.fieldLink RX7 110 "ReelChanger$Show" "running" "Z" ∈ wsX7_foretold := List.mem_of_getElem? (i := 3) (by decide +kernel)
theorem nX7_foretold_X5 : ∀ w ∈ wsX50, w ∈ wsX7_foretold := fun w h => List.mem_cons_of_mem _ (List.mem_append_right _ (h))
theorem qX7_foretold_5 : Cond.fieldLink RX7 225 "ReelChanger$Show" "time" "I" ∈ wsX7_foretold := List.mem_of_getElem? (i := 5) (by decide +kernel)
theorem qX7_foretold_6 : Cond.fieldLink RX7 228 "ReelChanger$Show" "dark" "I" ∈ wsX7_foretold := List.mem_of_getElem? (i := 6) (by decide +kernel)
theorem qX7_foretold_7 : Cond.fieldLink RX7 231 "ReelChanger$Show" "missed" "I" ∈ wsX7_foretold := List.mem_of_getElem? (i := 7) (by decide +kernel)
theorem qX7_foretold_8 : Cond.fieldLink RX7 234 "ReelChanger$Show" "late" "I" ∈ wsX7_foretold := List.mem_of_getElem? (i := 8) (by decide +kernel)
theorem qX7_foretold_9 : Cond.fieldLink RX7 237 "ReelChanger$Show" "breaks" "I" ∈ wsX7_foretold := List.mem_of_getElem? (i := 9) (by decide +kernel)
theorem qX7_foretold_4 : Cond.constant RX7 99 (-100005) ∈ wsX7_foretold := List.mem_of_getElem? (i := 4) (by decide +kernel)
def wX7_foretold (G : rc_G) (a0 : Nat) (a1 : Int) (I : rc_M) (post : Int → rc_M → Prop) : Prop :=
  rc_R (I (a0 + 42 + 35) 0) ∧ (((I (a0 + 42 + 35) 0) = 0 → rc_R a1 ∧ ((a1 = 0 → post (I (a0 + 42 + 35) 1) I) ∧ (a1 = 1 → post (I (a0 + 42 + 35) 2) I) ∧ (a1 = 2 → post (I (a0 + 42 + 35) 3) I) ∧ (a1 = 3 → post (I (a0 + 42 + 35) 4) I) ∧ ((a1 < 0 ∨ 3 < a1) → post (I (a0 + 42 + 35) 5) I))) ∧ (¬ (I (a0 + 42 + 35) 0) = 0 → post (-100005) I))
set_option maxRecDepth 100000 in
set_option maxHeartbeats 4000000 in
theorem gX7_foretold_0 {p : Program} {l : Launch} {e : Env} {s : State} {m : MethodId} {below : List Frame} {meth : Method} {c : Code} {G : rc_G} {a0 : Nat} {a1 : Int} {I : rc_M} {post : Int → rc_M → Prop}  (X : rc_X p s m ([.ref a0, .int (rc_o a1)] : List Value).toArray meth c cX7_foretold 3 wsX7_foretold RX7 G (rc_A G)) (hr : meth.sig.returnType = some .int) (T0 : kX7 G a0)  (h : wX7_foretold G a0 a1 I post) : rc_g p l e rmX7_foretold s m ([.ref a0, .int (rc_o a1)] : List Value).toArray below meth c 0 0 (MQ below (rc_QI G post) ([.ref a0, .int (rc_o a1)] : List Value).toArray s 0 0 (rc_A G)) 3 G (rc_A G) 0 [(0, .ref a0), (1, .int (rc_o a1))] [] I := by
  unfold wX7_foretold at h
  refine rc_aload_n X dX7_foretold_0 rfl 0 rfl ?_
  refine gfX7_trial X T0.1 nX7_foretold_X7 qX7_foretold_1 dX7_foretold_1 ?_
  refine gfX4_show X T0.2.2.1.1 nX7_foretold_X4 qX7_foretold_2 dX7_foretold_4 ?_
  refine rc_astore_n X [(2, .ref (a0 + 42 + 35)), (0, .ref a0), (1, .int (rc_o a1))] dX7_foretold_7 rfl (by decide) rfl ?_
  refine rc_aload_n X dX7_foretold_8 rfl 0 rfl ?_
  refine gfX5_running X T0.2.2.1.2.2.1 nX7_foretold_X5 qX7_foretold_3 dX7_foretold_9 ?_
  obtain ⟨c1, h⟩ := h
  refine rc_if_eq X 18 dX7_foretold_12 (by decide) c1 (fun c2 => ?_) (fun c2 => ?_)
  · have h := h.1 c2
    refine rc_iload_n X dX7_foretold_18 rfl 2 rfl ?_
    obtain ⟨c3, h⟩ := h
    by_cases c4 : a1 = 0
    · have h := h.1 c4
      refine rc_tsAt X 48 0 dX7_foretold_19 c3 c4 (by decide) (by decide) rfl (by decide) ?_
      refine rc_aload_n X dX7_foretold_48 rfl 0 rfl ?_
      refine gfX5_time X T0.2.2.1.2.2.1 nX7_foretold_X5 qX7_foretold_5 dX7_foretold_49 ?_
      exact rc_iret X hr dX7_foretold_52 h
    by_cases c5 : a1 = 1
    · have h := h.2.1 c5
      refine rc_tsAt X 53 1 dX7_foretold_19 c3 c5 (by decide) (by decide) rfl (by decide) ?_
      refine rc_aload_n X dX7_foretold_53 rfl 0 rfl ?_
      refine gfX5_dark X T0.2.2.1.2.2.1 nX7_foretold_X5 qX7_foretold_6 dX7_foretold_54 ?_
      exact rc_iret X hr dX7_foretold_57 h
    by_cases c6 : a1 = 2
    · have h := h.2.2.1 c6
      refine rc_tsAt X 58 2 dX7_foretold_19 c3 c6 (by decide) (by decide) rfl (by decide) ?_
      refine rc_aload_n X dX7_foretold_58 rfl 0 rfl ?_
      refine gfX5_missed X T0.2.2.1.2.2.1 nX7_foretold_X5 qX7_foretold_7 dX7_foretold_59 ?_
      exact rc_iret X hr dX7_foretold_62 h
    by_cases c7 : a1 = 3
    · have h := h.2.2.2.1 c7
      refine rc_tsAt X 63 3 dX7_foretold_19 c3 c7 (by decide) (by decide) rfl (by decide) ?_
      refine rc_aload_n X dX7_foretold_63 rfl 0 rfl ?_
      refine gfX5_late X T0.2.2.1.2.2.1 nX7_foretold_X5 qX7_foretold_8 dX7_foretold_64 ?_
      exact rc_iret X hr dX7_foretold_67 h
    have h := h.2.2.2.2 (by omega)
    refine rc_tsOut X 68 dX7_foretold_19 c3 (by omega) (by decide) ?_
    refine rc_aload_n X dX7_foretold_68 rfl 0 rfl ?_
    refine gfX5_breaks X T0.2.2.1.2.2.1 nX7_foretold_X5 qX7_foretold_9 dX7_foretold_69 ?_
    exact rc_iret X hr dX7_foretold_72 h
  · have h := h.2 c2
    refine rc_ldc (n := (-100005)) X qX7_foretold_4 (by decide +kernel) dX7_foretold_15 ?_
    exact rc_iret X hr dX7_foretold_17 h
theorem mX7_foretold {l : Launch} {G : rc_G} {a0 : Nat} {a1 : Int} {I : rc_M} {post : Int → rc_M → Prop} (T0 : kX7 G a0) (h : wX7_foretold G a0 a1 I post) : rc_CI l yX7_foretold wsX7_foretold rmX7_foretold G [.ref a0, .int (rc_o a1)] I post :=
  rc_body (by decide +kernel) rfl rfl (Nat.le_of_ble_eq_true rfl) rfl (fun p e s m below meth c X hr => gX7_foretold_0 X hr T0 h)
/-! X7_forecast -/
abbrev rmX7_forecast : Room := { frames := 6, cells := 0, slots := 0, locals := 135 }
theorem dyX7_forecast : yX7_forecast.cls = RX7 ∧ yX7_forecast.cls ≠ "java/lang/invoke/MethodHandle" ∧ yX7_forecast.cls ≠ "java/lang/invoke/VarHandle" ∧ (parseMethodDescriptor yX7_forecast.desc).map (fun d => d.parameters.length) = some 1 := ⟨rfl, by decide +kernel, by decide +kernel, by decide +kernel⟩
theorem qX7_forecast_2 : Cond.fieldLink RX7 10 "ReelChanger" "room" "LReelChanger$Room;" ∈ wsX7_forecast := List.mem_of_getElem? (i := 2) (by decide +kernel)
theorem nX7_forecast_X7 : ∀ w ∈ wsX70, w ∈ wsX7_forecast := fun w h => List.mem_cons_of_mem _ (List.mem_append_left _ (List.mem_append_left _ (List.mem_append_left _ (List.mem_append_left _ (List.mem_append_left _ (List.mem_append_left _ (List.mem_append_right _ (h))))))))
theorem qX7_forecast_3 : Cond.fieldLink RX7 106 "ReelChanger$Room" "show" "LReelChanger$Show;" ∈ wsX7_forecast := List.mem_of_getElem? (i := 3) (by decide +kernel)
theorem nX7_forecast_X4 : ∀ w ∈ wsX40, w ∈ wsX7_forecast := fun w h => List.mem_cons_of_mem _ (List.mem_append_left _ (List.mem_append_left _ (List.mem_append_left _ (List.mem_append_left _ (List.mem_append_left _ (List.mem_append_right _ (h)))))))
theorem qX7_forecast_4 : Cond.fieldLink RX7 110 "ReelChanger$Show" "running" "Z" ∈ wsX7_forecast := List.mem_of_getElem? (i := 4) (by decide +kernel)
theorem nX7_forecast_X5 : ∀ w ∈ wsX50, w ∈ wsX7_forecast := fun w h => List.mem_cons_of_mem _ (List.mem_append_left _ (List.mem_append_left _ (List.mem_append_left _ (List.mem_append_left _ (List.mem_append_right _ (h))))))
theorem qX7_forecast_6 : Cond.fieldLink RX7 16 "ReelChanger" "trial" "LReelChanger$Room;" ∈ wsX7_forecast := List.mem_of_getElem? (i := 6) (by decide +kernel)
theorem qX7_forecast_7 : Cond.fieldLink RX7 35 "ReelChanger$Room" "stock" "LReelChanger$Stock;" ∈ wsX7_forecast := List.mem_of_getElem? (i := 7) (by decide +kernel)
theorem qX7_forecast_5 : Cond.constant RX7 116 (-100003) ∈ wsX7_forecast := List.mem_of_getElem? (i := 5) (by decide +kernel)
theorem qX7_forecast_1 : Cond.constant RX7 49 (-100001) ∈ wsX7_forecast := List.mem_of_getElem? (i := 1) (by decide +kernel)
def wX7_forecast (G : rc_G) (a0 : Nat) (a1 : Int) (I : rc_M) (post : Int → rc_M → Prop) : Prop :=
  wX7_isWithin G a1 0 4 I (fun r2 I1 => rc_R r2 ∧ ((¬ r2 = 0 → rc_R (I1 (a0 + 1 + 35) 0) ∧ ((¬ (I1 (a0 + 1 + 35) 0) = 0 → wX4_copyFrom G (a0 + 42) (a0 + 1) I1 (fun I7 => wX5_run G (a0 + 42 + 35) (a0 + 42 + 1) 20000 I7 (fun r9 I8 => wX7_foretold G a0 a1 I8 (fun r11 I10 => post r11 I10)))) ∧ ((I1 (a0 + 1 + 35) 0) = 0 → post (-100003) I1))) ∧ (r2 = 0 → post (-100001) I1)))
set_option maxRecDepth 100000 in
set_option maxHeartbeats 4000000 in
theorem gX7_forecast_0 {p : Program} {l : Launch} {e : Env} {s : State} {m : MethodId} {below : List Frame} {meth : Method} {c : Code} {G : rc_G} {a0 : Nat} {a1 : Int} {I : rc_M} {post : Int → rc_M → Prop}  (X : rc_X p s m ([.ref a0, .int (rc_o a1)] : List Value).toArray meth c cX7_forecast 2 wsX7_forecast RX7 G (rc_A G)) (hr : meth.sig.returnType = some .int) (T0 : kX7 G a0)  (h : wX7_forecast G a0 a1 I post) : rc_g p l e rmX7_forecast s m ([.ref a0, .int (rc_o a1)] : List Value).toArray below meth c 0 0 (MQ below (rc_QI G post) ([.ref a0, .int (rc_o a1)] : List Value).toArray s 0 0 (rc_A G)) 2 G (rc_A G) 0 [(0, .ref a0), (1, .int (rc_o a1))] [] I := by
  unfold wX7_forecast at h
  refine rc_iload_n X dX7_forecast_0 rfl 1 rfl ?_
  refine rc_iconst X dX7_forecast_1 ?_
  refine rc_iconst X dX7_forecast_2 ?_
  refine rc_cSI (rest := []) X (mX7_isWithin  h) gX7_forecast_X7_isWithin rfl ⟨rfl, rfl⟩ dyX7_isWithin ⟨Nat.le_of_ble_eq_true rfl, Nat.le_of_ble_eq_true rfl⟩ rfl rfl (Nat.le_of_ble_eq_true rfl) dX7_forecast_3 ⟨Nat.zero_le _, Nat.zero_le _⟩ (fun r2 I1 h => ?_)
  obtain ⟨c3, h⟩ := h
  refine rc_if_ne X 12 dX7_forecast_6 (by decide) c3 (fun c4 => ?_) (fun c4 => ?_)
  · have h := h.1 c4
    refine rc_aload_n X dX7_forecast_12 rfl 0 rfl ?_
    refine gfX7_room X T0.1 nX7_forecast_X7 qX7_forecast_2 dX7_forecast_13 ?_
    refine gfX4_show X T0.2.1.1 nX7_forecast_X4 qX7_forecast_3 dX7_forecast_16 ?_
    refine gfX5_running X T0.2.1.2.2.1 nX7_forecast_X5 qX7_forecast_4 dX7_forecast_19 ?_
    obtain ⟨c5, h⟩ := h
    refine rc_if_ne X 28 dX7_forecast_22 (by decide) c5 (fun c6 => ?_) (fun c6 => ?_)
    · have h := h.1 c6
      refine rc_aload_n X dX7_forecast_28 rfl 0 rfl ?_
      refine gfX7_trial X T0.1 nX7_forecast_X7 qX7_forecast_6 dX7_forecast_29 ?_
      refine rc_aload_n X dX7_forecast_32 rfl 0 rfl ?_
      refine gfX7_room X T0.1 nX7_forecast_X7 qX7_forecast_2 dX7_forecast_33 ?_
      refine rc_cVV (rest := []) X (mX4_copyFrom T0.2.2.1 T0.2.1 h) gX7_forecast_X4_copyFrom rfl ⟨rfl, rfl⟩ dyX4_copyFrom ⟨Nat.le_of_ble_eq_true rfl, Nat.le_of_ble_eq_true rfl⟩ (rc_recv X T0.2.2.1.1 rfl) rfl rfl (Nat.le_of_ble_eq_true rfl) dX7_forecast_36 ⟨Nat.zero_le _, Nat.zero_le _⟩ (fun I7 h => ?_)
      refine rc_aload_n X dX7_forecast_39 rfl 0 rfl ?_
      refine gfX7_trial X T0.1 nX7_forecast_X7 qX7_forecast_6 dX7_forecast_40 ?_
      refine gfX4_show X T0.2.2.1.1 nX7_forecast_X4 qX7_forecast_3 dX7_forecast_43 ?_
      refine rc_aload_n X dX7_forecast_46 rfl 0 rfl ?_
      refine gfX7_trial X T0.1 nX7_forecast_X7 qX7_forecast_6 dX7_forecast_47 ?_
      refine gfX4_stock X T0.2.2.1.1 nX7_forecast_X4 qX7_forecast_7 dX7_forecast_50 ?_
      refine rc_sipush X dX7_forecast_53 (rc_b16 _ ⟨by decide, by decide⟩) ?_
      refine rc_cVI (rest := []) X (mX5_run T0.2.2.1.2.2 T0.2.2.1.2.1 h) gX7_forecast_X5_run rfl ⟨rfl, rfl⟩ dyX5_run ⟨Nat.le_of_ble_eq_true rfl, Nat.le_of_ble_eq_true rfl⟩ (rc_recv X T0.2.2.1.2.2.1 rfl) rfl rfl (Nat.le_of_ble_eq_true rfl) dX7_forecast_56 ⟨Nat.zero_le _, Nat.zero_le _⟩ (fun r9 I8 h => ?_)
      refine rc_pop X dX7_forecast_59 rfl ?_
      refine rc_aload_n X dX7_forecast_60 rfl 0 rfl ?_
      refine rc_iload_n X dX7_forecast_61 rfl 1 rfl ?_
      refine rc_cVI (rest := []) X (mX7_foretold T0 h) gX7_forecast_X7_foretold rfl ⟨rfl, rfl⟩ dyX7_foretold ⟨Nat.le_of_ble_eq_true rfl, Nat.le_of_ble_eq_true rfl⟩ (rc_recv X T0.1 rfl) rfl rfl (Nat.le_of_ble_eq_true rfl) dX7_forecast_62 ⟨Nat.zero_le _, Nat.zero_le _⟩ (fun r11 I10 h => ?_)
      exact rc_iret X hr dX7_forecast_65 h
    · have h := h.2 c6
      refine rc_ldc (n := (-100003)) X qX7_forecast_5 (by decide +kernel) dX7_forecast_25 ?_
      exact rc_iret X hr dX7_forecast_27 h
  · have h := h.2 c4
    refine rc_ldc (n := (-100001)) X qX7_forecast_1 (by decide +kernel) dX7_forecast_9 ?_
    exact rc_iret X hr dX7_forecast_11 h
theorem mX7_forecast {l : Launch} {G : rc_G} {a0 : Nat} {a1 : Int} {I : rc_M} {post : Int → rc_M → Prop} (T0 : kX7 G a0) (h : wX7_forecast G a0 a1 I post) : rc_CI l yX7_forecast wsX7_forecast rmX7_forecast G [.ref a0, .int (rc_o a1)] I post :=
  rc_body (by decide +kernel) rfl rfl (Nat.le_of_ble_eq_true rfl) rfl (fun p e s m below meth c X hr => gX7_forecast_0 X hr T0 h)
/-! X7_darkWith -/
abbrev rmX7_darkWith : Room := { frames := 6, cells := 0, slots := 0, locals := 135 }
theorem dyX7_darkWith : yX7_darkWith.cls = RX7 ∧ yX7_darkWith.cls ≠ "java/lang/invoke/MethodHandle" ∧ yX7_darkWith.cls ≠ "java/lang/invoke/VarHandle" ∧ (parseMethodDescriptor yX7_darkWith.desc).map (fun d => d.parameters.length) = some 2 := ⟨rfl, by decide +kernel, by decide +kernel, by decide +kernel⟩
theorem qX7_darkWith_1 : Cond.fieldLink RX7 10 "ReelChanger" "room" "LReelChanger$Room;" ∈ wsX7_darkWith := List.mem_of_getElem? (i := 1) (by decide +kernel)
theorem nX7_darkWith_X7 : ∀ w ∈ wsX70, w ∈ wsX7_darkWith := fun w h => List.mem_cons_of_mem _ (List.mem_append_left _ (List.mem_append_left _ (List.mem_append_left _ (List.mem_append_left _ (List.mem_append_left _ (List.mem_append_left _ (List.mem_append_right _ (h))))))))
theorem qX7_darkWith_2 : Cond.fieldLink RX7 35 "ReelChanger$Room" "stock" "LReelChanger$Stock;" ∈ wsX7_darkWith := List.mem_of_getElem? (i := 2) (by decide +kernel)
theorem nX7_darkWith_X4 : ∀ w ∈ wsX40, w ∈ wsX7_darkWith := fun w h => List.mem_cons_of_mem _ (List.mem_append_left _ (List.mem_append_left _ (List.mem_append_left _ (List.mem_append_left _ (List.mem_append_left _ (List.mem_append_right _ (h)))))))
theorem qX7_darkWith_3 : Cond.fieldLink RX7 131 "ReelChanger$Stock" "placeCount" "I" ∈ wsX7_darkWith := List.mem_of_getElem? (i := 3) (by decide +kernel)
theorem nX7_darkWith_X6 : ∀ w ∈ wsX60, w ∈ wsX7_darkWith := fun w h => List.mem_cons_of_mem _ (List.mem_append_left _ (List.mem_append_left _ (List.mem_append_left _ (List.mem_append_left _ (List.mem_append_right _ (h))))))
theorem qX7_darkWith_5 : Cond.fieldLink RX7 16 "ReelChanger" "trial" "LReelChanger$Room;" ∈ wsX7_darkWith := List.mem_of_getElem? (i := 5) (by decide +kernel)
theorem qX7_darkWith_6 : Cond.fieldLink RX7 106 "ReelChanger$Room" "show" "LReelChanger$Show;" ∈ wsX7_darkWith := List.mem_of_getElem? (i := 6) (by decide +kernel)
theorem qX7_darkWith_4 : Cond.constant RX7 116 (-100003) ∈ wsX7_darkWith := List.mem_of_getElem? (i := 4) (by decide +kernel)
def wX7_darkWith (G : rc_G) (a0 : Nat) (a1 : Int) (a2 : Int) (I : rc_M) (post : Int → rc_M → Prop) : Prop :=
  wX7_settingError G a1 a2 I (fun r2 I1 => rc_R r2 ∧ ((r2 = 0 → rc_R (I1 (a0 + 1 + 1) 1) ∧ ((¬ (I1 (a0 + 1 + 1) 1) = 0 → wX4_copyFrom G (a0 + 42) (a0 + 1) I1 (fun I7 => wX6_changeSetting G (a0 + 42 + 1) a1 a2 I7 (fun r9 I8 => wX5_open G (a0 + 42 + 35) (a0 + 42 + 1) I8 (fun I10 => wX5_run G (a0 + 42 + 35) (a0 + 42 + 1) 20000 I10 (fun r12 I11 => wX7_foretold G a0 1 I11 (fun r14 I13 => post r14 I13)))))) ∧ ((I1 (a0 + 1 + 1) 1) = 0 → post (-100003) I1))) ∧ (¬ r2 = 0 → post r2 I1)))
set_option maxRecDepth 100000 in
set_option maxHeartbeats 4000000 in
theorem gX7_darkWith_0 {p : Program} {l : Launch} {e : Env} {s : State} {m : MethodId} {below : List Frame} {meth : Method} {c : Code} {G : rc_G} {a0 : Nat} {a1 : Int} {a2 : Int} {I : rc_M} {post : Int → rc_M → Prop}  (X : rc_X p s m ([.ref a0, .int (rc_o a1), .int (rc_o a2)] : List Value).toArray meth c cX7_darkWith 4 wsX7_darkWith RX7 G (rc_A G)) (hr : meth.sig.returnType = some .int) (T0 : kX7 G a0)  (h : wX7_darkWith G a0 a1 a2 I post) : rc_g p l e rmX7_darkWith s m ([.ref a0, .int (rc_o a1), .int (rc_o a2)] : List Value).toArray below meth c 0 0 (MQ below (rc_QI G post) ([.ref a0, .int (rc_o a1), .int (rc_o a2)] : List Value).toArray s 0 0 (rc_A G)) 4 G (rc_A G) 0 [(0, .ref a0), (1, .int (rc_o a1)), (2, .int (rc_o a2))] [] I := by
  unfold wX7_darkWith at h
  refine rc_iload_n X dX7_darkWith_0 rfl 1 rfl ?_
  refine rc_iload_n X dX7_darkWith_1 rfl 2 rfl ?_
  refine rc_cSI (rest := []) X (mX7_settingError  h) gX7_darkWith_X7_settingError rfl ⟨rfl, rfl⟩ dyX7_settingError ⟨Nat.le_of_ble_eq_true rfl, Nat.le_of_ble_eq_true rfl⟩ rfl rfl (Nat.le_of_ble_eq_true rfl) dX7_darkWith_2 ⟨Nat.zero_le _, Nat.zero_le _⟩ (fun r2 I1 h => ?_)
  refine rc_istore_n X [(3, .int (rc_o r2)), (0, .ref a0), (1, .int (rc_o a1)), (2, .int (rc_o a2))] dX7_darkWith_5 rfl (by decide) rfl ?_
  refine rc_iload_n X dX7_darkWith_6 rfl 0 rfl ?_
  obtain ⟨c3, h⟩ := h
  refine rc_if_eq X 12 dX7_darkWith_7 (by decide) c3 (fun c4 => ?_) (fun c4 => ?_)
  · have h := h.1 c4
    refine rc_aload_n X dX7_darkWith_12 rfl 1 rfl ?_
    refine gfX7_room X T0.1 nX7_darkWith_X7 qX7_darkWith_1 dX7_darkWith_13 ?_
    refine gfX4_stock X T0.2.1.1 nX7_darkWith_X4 qX7_darkWith_2 dX7_darkWith_16 ?_
    refine gfX6_placeCount X T0.2.1.2.1.1 nX7_darkWith_X6 qX7_darkWith_3 dX7_darkWith_19 ?_
    obtain ⟨c5, h⟩ := h
    refine rc_if_ne X 28 dX7_darkWith_22 (by decide) c5 (fun c6 => ?_) (fun c6 => ?_)
    · have h := h.1 c6
      refine rc_aload_n X dX7_darkWith_28 rfl 1 rfl ?_
      refine gfX7_trial X T0.1 nX7_darkWith_X7 qX7_darkWith_5 dX7_darkWith_29 ?_
      refine rc_aload_n X dX7_darkWith_32 rfl 1 rfl ?_
      refine gfX7_room X T0.1 nX7_darkWith_X7 qX7_darkWith_1 dX7_darkWith_33 ?_
      refine rc_cVV (rest := []) X (mX4_copyFrom T0.2.2.1 T0.2.1 h) gX7_darkWith_X4_copyFrom rfl ⟨rfl, rfl⟩ dyX4_copyFrom ⟨Nat.le_of_ble_eq_true rfl, Nat.le_of_ble_eq_true rfl⟩ (rc_recv X T0.2.2.1.1 rfl) rfl rfl (Nat.le_of_ble_eq_true rfl) dX7_darkWith_36 ⟨Nat.zero_le _, Nat.zero_le _⟩ (fun I7 h => ?_)
      refine rc_aload_n X dX7_darkWith_39 rfl 1 rfl ?_
      refine gfX7_trial X T0.1 nX7_darkWith_X7 qX7_darkWith_5 dX7_darkWith_40 ?_
      refine gfX4_stock X T0.2.2.1.1 nX7_darkWith_X4 qX7_darkWith_2 dX7_darkWith_43 ?_
      refine rc_iload_n X dX7_darkWith_46 rfl 2 rfl ?_
      refine rc_iload_n X dX7_darkWith_47 rfl 3 rfl ?_
      refine rc_cVI (rest := []) X (mX6_changeSetting T0.2.2.1.2.1 h) gX7_darkWith_X6_changeSetting rfl ⟨rfl, rfl⟩ dyX6_changeSetting ⟨Nat.le_of_ble_eq_true rfl, Nat.le_of_ble_eq_true rfl⟩ (rc_recv X T0.2.2.1.2.1.1 rfl) rfl rfl (Nat.le_of_ble_eq_true rfl) dX7_darkWith_48 ⟨Nat.zero_le _, Nat.zero_le _⟩ (fun r9 I8 h => ?_)
      refine rc_pop X dX7_darkWith_51 rfl ?_
      refine rc_aload_n X dX7_darkWith_52 rfl 1 rfl ?_
      refine gfX7_trial X T0.1 nX7_darkWith_X7 qX7_darkWith_5 dX7_darkWith_53 ?_
      refine gfX4_show X T0.2.2.1.1 nX7_darkWith_X4 qX7_darkWith_6 dX7_darkWith_56 ?_
      refine rc_aload_n X dX7_darkWith_59 rfl 1 rfl ?_
      refine gfX7_trial X T0.1 nX7_darkWith_X7 qX7_darkWith_5 dX7_darkWith_60 ?_
      refine gfX4_stock X T0.2.2.1.1 nX7_darkWith_X4 qX7_darkWith_2 dX7_darkWith_63 ?_
      refine rc_cVV (rest := []) X (mX5_open T0.2.2.1.2.2 T0.2.2.1.2.1 h) gX7_darkWith_X5_open rfl ⟨rfl, rfl⟩ dyX5_open ⟨Nat.le_of_ble_eq_true rfl, Nat.le_of_ble_eq_true rfl⟩ (rc_recv X T0.2.2.1.2.2.1 rfl) rfl rfl (Nat.le_of_ble_eq_true rfl) dX7_darkWith_66 ⟨Nat.zero_le _, Nat.zero_le _⟩ (fun I10 h => ?_)
      refine rc_aload_n X dX7_darkWith_69 rfl 1 rfl ?_
      refine gfX7_trial X T0.1 nX7_darkWith_X7 qX7_darkWith_5 dX7_darkWith_70 ?_
      refine gfX4_show X T0.2.2.1.1 nX7_darkWith_X4 qX7_darkWith_6 dX7_darkWith_73 ?_
      refine rc_aload_n X dX7_darkWith_76 rfl 1 rfl ?_
      refine gfX7_trial X T0.1 nX7_darkWith_X7 qX7_darkWith_5 dX7_darkWith_77 ?_
      refine gfX4_stock X T0.2.2.1.1 nX7_darkWith_X4 qX7_darkWith_2 dX7_darkWith_80 ?_
      refine rc_sipush X dX7_darkWith_83 (rc_b16 _ ⟨by decide, by decide⟩) ?_
      refine rc_cVI (rest := []) X (mX5_run T0.2.2.1.2.2 T0.2.2.1.2.1 h) gX7_darkWith_X5_run rfl ⟨rfl, rfl⟩ dyX5_run ⟨Nat.le_of_ble_eq_true rfl, Nat.le_of_ble_eq_true rfl⟩ (rc_recv X T0.2.2.1.2.2.1 rfl) rfl rfl (Nat.le_of_ble_eq_true rfl) dX7_darkWith_86 ⟨Nat.zero_le _, Nat.zero_le _⟩ (fun r12 I11 h => ?_)
      refine rc_pop X dX7_darkWith_89 rfl ?_
      refine rc_aload_n X dX7_darkWith_90 rfl 1 rfl ?_
      refine rc_iconst X dX7_darkWith_91 ?_
      refine rc_cVI (rest := []) X (mX7_foretold T0 h) gX7_darkWith_X7_foretold rfl ⟨rfl, rfl⟩ dyX7_foretold ⟨Nat.le_of_ble_eq_true rfl, Nat.le_of_ble_eq_true rfl⟩ (rc_recv X T0.1 rfl) rfl rfl (Nat.le_of_ble_eq_true rfl) dX7_darkWith_92 ⟨Nat.zero_le _, Nat.zero_le _⟩ (fun r14 I13 h => ?_)
      exact rc_iret X hr dX7_darkWith_95 h
    · have h := h.2 c6
      refine rc_ldc (n := (-100003)) X qX7_darkWith_4 (by decide +kernel) dX7_darkWith_25 ?_
      exact rc_iret X hr dX7_darkWith_27 h
  · have h := h.2 c4
    refine rc_iload_n X dX7_darkWith_10 rfl 0 rfl ?_
    exact rc_iret X hr dX7_darkWith_11 h
theorem mX7_darkWith {l : Launch} {G : rc_G} {a0 : Nat} {a1 : Int} {a2 : Int} {I : rc_M} {post : Int → rc_M → Prop} (T0 : kX7 G a0) (h : wX7_darkWith G a0 a1 a2 I post) : rc_CI l yX7_darkWith wsX7_darkWith rmX7_darkWith G [.ref a0, .int (rc_o a1), .int (rc_o a2)] I post :=
  rc_body (by decide +kernel) rfl rfl (Nat.le_of_ble_eq_true rfl) rfl (fun p e s m below meth c X hr => gX7_darkWith_0 X hr T0 h)
/-! X7_mix -/
abbrev rmX7_mix : Room := { frames := 0, cells := 0, slots := 0, locals := 0 }
theorem dyX7_mix : yX7_mix.cls = RX7 ∧ yX7_mix.cls ≠ "java/lang/invoke/MethodHandle" ∧ yX7_mix.cls ≠ "java/lang/invoke/VarHandle" ∧ (parseMethodDescriptor yX7_mix.desc).map (fun d => d.parameters.length) = some 2 := ⟨rfl, by decide +kernel, by decide +kernel, by decide +kernel⟩
theorem qX7_mix_1 : Cond.constantLong RX7 244 (31) ∈ wsX7_mix := List.mem_of_getElem? (i := 1) (by decide +kernel)
def wX7_mix (G : rc_G) (a0 : Int64) (a1 : Int64) (I : rc_M) (post : Int64 → rc_M → Prop) : Prop :=
  post ((31 * a0) + a1) I
set_option maxRecDepth 100000 in
set_option maxHeartbeats 4000000 in
theorem gX7_mix_0 {p : Program} {l : Launch} {e : Env} {s : State} {m : MethodId} {below : List Frame} {meth : Method} {c : Code} {G : rc_G} {a0 : Int64} {a1 : Int64} {I : rc_M} {post : Int64 → rc_M → Prop}  (X : rc_X p s m ([.long a0, .long a1] : List Value).toArray meth c cX7_mix 4 wsX7_mix RX7 G (rc_A G)) (hr : meth.sig.returnType = some .long)   (h : wX7_mix G a0 a1 I post) : rc_g p l e rmX7_mix s m ([.long a0, .long a1] : List Value).toArray below meth c 0 0 (MQ below (rc_QL G post) ([.long a0, .long a1] : List Value).toArray s 0 0 (rc_A G)) 4 G (rc_A G) 0 [(0, .long a0), (2, .long a1)] [] I := by
  unfold wX7_mix at h
  refine rc_ldc2 X qX7_mix_1 dX7_mix_0 ?_
  refine rc_lload_n X dX7_mix_3 rfl 0 rfl ?_
  refine rc_lmul X dX7_mix_4 ?_
  refine rc_lload_n X dX7_mix_5 rfl 1 rfl ?_
  refine rc_ladd X dX7_mix_6 ?_
  exact rc_lret X hr dX7_mix_7 h
theorem mX7_mix {l : Launch} {G : rc_G} {a0 : Int64} {a1 : Int64} {I : rc_M} {post : Int64 → rc_M → Prop}  (h : wX7_mix G a0 a1 I post) : rc_CL l yX7_mix wsX7_mix rmX7_mix G [.long a0, .long a1] I post :=
  rc_body (by decide +kernel) rfl rfl (Nat.le_of_ble_eq_true rfl) rfl (fun p e s m below meth c X hr => gX7_mix_0 X hr  h)
/-! X7_sumReel -/
abbrev rmX7_sumReel : Room := { frames := 2, cells := 0, slots := 0, locals := 45 }
theorem dyX7_sumReel : yX7_sumReel.cls = RX7 ∧ yX7_sumReel.cls ≠ "java/lang/invoke/MethodHandle" ∧ yX7_sumReel.cls ≠ "java/lang/invoke/VarHandle" ∧ (parseMethodDescriptor yX7_sumReel.desc).map (fun d => d.parameters.length) = some 2 := ⟨rfl, by decide +kernel, by decide +kernel, by decide +kernel⟩
def wX7_sumReel_44 (G : rc_G) (post : Int64 → rc_M → Prop) (a0 : Nat) (a1 : Int64) (a2 : Int) (k44 : Int64 → Int → Int → rc_M → Prop) (x4 : Int64) (x6 : Int) (x7 : Int) (I : rc_M) : Prop :=
  rc_R x7 ∧ (rc_R x6 ∧ ((x6 ≤ x7 → post x4 I) ∧ (¬ x6 ≤ x7 → wX7_spliceAt G a0 a2 x7 0 I (fun r9 I8 => wX7_mix G x4 ((rc_o r9).toInt64) I8 (fun r11 I10 => wX7_spliceAt G a0 a2 x7 1 I10 (fun r13 I12 => wX7_mix G r11 ((rc_o r13).toInt64) I12 (fun r15 I14 => k44 r15 x6 (x7 + 1) I14)))))))
set_option maxRecDepth 100000 in
set_option maxHeartbeats 4000000 in
theorem gX7_sumReel_44 {p : Program} {l : Launch} {e : Env} {s : State} {m : MethodId} {below : List Frame} {meth : Method} {c : Code} {G : rc_G} {a0 : Nat} {a1 : Int64} {a2 : Int} {I : rc_M} {post : Int64 → rc_M → Prop} {k44 : Int64 → Int → Int → rc_M → Prop} {x4 : Int64} {x6 : Int} {x7 : Int} (X : rc_X p s m ([.ref a0, .long a1, .int (rc_o a2)] : List Value).toArray meth c cX7_sumReel 8 wsX7_sumReel RX7 G (rc_A G)) (hr : meth.sig.returnType = some .long) (T0 : kX7 G a0) (hk44 : ∀ (x4 : Int64) (x6 : Int) (x7 : Int) (J : rc_M), k44 x4 x6 x7 J → rc_g p l e rmX7_sumReel s m ([.ref a0, .long a1, .int (rc_o a2)] : List Value).toArray below meth c 0 0 (MQ below (rc_QL G post) ([.ref a0, .long a1, .int (rc_o a2)] : List Value).toArray s 0 0 (rc_A G)) 8 G (rc_A G) 44 [(0, .ref a0), (3, .int (rc_o a2)), (4, .long x4), (6, .int (rc_o x6)), (7, .int (rc_o x7))] [] J)  (h : wX7_sumReel_44 G post a0 a1 a2 k44 x4 x6 x7 I) : rc_g p l e rmX7_sumReel s m ([.ref a0, .long a1, .int (rc_o a2)] : List Value).toArray below meth c 0 0 (MQ below (rc_QL G post) ([.ref a0, .long a1, .int (rc_o a2)] : List Value).toArray s 0 0 (rc_A G)) 8 G (rc_A G) 44 [(0, .ref a0), (3, .int (rc_o a2)), (4, .long x4), (6, .int (rc_o x6)), (7, .int (rc_o x7))] [] I := by
  unfold wX7_sumReel_44 at h
  refine rc_iload X dX7_sumReel_44 4 rfl ?_
  refine rc_iload X dX7_sumReel_46 3 rfl ?_
  obtain ⟨c5, h⟩ := h
  obtain ⟨c6, h⟩ := h
  refine rc_ic_ge X 89 dX7_sumReel_48 (by decide) c5 c6 (fun c7 => ?_) (fun c7 => ?_)
  · have h := h.1 c7
    refine rc_lload X dX7_sumReel_89 2 rfl ?_
    exact rc_lret X hr dX7_sumReel_91 h
  · have h := h.2 c7
    refine rc_lload X dX7_sumReel_51 2 rfl ?_
    refine rc_aload_n X dX7_sumReel_53 rfl 0 rfl ?_
    refine rc_iload_n X dX7_sumReel_54 rfl 1 rfl ?_
    refine rc_iload X dX7_sumReel_55 4 rfl ?_
    refine rc_iconst X dX7_sumReel_57 ?_
    refine rc_cVI (rest := [.long x4]) X (mX7_spliceAt T0 h) gX7_sumReel_X7_spliceAt rfl ⟨rfl, rfl⟩ dyX7_spliceAt ⟨Nat.le_of_ble_eq_true rfl, Nat.le_of_ble_eq_true rfl⟩ (rc_recv X T0.1 rfl) rfl rfl (Nat.le_of_ble_eq_true rfl) dX7_sumReel_58 ⟨Nat.zero_le _, Nat.zero_le _⟩ (fun r9 I8 h => ?_)
    refine rc_i2l X dX7_sumReel_61 ?_
    refine rc_cSL (rest := []) X (mX7_mix  h) gX7_sumReel_X7_mix rfl ⟨rfl, rfl⟩ dyX7_mix ⟨Nat.le_of_ble_eq_true rfl, Nat.le_of_ble_eq_true rfl⟩ rfl rfl (Nat.le_of_ble_eq_true rfl) dX7_sumReel_62 ⟨Nat.zero_le _, Nat.zero_le _⟩ (fun r11 I10 h => ?_)
    refine rc_lstore X [(4, .long r11), (0, .ref a0), (3, .int (rc_o a2)), (6, .int (rc_o x6)), (7, .int (rc_o x7))] dX7_sumReel_65 (by decide) rfl ?_
    refine rc_lload X dX7_sumReel_67 0 rfl ?_
    refine rc_aload_n X dX7_sumReel_69 rfl 1 rfl ?_
    refine rc_iload_n X dX7_sumReel_70 rfl 2 rfl ?_
    refine rc_iload X dX7_sumReel_71 4 rfl ?_
    refine rc_iconst X dX7_sumReel_73 ?_
    refine rc_cVI (rest := [.long r11]) X (mX7_spliceAt T0 h) gX7_sumReel_X7_spliceAt rfl ⟨rfl, rfl⟩ dyX7_spliceAt ⟨Nat.le_of_ble_eq_true rfl, Nat.le_of_ble_eq_true rfl⟩ (rc_recv X T0.1 rfl) rfl rfl (Nat.le_of_ble_eq_true rfl) dX7_sumReel_74 ⟨Nat.zero_le _, Nat.zero_le _⟩ (fun r13 I12 h => ?_)
    refine rc_i2l X dX7_sumReel_77 ?_
    refine rc_cSL (rest := []) X (mX7_mix  h) gX7_sumReel_X7_mix rfl ⟨rfl, rfl⟩ dyX7_mix ⟨Nat.le_of_ble_eq_true rfl, Nat.le_of_ble_eq_true rfl⟩ rfl rfl (Nat.le_of_ble_eq_true rfl) dX7_sumReel_78 ⟨Nat.zero_le _, Nat.zero_le _⟩ (fun r15 I14 h => ?_)
    refine rc_lstore X [(4, .long r15), (0, .ref a0), (3, .int (rc_o a2)), (6, .int (rc_o x6)), (7, .int (rc_o x7))] dX7_sumReel_81 (by decide) rfl ?_
    refine rc_iinc X [(7, .int (rc_o (x7 + 1))), (4, .long r15), (0, .ref a0), (3, .int (rc_o a2)), (6, .int (rc_o x6))] dX7_sumReel_83 4 rfl (by decide) rfl ?_
    refine rc_goto X 44 dX7_sumReel_86 (by decide) ?_
    refine rc_subl [(0, .ref a0), (3, .int (rc_o a2)), (4, .long r15), (6, .int (rc_o x6)), (7, .int (rc_o (x7 + 1)))] [2, 3, 1, 4, 0] rfl ?_
    exact hk44 _ _ _ _ h
noncomputable def rX7_sumReel_44 (G : rc_G) (post : Int64 → rc_M → Prop) (a0 : Nat) (a1 : Int64) (a2 : Int)  (n : Nat) : Int64 → Int → Int → rc_M → Prop :=
  Nat.rec (motive := fun _ => Int64 → Int → Int → rc_M → Prop) (fun _ _ _ _ => False) (fun _ ih => wX7_sumReel_44 G post a0 a1 a2  ih) n
set_option maxRecDepth 100000 in
set_option maxHeartbeats 4000000 in
theorem sX7_sumReel_44 {p : Program} {l : Launch} {e : Env} {s : State} {m : MethodId} {below : List Frame} {meth : Method} {c : Code} {G : rc_G} {a0 : Nat} {a1 : Int64} {a2 : Int} {I : rc_M} {post : Int64 → rc_M → Prop}  {n : Nat} {x4 : Int64} {x6 : Int} {x7 : Int} (X : rc_X p s m ([.ref a0, .long a1, .int (rc_o a2)] : List Value).toArray meth c cX7_sumReel 8 wsX7_sumReel RX7 G (rc_A G)) (hr : meth.sig.returnType = some .long) (T0 : kX7 G a0)  (h : rX7_sumReel_44 G post a0 a1 a2  n x4 x6 x7 I) : rc_g p l e rmX7_sumReel s m ([.ref a0, .long a1, .int (rc_o a2)] : List Value).toArray below meth c 0 0 (MQ below (rc_QL G post) ([.ref a0, .long a1, .int (rc_o a2)] : List Value).toArray s 0 0 (rc_A G)) 8 G (rc_A G) 44 [(0, .ref a0), (3, .int (rc_o a2)), (4, .long x4), (6, .int (rc_o x6)), (7, .int (rc_o x7))] [] I := by
  induction n generalizing x4 x6 x7 I with
  | zero => exact h.elim
  | succ n ih => exact gX7_sumReel_44 (k44 := rX7_sumReel_44 G post a0 a1 a2  n) X hr T0  (fun x4 x6 x7 J h2 => ih h2) h
def wX7_sumReel_6 (G : rc_G) (post : Int64 → rc_M → Prop) (a0 : Nat) (a1 : Int64) (a2 : Int) (k6 : Int64 → Int → rc_M → Prop) (x4 : Int64) (x6 : Int) (I : rc_M) : Prop :=
  rc_R x6 ∧ ((2 < x6 → wX7_reel G a0 a2 1 I (fun r4 I3 => ∃ n, rX7_sumReel_44 G post a0 a1 a2  n x4 r4 0 I3)) ∧ (¬ 2 < x6 → wX7_reel G a0 a2 x6 I (fun r17 I16 => wX7_mix G x4 ((rc_o r17).toInt64) I16 (fun r19 I18 => k6 r19 (x6 + 1) I18))))
set_option maxRecDepth 100000 in
set_option maxHeartbeats 4000000 in
theorem gX7_sumReel_6 {p : Program} {l : Launch} {e : Env} {s : State} {m : MethodId} {below : List Frame} {meth : Method} {c : Code} {G : rc_G} {a0 : Nat} {a1 : Int64} {a2 : Int} {I : rc_M} {post : Int64 → rc_M → Prop} {k6 : Int64 → Int → rc_M → Prop} {x4 : Int64} {x6 : Int} (X : rc_X p s m ([.ref a0, .long a1, .int (rc_o a2)] : List Value).toArray meth c cX7_sumReel 8 wsX7_sumReel RX7 G (rc_A G)) (hr : meth.sig.returnType = some .long) (T0 : kX7 G a0) (hk6 : ∀ (x4 : Int64) (x6 : Int) (J : rc_M), k6 x4 x6 J → rc_g p l e rmX7_sumReel s m ([.ref a0, .long a1, .int (rc_o a2)] : List Value).toArray below meth c 0 0 (MQ below (rc_QL G post) ([.ref a0, .long a1, .int (rc_o a2)] : List Value).toArray s 0 0 (rc_A G)) 8 G (rc_A G) 6 [(0, .ref a0), (3, .int (rc_o a2)), (4, .long x4), (6, .int (rc_o x6))] [] J)  (h : wX7_sumReel_6 G post a0 a1 a2 k6 x4 x6 I) : rc_g p l e rmX7_sumReel s m ([.ref a0, .long a1, .int (rc_o a2)] : List Value).toArray below meth c 0 0 (MQ below (rc_QL G post) ([.ref a0, .long a1, .int (rc_o a2)] : List Value).toArray s 0 0 (rc_A G)) 8 G (rc_A G) 6 [(0, .ref a0), (3, .int (rc_o a2)), (4, .long x4), (6, .int (rc_o x6))] [] I := by
  unfold wX7_sumReel_6 at h
  refine rc_iload X dX7_sumReel_6 3 rfl ?_
  refine rc_iconst X dX7_sumReel_8 ?_
  obtain ⟨c1, h⟩ := h
  refine rc_ic_gt X 33 dX7_sumReel_9 (by decide) c1 ⟨by decide, by decide⟩ (fun c2 => ?_) (fun c2 => ?_)
  · have h := h.1 c2
    refine rc_aload_n X dX7_sumReel_33 rfl 0 rfl ?_
    refine rc_iload_n X dX7_sumReel_34 rfl 1 rfl ?_
    refine rc_iconst X dX7_sumReel_35 ?_
    refine rc_cVI (rest := []) X (mX7_reel T0 h) gX7_sumReel_X7_reel rfl ⟨rfl, rfl⟩ dyX7_reel ⟨Nat.le_of_ble_eq_true rfl, Nat.le_of_ble_eq_true rfl⟩ (rc_recv X T0.1 rfl) rfl rfl (Nat.le_of_ble_eq_true rfl) dX7_sumReel_36 ⟨Nat.zero_le _, Nat.zero_le _⟩ (fun r4 I3 h => ?_)
    refine rc_istore X [(6, .int (rc_o r4)), (0, .ref a0), (3, .int (rc_o a2)), (4, .long x4)] dX7_sumReel_39 (by decide) rfl ?_
    refine rc_iconst X dX7_sumReel_41 ?_
    refine rc_istore X [(7, .int (rc_o 0)), (6, .int (rc_o r4)), (0, .ref a0), (3, .int (rc_o a2)), (4, .long x4)] dX7_sumReel_42 (by decide) rfl ?_
    refine rc_subl [(0, .ref a0), (3, .int (rc_o a2)), (4, .long x4), (6, .int (rc_o r4)), (7, .int (rc_o 0))] [2, 3, 4, 1, 0] rfl ?_
    obtain ⟨n, h⟩ := h
    exact sX7_sumReel_44 X hr T0  h
  · have h := h.2 c2
    refine rc_lload X dX7_sumReel_12 2 rfl ?_
    refine rc_aload_n X dX7_sumReel_14 rfl 0 rfl ?_
    refine rc_iload_n X dX7_sumReel_15 rfl 1 rfl ?_
    refine rc_iload X dX7_sumReel_16 3 rfl ?_
    refine rc_cVI (rest := [.long x4]) X (mX7_reel T0 h) gX7_sumReel_X7_reel rfl ⟨rfl, rfl⟩ dyX7_reel ⟨Nat.le_of_ble_eq_true rfl, Nat.le_of_ble_eq_true rfl⟩ (rc_recv X T0.1 rfl) rfl rfl (Nat.le_of_ble_eq_true rfl) dX7_sumReel_18 ⟨Nat.zero_le _, Nat.zero_le _⟩ (fun r17 I16 h => ?_)
    refine rc_i2l X dX7_sumReel_21 ?_
    refine rc_cSL (rest := []) X (mX7_mix  h) gX7_sumReel_X7_mix rfl ⟨rfl, rfl⟩ dyX7_mix ⟨Nat.le_of_ble_eq_true rfl, Nat.le_of_ble_eq_true rfl⟩ rfl rfl (Nat.le_of_ble_eq_true rfl) dX7_sumReel_22 ⟨Nat.zero_le _, Nat.zero_le _⟩ (fun r19 I18 h => ?_)
    refine rc_lstore X [(4, .long r19), (0, .ref a0), (3, .int (rc_o a2)), (6, .int (rc_o x6))] dX7_sumReel_25 (by decide) rfl ?_
    refine rc_iinc X [(6, .int (rc_o (x6 + 1))), (4, .long r19), (0, .ref a0), (3, .int (rc_o a2))] dX7_sumReel_27 3 rfl (by decide) rfl ?_
    refine rc_goto X 6 dX7_sumReel_30 (by decide) ?_
    refine rc_subl [(0, .ref a0), (3, .int (rc_o a2)), (4, .long r19), (6, .int (rc_o (x6 + 1)))] [2, 3, 1, 0] rfl ?_
    exact hk6 _ _ _ h
noncomputable def rX7_sumReel_6 (G : rc_G) (post : Int64 → rc_M → Prop) (a0 : Nat) (a1 : Int64) (a2 : Int)  (n : Nat) : Int64 → Int → rc_M → Prop :=
  Nat.rec (motive := fun _ => Int64 → Int → rc_M → Prop) (fun _ _ _ => False) (fun _ ih => wX7_sumReel_6 G post a0 a1 a2  ih) n
set_option maxRecDepth 100000 in
set_option maxHeartbeats 4000000 in
theorem sX7_sumReel_6 {p : Program} {l : Launch} {e : Env} {s : State} {m : MethodId} {below : List Frame} {meth : Method} {c : Code} {G : rc_G} {a0 : Nat} {a1 : Int64} {a2 : Int} {I : rc_M} {post : Int64 → rc_M → Prop}  {n : Nat} {x4 : Int64} {x6 : Int} (X : rc_X p s m ([.ref a0, .long a1, .int (rc_o a2)] : List Value).toArray meth c cX7_sumReel 8 wsX7_sumReel RX7 G (rc_A G)) (hr : meth.sig.returnType = some .long) (T0 : kX7 G a0)  (h : rX7_sumReel_6 G post a0 a1 a2  n x4 x6 I) : rc_g p l e rmX7_sumReel s m ([.ref a0, .long a1, .int (rc_o a2)] : List Value).toArray below meth c 0 0 (MQ below (rc_QL G post) ([.ref a0, .long a1, .int (rc_o a2)] : List Value).toArray s 0 0 (rc_A G)) 8 G (rc_A G) 6 [(0, .ref a0), (3, .int (rc_o a2)), (4, .long x4), (6, .int (rc_o x6))] [] I := by
  induction n generalizing x4 x6 I with
  | zero => exact h.elim
  | succ n ih => exact gX7_sumReel_6 (k6 := rX7_sumReel_6 G post a0 a1 a2  n) X hr T0  (fun x4 x6 J h2 => ih h2) h
def wX7_sumReel (G : rc_G) (a0 : Nat) (a1 : Int64) (a2 : Int) (I : rc_M) (post : Int64 → rc_M → Prop) : Prop :=
  ∃ n, rX7_sumReel_6 G post a0 a1 a2  n a1 0 I
set_option maxRecDepth 100000 in
set_option maxHeartbeats 4000000 in
theorem gX7_sumReel_0 {p : Program} {l : Launch} {e : Env} {s : State} {m : MethodId} {below : List Frame} {meth : Method} {c : Code} {G : rc_G} {a0 : Nat} {a1 : Int64} {a2 : Int} {I : rc_M} {post : Int64 → rc_M → Prop}  (X : rc_X p s m ([.ref a0, .long a1, .int (rc_o a2)] : List Value).toArray meth c cX7_sumReel 8 wsX7_sumReel RX7 G (rc_A G)) (hr : meth.sig.returnType = some .long) (T0 : kX7 G a0)  (h : wX7_sumReel G a0 a1 a2 I post) : rc_g p l e rmX7_sumReel s m ([.ref a0, .long a1, .int (rc_o a2)] : List Value).toArray below meth c 0 0 (MQ below (rc_QL G post) ([.ref a0, .long a1, .int (rc_o a2)] : List Value).toArray s 0 0 (rc_A G)) 8 G (rc_A G) 0 [(0, .ref a0), (1, .long a1), (3, .int (rc_o a2))] [] I := by
  unfold wX7_sumReel at h
  refine rc_lload_n X dX7_sumReel_0 rfl 1 rfl ?_
  refine rc_lstore X [(4, .long a1), (0, .ref a0), (1, .long a1), (3, .int (rc_o a2))] dX7_sumReel_1 (by decide) rfl ?_
  refine rc_iconst X dX7_sumReel_3 ?_
  refine rc_istore X [(6, .int (rc_o 0)), (4, .long a1), (0, .ref a0), (1, .long a1), (3, .int (rc_o a2))] dX7_sumReel_4 (by decide) rfl ?_
  refine rc_subl [(0, .ref a0), (3, .int (rc_o a2)), (4, .long a1), (6, .int (rc_o 0))] [2, 4, 1, 0] rfl ?_
  obtain ⟨n, h⟩ := h
  exact sX7_sumReel_6 X hr T0  h
theorem mX7_sumReel {l : Launch} {G : rc_G} {a0 : Nat} {a1 : Int64} {a2 : Int} {I : rc_M} {post : Int64 → rc_M → Prop} (T0 : kX7 G a0) (h : wX7_sumReel G a0 a1 a2 I post) : rc_CL l yX7_sumReel wsX7_sumReel rmX7_sumReel G [.ref a0, .long a1, .int (rc_o a2)] I post :=
  rc_body (by decide +kernel) rfl rfl (Nat.le_of_ble_eq_true rfl) rfl (fun p e s m below meth c X hr => gX7_sumReel_0 X hr T0 h)
/-! X7_sumStock -/
abbrev rmX7_sumStock : Room := { frames := 3, cells := 0, slots := 0, locals := 72 }
theorem dyX7_sumStock : yX7_sumStock.cls = RX7 ∧ yX7_sumStock.cls ≠ "java/lang/invoke/MethodHandle" ∧ yX7_sumStock.cls ≠ "java/lang/invoke/VarHandle" ∧ (parseMethodDescriptor yX7_sumStock.desc).map (fun d => d.parameters.length) = some 1 := ⟨rfl, by decide +kernel, by decide +kernel, by decide +kernel⟩
theorem qX7_sumStock_1 : Cond.fieldLink RX7 10 "ReelChanger" "room" "LReelChanger$Room;" ∈ wsX7_sumStock := List.mem_of_getElem? (i := 1) (by decide +kernel)
theorem nX7_sumStock_X7 : ∀ w ∈ wsX70, w ∈ wsX7_sumStock := fun w h => List.mem_cons_of_mem _ (List.mem_append_left _ (List.mem_append_left _ (List.mem_append_left _ (List.mem_append_right _ (h)))))
theorem qX7_sumStock_2 : Cond.fieldLink RX7 35 "ReelChanger$Room" "stock" "LReelChanger$Stock;" ∈ wsX7_sumStock := List.mem_of_getElem? (i := 2) (by decide +kernel)
theorem nX7_sumStock_X4 : ∀ w ∈ wsX40, w ∈ wsX7_sumStock := fun w h => List.mem_cons_of_mem _ (List.mem_append_left _ (List.mem_append_left _ (List.mem_append_right _ (h))))
theorem qX7_sumStock_3 : Cond.fieldLink RX7 93 "ReelChanger$Stock" "reelCount" "I" ∈ wsX7_sumStock := List.mem_of_getElem? (i := 3) (by decide +kernel)
theorem nX7_sumStock_X6 : ∀ w ∈ wsX60, w ∈ wsX7_sumStock := fun w h => List.mem_cons_of_mem _ (List.mem_append_left _ (List.mem_append_right _ (h)))
theorem qX7_sumStock_4 : Cond.fieldLink RX7 131 "ReelChanger$Stock" "placeCount" "I" ∈ wsX7_sumStock := List.mem_of_getElem? (i := 4) (by decide +kernel)
def wX7_sumStock_92 (G : rc_G) (post : Int64 → rc_M → Prop) (a0 : Nat) (a1 : Int64) (k92 : Int64 → Int → rc_M → Prop) (x4 : Int64) (x6 : Int) (I : rc_M) : Prop :=
  rc_R x6 ∧ (rc_R (I (a0 + 1 + 1) 1) ∧ (((I (a0 + 1 + 1) 1) ≤ x6 → post x4 I) ∧ (¬ (I (a0 + 1 + 1) 1) ≤ x6 → wX7_program G a0 x6 I (fun r14 I13 => wX7_mix G x4 ((rc_o r14).toInt64) I13 (fun r16 I15 => k92 r16 (x6 + 1) I15)))))
set_option maxRecDepth 100000 in
set_option maxHeartbeats 4000000 in
theorem gX7_sumStock_92 {p : Program} {l : Launch} {e : Env} {s : State} {m : MethodId} {below : List Frame} {meth : Method} {c : Code} {G : rc_G} {a0 : Nat} {a1 : Int64} {I : rc_M} {post : Int64 → rc_M → Prop} {k92 : Int64 → Int → rc_M → Prop} {x4 : Int64} {x6 : Int} (X : rc_X p s m ([.ref a0, .long a1] : List Value).toArray meth c cX7_sumStock 7 wsX7_sumStock RX7 G (rc_A G)) (hr : meth.sig.returnType = some .long) (T0 : kX7 G a0) (hk92 : ∀ (x4 : Int64) (x6 : Int) (J : rc_M), k92 x4 x6 J → rc_g p l e rmX7_sumStock s m ([.ref a0, .long a1] : List Value).toArray below meth c 0 0 (MQ below (rc_QL G post) ([.ref a0, .long a1] : List Value).toArray s 0 0 (rc_A G)) 7 G (rc_A G) 92 [(0, .ref a0), (3, .ref (a0 + 1 + 1)), (4, .long x4), (6, .int (rc_o x6))] [] J)  (h : wX7_sumStock_92 G post a0 a1 k92 x4 x6 I) : rc_g p l e rmX7_sumStock s m ([.ref a0, .long a1] : List Value).toArray below meth c 0 0 (MQ below (rc_QL G post) ([.ref a0, .long a1] : List Value).toArray s 0 0 (rc_A G)) 7 G (rc_A G) 92 [(0, .ref a0), (3, .ref (a0 + 1 + 1)), (4, .long x4), (6, .int (rc_o x6))] [] I := by
  unfold wX7_sumStock_92 at h
  refine rc_iload X dX7_sumStock_92 3 rfl ?_
  refine rc_aload_n X dX7_sumStock_94 rfl 1 rfl ?_
  refine gfX6_placeCount X T0.2.1.2.1.1 nX7_sumStock_X6 qX7_sumStock_4 dX7_sumStock_95 ?_
  obtain ⟨c10, h⟩ := h
  obtain ⟨c11, h⟩ := h
  refine rc_ic_ge X 121 dX7_sumStock_98 (by decide) c10 c11 (fun c12 => ?_) (fun c12 => ?_)
  · have h := h.1 c12
    refine rc_lload X dX7_sumStock_121 2 rfl ?_
    exact rc_lret X hr dX7_sumStock_123 h
  · have h := h.2 c12
    refine rc_lload X dX7_sumStock_101 2 rfl ?_
    refine rc_aload_n X dX7_sumStock_103 rfl 0 rfl ?_
    refine rc_iload X dX7_sumStock_104 3 rfl ?_
    refine rc_cVI (rest := [.long x4]) X (mX7_program T0 h) gX7_sumStock_X7_program rfl ⟨rfl, rfl⟩ dyX7_program ⟨Nat.le_of_ble_eq_true rfl, Nat.le_of_ble_eq_true rfl⟩ (rc_recv X T0.1 rfl) rfl rfl (Nat.le_of_ble_eq_true rfl) dX7_sumStock_106 ⟨Nat.zero_le _, Nat.zero_le _⟩ (fun r14 I13 h => ?_)
    refine rc_i2l X dX7_sumStock_109 ?_
    refine rc_cSL (rest := []) X (mX7_mix  h) gX7_sumStock_X7_mix rfl ⟨rfl, rfl⟩ dyX7_mix ⟨Nat.le_of_ble_eq_true rfl, Nat.le_of_ble_eq_true rfl⟩ rfl rfl (Nat.le_of_ble_eq_true rfl) dX7_sumStock_110 ⟨Nat.zero_le _, Nat.zero_le _⟩ (fun r16 I15 h => ?_)
    refine rc_lstore X [(4, .long r16), (0, .ref a0), (3, .ref (a0 + 1 + 1)), (6, .int (rc_o x6))] dX7_sumStock_113 (by decide) rfl ?_
    refine rc_iinc X [(6, .int (rc_o (x6 + 1))), (4, .long r16), (0, .ref a0), (3, .ref (a0 + 1 + 1))] dX7_sumStock_115 3 rfl (by decide) rfl ?_
    refine rc_goto X 92 dX7_sumStock_118 (by decide) ?_
    refine rc_subl [(0, .ref a0), (3, .ref (a0 + 1 + 1)), (4, .long r16), (6, .int (rc_o (x6 + 1)))] [2, 3, 1, 0] rfl ?_
    exact hk92 _ _ _ h
noncomputable def rX7_sumStock_92 (G : rc_G) (post : Int64 → rc_M → Prop) (a0 : Nat) (a1 : Int64)  (n : Nat) : Int64 → Int → rc_M → Prop :=
  Nat.rec (motive := fun _ => Int64 → Int → rc_M → Prop) (fun _ _ _ => False) (fun _ ih => wX7_sumStock_92 G post a0 a1  ih) n
set_option maxRecDepth 100000 in
set_option maxHeartbeats 4000000 in
theorem sX7_sumStock_92 {p : Program} {l : Launch} {e : Env} {s : State} {m : MethodId} {below : List Frame} {meth : Method} {c : Code} {G : rc_G} {a0 : Nat} {a1 : Int64} {I : rc_M} {post : Int64 → rc_M → Prop}  {n : Nat} {x4 : Int64} {x6 : Int} (X : rc_X p s m ([.ref a0, .long a1] : List Value).toArray meth c cX7_sumStock 7 wsX7_sumStock RX7 G (rc_A G)) (hr : meth.sig.returnType = some .long) (T0 : kX7 G a0)  (h : rX7_sumStock_92 G post a0 a1  n x4 x6 I) : rc_g p l e rmX7_sumStock s m ([.ref a0, .long a1] : List Value).toArray below meth c 0 0 (MQ below (rc_QL G post) ([.ref a0, .long a1] : List Value).toArray s 0 0 (rc_A G)) 7 G (rc_A G) 92 [(0, .ref a0), (3, .ref (a0 + 1 + 1)), (4, .long x4), (6, .int (rc_o x6))] [] I := by
  induction n generalizing x4 x6 I with
  | zero => exact h.elim
  | succ n ih => exact gX7_sumStock_92 (k92 := rX7_sumStock_92 G post a0 a1  n) X hr T0  (fun x4 x6 J h2 => ih h2) h
def wX7_sumStock_50 (G : rc_G) (post : Int64 → rc_M → Prop) (a0 : Nat) (a1 : Int64) (k50 : Int64 → Int → rc_M → Prop) (x4 : Int64) (x6 : Int) (I : rc_M) : Prop :=
  rc_R x6 ∧ ((8 ≤ x6 → wX7_mix G x4 ((rc_o (I (a0 + 1 + 1) 1)).toInt64) I (fun r9 I8 => ∃ n, rX7_sumStock_92 G post a0 a1  n r9 0 I8)) ∧ (¬ 8 ≤ x6 → wX6_settingNumbered G (a0 + 1 + 1) x6 I (fun r18 I17 => wX7_mix G x4 ((rc_o r18).toInt64) I17 (fun r20 I19 => k50 r20 (x6 + 1) I19))))
set_option maxRecDepth 100000 in
set_option maxHeartbeats 4000000 in
theorem gX7_sumStock_50 {p : Program} {l : Launch} {e : Env} {s : State} {m : MethodId} {below : List Frame} {meth : Method} {c : Code} {G : rc_G} {a0 : Nat} {a1 : Int64} {I : rc_M} {post : Int64 → rc_M → Prop} {k50 : Int64 → Int → rc_M → Prop} {x4 : Int64} {x6 : Int} (X : rc_X p s m ([.ref a0, .long a1] : List Value).toArray meth c cX7_sumStock 7 wsX7_sumStock RX7 G (rc_A G)) (hr : meth.sig.returnType = some .long) (T0 : kX7 G a0) (hk50 : ∀ (x4 : Int64) (x6 : Int) (J : rc_M), k50 x4 x6 J → rc_g p l e rmX7_sumStock s m ([.ref a0, .long a1] : List Value).toArray below meth c 0 0 (MQ below (rc_QL G post) ([.ref a0, .long a1] : List Value).toArray s 0 0 (rc_A G)) 7 G (rc_A G) 50 [(0, .ref a0), (3, .ref (a0 + 1 + 1)), (4, .long x4), (6, .int (rc_o x6))] [] J)  (h : wX7_sumStock_50 G post a0 a1 k50 x4 x6 I) : rc_g p l e rmX7_sumStock s m ([.ref a0, .long a1] : List Value).toArray below meth c 0 0 (MQ below (rc_QL G post) ([.ref a0, .long a1] : List Value).toArray s 0 0 (rc_A G)) 7 G (rc_A G) 50 [(0, .ref a0), (3, .ref (a0 + 1 + 1)), (4, .long x4), (6, .int (rc_o x6))] [] I := by
  unfold wX7_sumStock_50 at h
  refine rc_iload X dX7_sumStock_50 3 rfl ?_
  refine rc_bipush X dX7_sumStock_52 (rc_b8 _ ⟨by decide, by decide⟩) ?_
  obtain ⟨c6, h⟩ := h
  refine rc_ic_ge X 77 dX7_sumStock_54 (by decide) c6 ⟨by decide, by decide⟩ (fun c7 => ?_) (fun c7 => ?_)
  · have h := h.1 c7
    refine rc_lload X dX7_sumStock_77 2 rfl ?_
    refine rc_aload_n X dX7_sumStock_79 rfl 1 rfl ?_
    refine gfX6_placeCount X T0.2.1.2.1.1 nX7_sumStock_X6 qX7_sumStock_4 dX7_sumStock_80 ?_
    refine rc_i2l X dX7_sumStock_83 ?_
    refine rc_cSL (rest := []) X (mX7_mix  h) gX7_sumStock_X7_mix rfl ⟨rfl, rfl⟩ dyX7_mix ⟨Nat.le_of_ble_eq_true rfl, Nat.le_of_ble_eq_true rfl⟩ rfl rfl (Nat.le_of_ble_eq_true rfl) dX7_sumStock_84 ⟨Nat.zero_le _, Nat.zero_le _⟩ (fun r9 I8 h => ?_)
    refine rc_lstore X [(4, .long r9), (0, .ref a0), (3, .ref (a0 + 1 + 1)), (6, .int (rc_o x6))] dX7_sumStock_87 (by decide) rfl ?_
    refine rc_iconst X dX7_sumStock_89 ?_
    refine rc_istore X [(6, .int (rc_o 0)), (4, .long r9), (0, .ref a0), (3, .ref (a0 + 1 + 1))] dX7_sumStock_90 (by decide) rfl ?_
    refine rc_subl [(0, .ref a0), (3, .ref (a0 + 1 + 1)), (4, .long r9), (6, .int (rc_o 0))] [2, 3, 1, 0] rfl ?_
    obtain ⟨n, h⟩ := h
    exact sX7_sumStock_92 X hr T0  h
  · have h := h.2 c7
    refine rc_lload X dX7_sumStock_57 2 rfl ?_
    refine rc_aload_n X dX7_sumStock_59 rfl 1 rfl ?_
    refine rc_iload X dX7_sumStock_60 3 rfl ?_
    refine rc_cVI (rest := [.long x4]) X (mX6_settingNumbered T0.2.1.2.1 h) gX7_sumStock_X6_settingNumbered rfl ⟨rfl, rfl⟩ dyX6_settingNumbered ⟨Nat.le_of_ble_eq_true rfl, Nat.le_of_ble_eq_true rfl⟩ (rc_recv X T0.2.1.2.1.1 rfl) rfl rfl (Nat.le_of_ble_eq_true rfl) dX7_sumStock_62 ⟨Nat.zero_le _, Nat.zero_le _⟩ (fun r18 I17 h => ?_)
    refine rc_i2l X dX7_sumStock_65 ?_
    refine rc_cSL (rest := []) X (mX7_mix  h) gX7_sumStock_X7_mix rfl ⟨rfl, rfl⟩ dyX7_mix ⟨Nat.le_of_ble_eq_true rfl, Nat.le_of_ble_eq_true rfl⟩ rfl rfl (Nat.le_of_ble_eq_true rfl) dX7_sumStock_66 ⟨Nat.zero_le _, Nat.zero_le _⟩ (fun r20 I19 h => ?_)
    refine rc_lstore X [(4, .long r20), (0, .ref a0), (3, .ref (a0 + 1 + 1)), (6, .int (rc_o x6))] dX7_sumStock_69 (by decide) rfl ?_
    refine rc_iinc X [(6, .int (rc_o (x6 + 1))), (4, .long r20), (0, .ref a0), (3, .ref (a0 + 1 + 1))] dX7_sumStock_71 3 rfl (by decide) rfl ?_
    refine rc_goto X 50 dX7_sumStock_74 (by decide) ?_
    refine rc_subl [(0, .ref a0), (3, .ref (a0 + 1 + 1)), (4, .long r20), (6, .int (rc_o (x6 + 1)))] [2, 3, 1, 0] rfl ?_
    exact hk50 _ _ _ h
noncomputable def rX7_sumStock_50 (G : rc_G) (post : Int64 → rc_M → Prop) (a0 : Nat) (a1 : Int64)  (n : Nat) : Int64 → Int → rc_M → Prop :=
  Nat.rec (motive := fun _ => Int64 → Int → rc_M → Prop) (fun _ _ _ => False) (fun _ ih => wX7_sumStock_50 G post a0 a1  ih) n
set_option maxRecDepth 100000 in
set_option maxHeartbeats 4000000 in
theorem sX7_sumStock_50 {p : Program} {l : Launch} {e : Env} {s : State} {m : MethodId} {below : List Frame} {meth : Method} {c : Code} {G : rc_G} {a0 : Nat} {a1 : Int64} {I : rc_M} {post : Int64 → rc_M → Prop}  {n : Nat} {x4 : Int64} {x6 : Int} (X : rc_X p s m ([.ref a0, .long a1] : List Value).toArray meth c cX7_sumStock 7 wsX7_sumStock RX7 G (rc_A G)) (hr : meth.sig.returnType = some .long) (T0 : kX7 G a0)  (h : rX7_sumStock_50 G post a0 a1  n x4 x6 I) : rc_g p l e rmX7_sumStock s m ([.ref a0, .long a1] : List Value).toArray below meth c 0 0 (MQ below (rc_QL G post) ([.ref a0, .long a1] : List Value).toArray s 0 0 (rc_A G)) 7 G (rc_A G) 50 [(0, .ref a0), (3, .ref (a0 + 1 + 1)), (4, .long x4), (6, .int (rc_o x6))] [] I := by
  induction n generalizing x4 x6 I with
  | zero => exact h.elim
  | succ n ih => exact gX7_sumStock_50 (k50 := rX7_sumStock_50 G post a0 a1  n) X hr T0  (fun x4 x6 J h2 => ih h2) h
def wX7_sumStock_22 (G : rc_G) (post : Int64 → rc_M → Prop) (a0 : Nat) (a1 : Int64) (k22 : Int64 → Int → rc_M → Prop) (x4 : Int64) (x6 : Int) (I : rc_M) : Prop :=
  rc_R x6 ∧ (rc_R (I (a0 + 1 + 1) 0) ∧ (((I (a0 + 1 + 1) 0) ≤ x6 → ∃ n, rX7_sumStock_50 G post a0 a1  n x4 0 I) ∧ (¬ (I (a0 + 1 + 1) 0) ≤ x6 → wX7_sumReel G a0 x4 x6 I (fun r22 I21 => k22 r22 (x6 + 1) I21))))
set_option maxRecDepth 100000 in
set_option maxHeartbeats 4000000 in
theorem gX7_sumStock_22 {p : Program} {l : Launch} {e : Env} {s : State} {m : MethodId} {below : List Frame} {meth : Method} {c : Code} {G : rc_G} {a0 : Nat} {a1 : Int64} {I : rc_M} {post : Int64 → rc_M → Prop} {k22 : Int64 → Int → rc_M → Prop} {x4 : Int64} {x6 : Int} (X : rc_X p s m ([.ref a0, .long a1] : List Value).toArray meth c cX7_sumStock 7 wsX7_sumStock RX7 G (rc_A G)) (hr : meth.sig.returnType = some .long) (T0 : kX7 G a0) (hk22 : ∀ (x4 : Int64) (x6 : Int) (J : rc_M), k22 x4 x6 J → rc_g p l e rmX7_sumStock s m ([.ref a0, .long a1] : List Value).toArray below meth c 0 0 (MQ below (rc_QL G post) ([.ref a0, .long a1] : List Value).toArray s 0 0 (rc_A G)) 7 G (rc_A G) 22 [(0, .ref a0), (3, .ref (a0 + 1 + 1)), (4, .long x4), (6, .int (rc_o x6))] [] J)  (h : wX7_sumStock_22 G post a0 a1 k22 x4 x6 I) : rc_g p l e rmX7_sumStock s m ([.ref a0, .long a1] : List Value).toArray below meth c 0 0 (MQ below (rc_QL G post) ([.ref a0, .long a1] : List Value).toArray s 0 0 (rc_A G)) 7 G (rc_A G) 22 [(0, .ref a0), (3, .ref (a0 + 1 + 1)), (4, .long x4), (6, .int (rc_o x6))] [] I := by
  unfold wX7_sumStock_22 at h
  refine rc_iload X dX7_sumStock_22 3 rfl ?_
  refine rc_aload_n X dX7_sumStock_24 rfl 1 rfl ?_
  refine gfX6_reelCount X T0.2.1.2.1.1 nX7_sumStock_X6 qX7_sumStock_3 dX7_sumStock_25 ?_
  obtain ⟨c3, h⟩ := h
  obtain ⟨c4, h⟩ := h
  refine rc_ic_ge X 47 dX7_sumStock_28 (by decide) c3 c4 (fun c5 => ?_) (fun c5 => ?_)
  · have h := h.1 c5
    refine rc_iconst X dX7_sumStock_47 ?_
    refine rc_istore X [(6, .int (rc_o 0)), (0, .ref a0), (3, .ref (a0 + 1 + 1)), (4, .long x4)] dX7_sumStock_48 (by decide) rfl ?_
    refine rc_subl [(0, .ref a0), (3, .ref (a0 + 1 + 1)), (4, .long x4), (6, .int (rc_o 0))] [1, 2, 3, 0] rfl ?_
    obtain ⟨n, h⟩ := h
    exact sX7_sumStock_50 X hr T0  h
  · have h := h.2 c5
    refine rc_aload_n X dX7_sumStock_31 rfl 0 rfl ?_
    refine rc_lload X dX7_sumStock_32 2 rfl ?_
    refine rc_iload X dX7_sumStock_34 3 rfl ?_
    refine rc_cVL (rest := []) X (mX7_sumReel T0 h) gX7_sumStock_X7_sumReel rfl ⟨rfl, rfl⟩ dyX7_sumReel ⟨Nat.le_of_ble_eq_true rfl, Nat.le_of_ble_eq_true rfl⟩ (rc_recv X T0.1 rfl) rfl rfl (Nat.le_of_ble_eq_true rfl) dX7_sumStock_36 ⟨Nat.zero_le _, Nat.zero_le _⟩ (fun r22 I21 h => ?_)
    refine rc_lstore X [(4, .long r22), (0, .ref a0), (3, .ref (a0 + 1 + 1)), (6, .int (rc_o x6))] dX7_sumStock_39 (by decide) rfl ?_
    refine rc_iinc X [(6, .int (rc_o (x6 + 1))), (4, .long r22), (0, .ref a0), (3, .ref (a0 + 1 + 1))] dX7_sumStock_41 3 rfl (by decide) rfl ?_
    refine rc_goto X 22 dX7_sumStock_44 (by decide) ?_
    refine rc_subl [(0, .ref a0), (3, .ref (a0 + 1 + 1)), (4, .long r22), (6, .int (rc_o (x6 + 1)))] [2, 3, 1, 0] rfl ?_
    exact hk22 _ _ _ h
noncomputable def rX7_sumStock_22 (G : rc_G) (post : Int64 → rc_M → Prop) (a0 : Nat) (a1 : Int64)  (n : Nat) : Int64 → Int → rc_M → Prop :=
  Nat.rec (motive := fun _ => Int64 → Int → rc_M → Prop) (fun _ _ _ => False) (fun _ ih => wX7_sumStock_22 G post a0 a1  ih) n
set_option maxRecDepth 100000 in
set_option maxHeartbeats 4000000 in
theorem sX7_sumStock_22 {p : Program} {l : Launch} {e : Env} {s : State} {m : MethodId} {below : List Frame} {meth : Method} {c : Code} {G : rc_G} {a0 : Nat} {a1 : Int64} {I : rc_M} {post : Int64 → rc_M → Prop}  {n : Nat} {x4 : Int64} {x6 : Int} (X : rc_X p s m ([.ref a0, .long a1] : List Value).toArray meth c cX7_sumStock 7 wsX7_sumStock RX7 G (rc_A G)) (hr : meth.sig.returnType = some .long) (T0 : kX7 G a0)  (h : rX7_sumStock_22 G post a0 a1  n x4 x6 I) : rc_g p l e rmX7_sumStock s m ([.ref a0, .long a1] : List Value).toArray below meth c 0 0 (MQ below (rc_QL G post) ([.ref a0, .long a1] : List Value).toArray s 0 0 (rc_A G)) 7 G (rc_A G) 22 [(0, .ref a0), (3, .ref (a0 + 1 + 1)), (4, .long x4), (6, .int (rc_o x6))] [] I := by
  induction n generalizing x4 x6 I with
  | zero => exact h.elim
  | succ n ih => exact gX7_sumStock_22 (k22 := rX7_sumStock_22 G post a0 a1  n) X hr T0  (fun x4 x6 J h2 => ih h2) h
def wX7_sumStock (G : rc_G) (a0 : Nat) (a1 : Int64) (I : rc_M) (post : Int64 → rc_M → Prop) : Prop :=
  wX7_mix G a1 ((rc_o (I (a0 + 1 + 1) 0)).toInt64) I (fun r2 I1 => ∃ n, rX7_sumStock_22 G post a0 a1  n r2 0 I1)
set_option maxRecDepth 100000 in
set_option maxHeartbeats 4000000 in
theorem gX7_sumStock_0 {p : Program} {l : Launch} {e : Env} {s : State} {m : MethodId} {below : List Frame} {meth : Method} {c : Code} {G : rc_G} {a0 : Nat} {a1 : Int64} {I : rc_M} {post : Int64 → rc_M → Prop}  (X : rc_X p s m ([.ref a0, .long a1] : List Value).toArray meth c cX7_sumStock 7 wsX7_sumStock RX7 G (rc_A G)) (hr : meth.sig.returnType = some .long) (T0 : kX7 G a0)  (h : wX7_sumStock G a0 a1 I post) : rc_g p l e rmX7_sumStock s m ([.ref a0, .long a1] : List Value).toArray below meth c 0 0 (MQ below (rc_QL G post) ([.ref a0, .long a1] : List Value).toArray s 0 0 (rc_A G)) 7 G (rc_A G) 0 [(0, .ref a0), (1, .long a1)] [] I := by
  unfold wX7_sumStock at h
  refine rc_aload_n X dX7_sumStock_0 rfl 0 rfl ?_
  refine gfX7_room X T0.1 nX7_sumStock_X7 qX7_sumStock_1 dX7_sumStock_1 ?_
  refine gfX4_stock X T0.2.1.1 nX7_sumStock_X4 qX7_sumStock_2 dX7_sumStock_4 ?_
  refine rc_astore_n X [(3, .ref (a0 + 1 + 1)), (0, .ref a0), (1, .long a1)] dX7_sumStock_7 rfl (by decide) rfl ?_
  refine rc_lload_n X dX7_sumStock_8 rfl 2 rfl ?_
  refine rc_aload_n X dX7_sumStock_9 rfl 0 rfl ?_
  refine gfX6_reelCount X T0.2.1.2.1.1 nX7_sumStock_X6 qX7_sumStock_3 dX7_sumStock_10 ?_
  refine rc_i2l X dX7_sumStock_13 ?_
  refine rc_cSL (rest := []) X (mX7_mix  h) gX7_sumStock_X7_mix rfl ⟨rfl, rfl⟩ dyX7_mix ⟨Nat.le_of_ble_eq_true rfl, Nat.le_of_ble_eq_true rfl⟩ rfl rfl (Nat.le_of_ble_eq_true rfl) dX7_sumStock_14 ⟨Nat.zero_le _, Nat.zero_le _⟩ (fun r2 I1 h => ?_)
  refine rc_lstore X [(4, .long r2), (3, .ref (a0 + 1 + 1)), (0, .ref a0), (1, .long a1)] dX7_sumStock_17 (by decide) rfl ?_
  refine rc_iconst X dX7_sumStock_19 ?_
  refine rc_istore X [(6, .int (rc_o 0)), (4, .long r2), (3, .ref (a0 + 1 + 1)), (0, .ref a0), (1, .long a1)] dX7_sumStock_20 (by decide) rfl ?_
  refine rc_subl [(0, .ref a0), (3, .ref (a0 + 1 + 1)), (4, .long r2), (6, .int (rc_o 0))] [3, 2, 1, 0] rfl ?_
  obtain ⟨n, h⟩ := h
  exact sX7_sumStock_22 X hr T0  h
theorem mX7_sumStock {l : Launch} {G : rc_G} {a0 : Nat} {a1 : Int64} {I : rc_M} {post : Int64 → rc_M → Prop} (T0 : kX7 G a0) (h : wX7_sumStock G a0 a1 I post) : rc_CL l yX7_sumStock wsX7_sumStock rmX7_sumStock G [.ref a0, .long a1] I post :=
  rc_body (by decide +kernel) rfl rfl (Nat.le_of_ble_eq_true rfl) rfl (fun p e s m below meth c X hr => gX7_sumStock_0 X hr T0 h)
/-! X7_sumShow -/
abbrev rmX7_sumShow : Room := { frames := 3, cells := 0, slots := 0, locals := 65 }
theorem dyX7_sumShow : yX7_sumShow.cls = RX7 ∧ yX7_sumShow.cls ≠ "java/lang/invoke/MethodHandle" ∧ yX7_sumShow.cls ≠ "java/lang/invoke/VarHandle" ∧ (parseMethodDescriptor yX7_sumShow.desc).map (fun d => d.parameters.length) = some 1 := ⟨rfl, by decide +kernel, by decide +kernel, by decide +kernel⟩
theorem qX7_sumShow_1 : Cond.fieldLink RX7 10 "ReelChanger" "room" "LReelChanger$Room;" ∈ wsX7_sumShow := List.mem_of_getElem? (i := 1) (by decide +kernel)
theorem nX7_sumShow_X7 : ∀ w ∈ wsX70, w ∈ wsX7_sumShow := fun w h => List.mem_cons_of_mem _ (List.mem_append_left _ (List.mem_append_left _ (List.mem_append_left _ (List.mem_append_left _ (List.mem_append_right _ (h))))))
theorem qX7_sumShow_2 : Cond.fieldLink RX7 106 "ReelChanger$Room" "show" "LReelChanger$Show;" ∈ wsX7_sumShow := List.mem_of_getElem? (i := 2) (by decide +kernel)
theorem nX7_sumShow_X4 : ∀ w ∈ wsX40, w ∈ wsX7_sumShow := fun w h => List.mem_cons_of_mem _ (List.mem_append_left _ (List.mem_append_left _ (List.mem_append_left _ (List.mem_append_right _ (h)))))
theorem qX7_sumShow_3 : Cond.fieldLink RX7 164 "ReelChanger$Show" "operator" "LReelChanger$Operator;" ∈ wsX7_sumShow := List.mem_of_getElem? (i := 3) (by decide +kernel)
theorem nX7_sumShow_X5 : ∀ w ∈ wsX50, w ∈ wsX7_sumShow := fun w h => List.mem_cons_of_mem _ (List.mem_append_left _ (List.mem_append_left _ (List.mem_append_right _ (h))))
def wX7_sumShow_128 (G : rc_G) (post : Int64 → rc_M → Prop) (a0 : Nat) (a1 : Int64) (k77 : Int64 → Int → rc_M → Prop) (x3 : Int64) (x5 : Int) (I : rc_M) : Prop :=
  k77 x3 (x5 + 1) I
set_option maxRecDepth 100000 in
set_option maxHeartbeats 4000000 in
theorem gX7_sumShow_128 {p : Program} {l : Launch} {e : Env} {s : State} {m : MethodId} {below : List Frame} {meth : Method} {c : Code} {G : rc_G} {a0 : Nat} {a1 : Int64} {I : rc_M} {post : Int64 → rc_M → Prop} {k77 : Int64 → Int → rc_M → Prop} {x3 : Int64} {x5 : Int} (X : rc_X p s m ([.ref a0, .long a1] : List Value).toArray meth c cX7_sumShow 7 wsX7_sumShow RX7 G (rc_A G)) (hr : meth.sig.returnType = some .long) (T0 : kX7 G a0) (hk77 : ∀ (x3 : Int64) (x5 : Int) (J : rc_M), k77 x3 x5 J → rc_g p l e rmX7_sumShow s m ([.ref a0, .long a1] : List Value).toArray below meth c 0 0 (MQ below (rc_QL G post) ([.ref a0, .long a1] : List Value).toArray s 0 0 (rc_A G)) 7 G (rc_A G) 77 [(0, .ref a0), (3, .long x3), (5, .int (rc_o x5))] [] J)  (h : wX7_sumShow_128 G post a0 a1 k77 x3 x5 I) : rc_g p l e rmX7_sumShow s m ([.ref a0, .long a1] : List Value).toArray below meth c 0 0 (MQ below (rc_QL G post) ([.ref a0, .long a1] : List Value).toArray s 0 0 (rc_A G)) 7 G (rc_A G) 128 [(0, .ref a0), (3, .long x3), (5, .int (rc_o x5))] [] I := by
  unfold wX7_sumShow_128 at h
  refine rc_iinc X [(5, .int (rc_o (x5 + 1))), (0, .ref a0), (3, .long x3)] dX7_sumShow_128 2 rfl (by decide) rfl ?_
  refine rc_goto X 77 dX7_sumShow_131 (by decide) ?_
  refine rc_subl [(0, .ref a0), (3, .long x3), (5, .int (rc_o (x5 + 1)))] [1, 2, 0] rfl ?_
  exact hk77 _ _ _ h
def wX7_sumShow_77 (G : rc_G) (post : Int64 → rc_M → Prop) (a0 : Nat) (a1 : Int64) (k77 : Int64 → Int → rc_M → Prop) (x3 : Int64) (x5 : Int) (I : rc_M) : Prop :=
  rc_R x5 ∧ ((8 < x5 → post x3 I) ∧ (¬ 8 < x5 → wX0_hasTask G (a0 + 1 + 35 + 1) x5 I (fun r8 I7 => rc_R r8 ∧ ((r8 = 0 → wX7_sumShow_128 G post a0 a1 k77 x3 x5 I7) ∧ (¬ r8 = 0 → wX7_task G a0 x5 0 I7 (fun r12 I11 => wX7_mix G x3 ((rc_o r12).toInt64) I11 (fun r14 I13 => wX7_task G a0 x5 1 I13 (fun r16 I15 => wX7_mix G r14 ((rc_o r16).toInt64) I15 (fun r18 I17 => wX7_sumShow_128 G post a0 a1 k77 r18 x5 I17)))))))))
set_option maxRecDepth 100000 in
set_option maxHeartbeats 4000000 in
theorem gX7_sumShow_77 {p : Program} {l : Launch} {e : Env} {s : State} {m : MethodId} {below : List Frame} {meth : Method} {c : Code} {G : rc_G} {a0 : Nat} {a1 : Int64} {I : rc_M} {post : Int64 → rc_M → Prop} {k77 : Int64 → Int → rc_M → Prop} {x3 : Int64} {x5 : Int} (X : rc_X p s m ([.ref a0, .long a1] : List Value).toArray meth c cX7_sumShow 7 wsX7_sumShow RX7 G (rc_A G)) (hr : meth.sig.returnType = some .long) (T0 : kX7 G a0) (hk77 : ∀ (x3 : Int64) (x5 : Int) (J : rc_M), k77 x3 x5 J → rc_g p l e rmX7_sumShow s m ([.ref a0, .long a1] : List Value).toArray below meth c 0 0 (MQ below (rc_QL G post) ([.ref a0, .long a1] : List Value).toArray s 0 0 (rc_A G)) 7 G (rc_A G) 77 [(0, .ref a0), (3, .long x3), (5, .int (rc_o x5))] [] J)  (h : wX7_sumShow_77 G post a0 a1 k77 x3 x5 I) : rc_g p l e rmX7_sumShow s m ([.ref a0, .long a1] : List Value).toArray below meth c 0 0 (MQ below (rc_QL G post) ([.ref a0, .long a1] : List Value).toArray s 0 0 (rc_A G)) 7 G (rc_A G) 77 [(0, .ref a0), (3, .long x3), (5, .int (rc_o x5))] [] I := by
  unfold wX7_sumShow_77 at h
  refine rc_iload X dX7_sumShow_77 2 rfl ?_
  refine rc_bipush X dX7_sumShow_79 (rc_b8 _ ⟨by decide, by decide⟩) ?_
  obtain ⟨c5, h⟩ := h
  refine rc_ic_gt X 134 dX7_sumShow_81 (by decide) c5 ⟨by decide, by decide⟩ (fun c6 => ?_) (fun c6 => ?_)
  · have h := h.1 c6
    refine rc_lload_n X dX7_sumShow_134 rfl 1 rfl ?_
    exact rc_lret X hr dX7_sumShow_135 h
  · have h := h.2 c6
    refine rc_aload_n X dX7_sumShow_84 rfl 0 rfl ?_
    refine gfX7_room X T0.1 nX7_sumShow_X7 qX7_sumShow_1 dX7_sumShow_85 ?_
    refine gfX4_show X T0.2.1.1 nX7_sumShow_X4 qX7_sumShow_2 dX7_sumShow_88 ?_
    refine gfX5_operator X T0.2.1.2.2.1 nX7_sumShow_X5 qX7_sumShow_3 dX7_sumShow_91 ?_
    refine rc_iload X dX7_sumShow_94 2 rfl ?_
    refine rc_cVI (rest := []) X (mX0_hasTask T0.2.1.2.2.2.1 h) gX7_sumShow_X0_hasTask rfl ⟨rfl, rfl⟩ dyX0_hasTask ⟨Nat.le_of_ble_eq_true rfl, Nat.le_of_ble_eq_true rfl⟩ (rc_recv X T0.2.1.2.2.2.1.1 rfl) rfl rfl (Nat.le_of_ble_eq_true rfl) dX7_sumShow_96 ⟨Nat.zero_le _, Nat.zero_le _⟩ (fun r8 I7 h => ?_)
    obtain ⟨c9, h⟩ := h
    refine rc_if_eq X 128 dX7_sumShow_99 (by decide) c9 (fun c10 => ?_) (fun c10 => ?_)
    · have h := h.1 c10
      refine rc_subl [(0, .ref a0), (3, .long x3), (5, .int (rc_o x5))] [0, 1, 2] rfl ?_
      exact gX7_sumShow_128 X hr T0 hk77  h
    · have h := h.2 c10
      refine rc_lload_n X dX7_sumShow_102 rfl 1 rfl ?_
      refine rc_aload_n X dX7_sumShow_103 rfl 0 rfl ?_
      refine rc_iload X dX7_sumShow_104 2 rfl ?_
      refine rc_iconst X dX7_sumShow_106 ?_
      refine rc_cVI (rest := [.long x3]) X (mX7_task T0 h) gX7_sumShow_X7_task rfl ⟨rfl, rfl⟩ dyX7_task ⟨Nat.le_of_ble_eq_true rfl, Nat.le_of_ble_eq_true rfl⟩ (rc_recv X T0.1 rfl) rfl rfl (Nat.le_of_ble_eq_true rfl) dX7_sumShow_107 ⟨Nat.zero_le _, Nat.zero_le _⟩ (fun r12 I11 h => ?_)
      refine rc_i2l X dX7_sumShow_110 ?_
      refine rc_cSL (rest := []) X (mX7_mix  h) gX7_sumShow_X7_mix rfl ⟨rfl, rfl⟩ dyX7_mix ⟨Nat.le_of_ble_eq_true rfl, Nat.le_of_ble_eq_true rfl⟩ rfl rfl (Nat.le_of_ble_eq_true rfl) dX7_sumShow_111 ⟨Nat.zero_le _, Nat.zero_le _⟩ (fun r14 I13 h => ?_)
      refine rc_lstore_n X [(3, .long r14), (0, .ref a0), (5, .int (rc_o x5))] dX7_sumShow_114 rfl (by decide) rfl ?_
      refine rc_lload_n X dX7_sumShow_115 rfl 0 rfl ?_
      refine rc_aload_n X dX7_sumShow_116 rfl 1 rfl ?_
      refine rc_iload X dX7_sumShow_117 2 rfl ?_
      refine rc_iconst X dX7_sumShow_119 ?_
      refine rc_cVI (rest := [.long r14]) X (mX7_task T0 h) gX7_sumShow_X7_task rfl ⟨rfl, rfl⟩ dyX7_task ⟨Nat.le_of_ble_eq_true rfl, Nat.le_of_ble_eq_true rfl⟩ (rc_recv X T0.1 rfl) rfl rfl (Nat.le_of_ble_eq_true rfl) dX7_sumShow_120 ⟨Nat.zero_le _, Nat.zero_le _⟩ (fun r16 I15 h => ?_)
      refine rc_i2l X dX7_sumShow_123 ?_
      refine rc_cSL (rest := []) X (mX7_mix  h) gX7_sumShow_X7_mix rfl ⟨rfl, rfl⟩ dyX7_mix ⟨Nat.le_of_ble_eq_true rfl, Nat.le_of_ble_eq_true rfl⟩ rfl rfl (Nat.le_of_ble_eq_true rfl) dX7_sumShow_124 ⟨Nat.zero_le _, Nat.zero_le _⟩ (fun r18 I17 h => ?_)
      refine rc_lstore_n X [(3, .long r18), (0, .ref a0), (5, .int (rc_o x5))] dX7_sumShow_127 rfl (by decide) rfl ?_
      refine rc_subl [(0, .ref a0), (3, .long r18), (5, .int (rc_o x5))] [1, 0, 2] rfl ?_
      exact gX7_sumShow_128 X hr T0 hk77  h
noncomputable def rX7_sumShow_77 (G : rc_G) (post : Int64 → rc_M → Prop) (a0 : Nat) (a1 : Int64)  (n : Nat) : Int64 → Int → rc_M → Prop :=
  Nat.rec (motive := fun _ => Int64 → Int → rc_M → Prop) (fun _ _ _ => False) (fun _ ih => wX7_sumShow_77 G post a0 a1  ih) n
set_option maxRecDepth 100000 in
set_option maxHeartbeats 4000000 in
theorem sX7_sumShow_77 {p : Program} {l : Launch} {e : Env} {s : State} {m : MethodId} {below : List Frame} {meth : Method} {c : Code} {G : rc_G} {a0 : Nat} {a1 : Int64} {I : rc_M} {post : Int64 → rc_M → Prop}  {n : Nat} {x3 : Int64} {x5 : Int} (X : rc_X p s m ([.ref a0, .long a1] : List Value).toArray meth c cX7_sumShow 7 wsX7_sumShow RX7 G (rc_A G)) (hr : meth.sig.returnType = some .long) (T0 : kX7 G a0)  (h : rX7_sumShow_77 G post a0 a1  n x3 x5 I) : rc_g p l e rmX7_sumShow s m ([.ref a0, .long a1] : List Value).toArray below meth c 0 0 (MQ below (rc_QL G post) ([.ref a0, .long a1] : List Value).toArray s 0 0 (rc_A G)) 7 G (rc_A G) 77 [(0, .ref a0), (3, .long x3), (5, .int (rc_o x5))] [] I := by
  induction n generalizing x3 x5 I with
  | zero => exact h.elim
  | succ n ih => exact gX7_sumShow_77 (k77 := rX7_sumShow_77 G post a0 a1  n) X hr T0  (fun x3 x5 J h2 => ih h2) h
def wX7_sumShow_42 (G : rc_G) (post : Int64 → rc_M → Prop) (a0 : Nat) (a1 : Int64) (k33 : Int64 → Int → rc_M → Prop) (k42 : Int64 → Int → Int → rc_M → Prop) (x3 : Int64) (x5 : Int) (x6 : Int) (I : rc_M) : Prop :=
  rc_R x6 ∧ ((2 < x6 → k33 x3 (x5 + 1) I) ∧ (¬ 2 < x6 → wX7_projector G a0 x5 x6 I (fun r22 I21 => wX7_mix G x3 ((rc_o r22).toInt64) I21 (fun r24 I23 => k42 r24 x5 (x6 + 1) I23))))
set_option maxRecDepth 100000 in
set_option maxHeartbeats 4000000 in
theorem gX7_sumShow_42 {p : Program} {l : Launch} {e : Env} {s : State} {m : MethodId} {below : List Frame} {meth : Method} {c : Code} {G : rc_G} {a0 : Nat} {a1 : Int64} {I : rc_M} {post : Int64 → rc_M → Prop} {k33 : Int64 → Int → rc_M → Prop} {k42 : Int64 → Int → Int → rc_M → Prop} {x3 : Int64} {x5 : Int} {x6 : Int} (X : rc_X p s m ([.ref a0, .long a1] : List Value).toArray meth c cX7_sumShow 7 wsX7_sumShow RX7 G (rc_A G)) (hr : meth.sig.returnType = some .long) (T0 : kX7 G a0) (hk33 : ∀ (x3 : Int64) (x5 : Int) (J : rc_M), k33 x3 x5 J → rc_g p l e rmX7_sumShow s m ([.ref a0, .long a1] : List Value).toArray below meth c 0 0 (MQ below (rc_QL G post) ([.ref a0, .long a1] : List Value).toArray s 0 0 (rc_A G)) 7 G (rc_A G) 33 [(0, .ref a0), (3, .long x3), (5, .int (rc_o x5))] [] J) (hk42 : ∀ (x3 : Int64) (x5 : Int) (x6 : Int) (J : rc_M), k42 x3 x5 x6 J → rc_g p l e rmX7_sumShow s m ([.ref a0, .long a1] : List Value).toArray below meth c 0 0 (MQ below (rc_QL G post) ([.ref a0, .long a1] : List Value).toArray s 0 0 (rc_A G)) 7 G (rc_A G) 42 [(0, .ref a0), (3, .long x3), (5, .int (rc_o x5)), (6, .int (rc_o x6))] [] J)  (h : wX7_sumShow_42 G post a0 a1 k33 k42 x3 x5 x6 I) : rc_g p l e rmX7_sumShow s m ([.ref a0, .long a1] : List Value).toArray below meth c 0 0 (MQ below (rc_QL G post) ([.ref a0, .long a1] : List Value).toArray s 0 0 (rc_A G)) 7 G (rc_A G) 42 [(0, .ref a0), (3, .long x3), (5, .int (rc_o x5)), (6, .int (rc_o x6))] [] I := by
  unfold wX7_sumShow_42 at h
  refine rc_iload X dX7_sumShow_42 3 rfl ?_
  refine rc_iconst X dX7_sumShow_44 ?_
  obtain ⟨c19, h⟩ := h
  refine rc_ic_gt X 68 dX7_sumShow_45 (by decide) c19 ⟨by decide, by decide⟩ (fun c20 => ?_) (fun c20 => ?_)
  · have h := h.1 c20
    refine rc_iinc X [(5, .int (rc_o (x5 + 1))), (0, .ref a0), (3, .long x3), (6, .int (rc_o x6))] dX7_sumShow_68 2 rfl (by decide) rfl ?_
    refine rc_goto X 33 dX7_sumShow_71 (by decide) ?_
    refine rc_subl [(0, .ref a0), (3, .long x3), (5, .int (rc_o (x5 + 1)))] [1, 2, 0] rfl ?_
    exact hk33 _ _ _ h
  · have h := h.2 c20
    refine rc_lload_n X dX7_sumShow_48 rfl 1 rfl ?_
    refine rc_aload_n X dX7_sumShow_49 rfl 0 rfl ?_
    refine rc_iload X dX7_sumShow_50 2 rfl ?_
    refine rc_iload X dX7_sumShow_52 3 rfl ?_
    refine rc_cVI (rest := [.long x3]) X (mX7_projector T0 h) gX7_sumShow_X7_projector rfl ⟨rfl, rfl⟩ dyX7_projector ⟨Nat.le_of_ble_eq_true rfl, Nat.le_of_ble_eq_true rfl⟩ (rc_recv X T0.1 rfl) rfl rfl (Nat.le_of_ble_eq_true rfl) dX7_sumShow_54 ⟨Nat.zero_le _, Nat.zero_le _⟩ (fun r22 I21 h => ?_)
    refine rc_i2l X dX7_sumShow_57 ?_
    refine rc_cSL (rest := []) X (mX7_mix  h) gX7_sumShow_X7_mix rfl ⟨rfl, rfl⟩ dyX7_mix ⟨Nat.le_of_ble_eq_true rfl, Nat.le_of_ble_eq_true rfl⟩ rfl rfl (Nat.le_of_ble_eq_true rfl) dX7_sumShow_58 ⟨Nat.zero_le _, Nat.zero_le _⟩ (fun r24 I23 h => ?_)
    refine rc_lstore_n X [(3, .long r24), (0, .ref a0), (5, .int (rc_o x5)), (6, .int (rc_o x6))] dX7_sumShow_61 rfl (by decide) rfl ?_
    refine rc_iinc X [(6, .int (rc_o (x6 + 1))), (3, .long r24), (0, .ref a0), (5, .int (rc_o x5))] dX7_sumShow_62 3 rfl (by decide) rfl ?_
    refine rc_goto X 42 dX7_sumShow_65 (by decide) ?_
    refine rc_subl [(0, .ref a0), (3, .long r24), (5, .int (rc_o x5)), (6, .int (rc_o (x6 + 1)))] [2, 1, 3, 0] rfl ?_
    exact hk42 _ _ _ _ h
noncomputable def rX7_sumShow_42 (G : rc_G) (post : Int64 → rc_M → Prop) (a0 : Nat) (a1 : Int64) (k33 : Int64 → Int → rc_M → Prop) (n : Nat) : Int64 → Int → Int → rc_M → Prop :=
  Nat.rec (motive := fun _ => Int64 → Int → Int → rc_M → Prop) (fun _ _ _ _ => False) (fun _ ih => wX7_sumShow_42 G post a0 a1 k33 ih) n
set_option maxRecDepth 100000 in
set_option maxHeartbeats 4000000 in
theorem sX7_sumShow_42 {p : Program} {l : Launch} {e : Env} {s : State} {m : MethodId} {below : List Frame} {meth : Method} {c : Code} {G : rc_G} {a0 : Nat} {a1 : Int64} {I : rc_M} {post : Int64 → rc_M → Prop} {k33 : Int64 → Int → rc_M → Prop} {n : Nat} {x3 : Int64} {x5 : Int} {x6 : Int} (X : rc_X p s m ([.ref a0, .long a1] : List Value).toArray meth c cX7_sumShow 7 wsX7_sumShow RX7 G (rc_A G)) (hr : meth.sig.returnType = some .long) (T0 : kX7 G a0) (hk33 : ∀ (x3 : Int64) (x5 : Int) (J : rc_M), k33 x3 x5 J → rc_g p l e rmX7_sumShow s m ([.ref a0, .long a1] : List Value).toArray below meth c 0 0 (MQ below (rc_QL G post) ([.ref a0, .long a1] : List Value).toArray s 0 0 (rc_A G)) 7 G (rc_A G) 33 [(0, .ref a0), (3, .long x3), (5, .int (rc_o x5))] [] J) (h : rX7_sumShow_42 G post a0 a1 k33 n x3 x5 x6 I) : rc_g p l e rmX7_sumShow s m ([.ref a0, .long a1] : List Value).toArray below meth c 0 0 (MQ below (rc_QL G post) ([.ref a0, .long a1] : List Value).toArray s 0 0 (rc_A G)) 7 G (rc_A G) 42 [(0, .ref a0), (3, .long x3), (5, .int (rc_o x5)), (6, .int (rc_o x6))] [] I := by
  induction n generalizing x3 x5 x6 I with
  | zero => exact h.elim
  | succ n ih => exact gX7_sumShow_42 (k42 := rX7_sumShow_42 G post a0 a1 k33 n) X hr T0 hk33 (fun x3 x5 x6 J h2 => ih h2) h
def wX7_sumShow_33 (G : rc_G) (post : Int64 → rc_M → Prop) (a0 : Nat) (a1 : Int64) (k33 : Int64 → Int → rc_M → Prop) (x3 : Int64) (x5 : Int) (I : rc_M) : Prop :=
  rc_R x5 ∧ ((1 < x5 → ∃ n, rX7_sumShow_77 G post a0 a1  n x3 0 I) ∧ (¬ 1 < x5 → ∃ n, rX7_sumShow_42 G post a0 a1 k33 n x3 x5 0 I))
set_option maxRecDepth 100000 in
set_option maxHeartbeats 4000000 in
theorem gX7_sumShow_33 {p : Program} {l : Launch} {e : Env} {s : State} {m : MethodId} {below : List Frame} {meth : Method} {c : Code} {G : rc_G} {a0 : Nat} {a1 : Int64} {I : rc_M} {post : Int64 → rc_M → Prop} {k33 : Int64 → Int → rc_M → Prop} {x3 : Int64} {x5 : Int} (X : rc_X p s m ([.ref a0, .long a1] : List Value).toArray meth c cX7_sumShow 7 wsX7_sumShow RX7 G (rc_A G)) (hr : meth.sig.returnType = some .long) (T0 : kX7 G a0) (hk33 : ∀ (x3 : Int64) (x5 : Int) (J : rc_M), k33 x3 x5 J → rc_g p l e rmX7_sumShow s m ([.ref a0, .long a1] : List Value).toArray below meth c 0 0 (MQ below (rc_QL G post) ([.ref a0, .long a1] : List Value).toArray s 0 0 (rc_A G)) 7 G (rc_A G) 33 [(0, .ref a0), (3, .long x3), (5, .int (rc_o x5))] [] J)  (h : wX7_sumShow_33 G post a0 a1 k33 x3 x5 I) : rc_g p l e rmX7_sumShow s m ([.ref a0, .long a1] : List Value).toArray below meth c 0 0 (MQ below (rc_QL G post) ([.ref a0, .long a1] : List Value).toArray s 0 0 (rc_A G)) 7 G (rc_A G) 33 [(0, .ref a0), (3, .long x3), (5, .int (rc_o x5))] [] I := by
  unfold wX7_sumShow_33 at h
  refine rc_iload X dX7_sumShow_33 2 rfl ?_
  refine rc_iconst X dX7_sumShow_35 ?_
  obtain ⟨c3, h⟩ := h
  refine rc_ic_gt X 74 dX7_sumShow_36 (by decide) c3 ⟨by decide, by decide⟩ (fun c4 => ?_) (fun c4 => ?_)
  · have h := h.1 c4
    refine rc_iconst X dX7_sumShow_74 ?_
    refine rc_istore X [(5, .int (rc_o 0)), (0, .ref a0), (3, .long x3)] dX7_sumShow_75 (by decide) rfl ?_
    refine rc_subl [(0, .ref a0), (3, .long x3), (5, .int (rc_o 0))] [1, 2, 0] rfl ?_
    obtain ⟨n, h⟩ := h
    exact sX7_sumShow_77 X hr T0  h
  · have h := h.2 c4
    refine rc_iconst X dX7_sumShow_39 ?_
    refine rc_istore X [(6, .int (rc_o 0)), (0, .ref a0), (3, .long x3), (5, .int (rc_o x5))] dX7_sumShow_40 (by decide) rfl ?_
    refine rc_subl [(0, .ref a0), (3, .long x3), (5, .int (rc_o x5)), (6, .int (rc_o 0))] [1, 2, 3, 0] rfl ?_
    obtain ⟨n, h⟩ := h
    exact sX7_sumShow_42 X hr T0 hk33 h
noncomputable def rX7_sumShow_33 (G : rc_G) (post : Int64 → rc_M → Prop) (a0 : Nat) (a1 : Int64)  (n : Nat) : Int64 → Int → rc_M → Prop :=
  Nat.rec (motive := fun _ => Int64 → Int → rc_M → Prop) (fun _ _ _ => False) (fun _ ih => wX7_sumShow_33 G post a0 a1  ih) n
set_option maxRecDepth 100000 in
set_option maxHeartbeats 4000000 in
theorem sX7_sumShow_33 {p : Program} {l : Launch} {e : Env} {s : State} {m : MethodId} {below : List Frame} {meth : Method} {c : Code} {G : rc_G} {a0 : Nat} {a1 : Int64} {I : rc_M} {post : Int64 → rc_M → Prop}  {n : Nat} {x3 : Int64} {x5 : Int} (X : rc_X p s m ([.ref a0, .long a1] : List Value).toArray meth c cX7_sumShow 7 wsX7_sumShow RX7 G (rc_A G)) (hr : meth.sig.returnType = some .long) (T0 : kX7 G a0)  (h : rX7_sumShow_33 G post a0 a1  n x3 x5 I) : rc_g p l e rmX7_sumShow s m ([.ref a0, .long a1] : List Value).toArray below meth c 0 0 (MQ below (rc_QL G post) ([.ref a0, .long a1] : List Value).toArray s 0 0 (rc_A G)) 7 G (rc_A G) 33 [(0, .ref a0), (3, .long x3), (5, .int (rc_o x5))] [] I := by
  induction n generalizing x3 x5 I with
  | zero => exact h.elim
  | succ n ih => exact gX7_sumShow_33 (k33 := rX7_sumShow_33 G post a0 a1  n) X hr T0  (fun x3 x5 J h2 => ih h2) h
def wX7_sumShow_5 (G : rc_G) (post : Int64 → rc_M → Prop) (a0 : Nat) (a1 : Int64) (k5 : Int64 → Int → rc_M → Prop) (x3 : Int64) (x5 : Int) (I : rc_M) : Prop :=
  rc_R x5 ∧ ((9 < x5 → ∃ n, rX7_sumShow_33 G post a0 a1  n x3 0 I) ∧ (¬ 9 < x5 → wX7_tell G a0 x5 I (fun r26 I25 => wX7_mix G x3 ((rc_o r26).toInt64) I25 (fun r28 I27 => k5 r28 (x5 + 1) I27))))
set_option maxRecDepth 100000 in
set_option maxHeartbeats 4000000 in
theorem gX7_sumShow_5 {p : Program} {l : Launch} {e : Env} {s : State} {m : MethodId} {below : List Frame} {meth : Method} {c : Code} {G : rc_G} {a0 : Nat} {a1 : Int64} {I : rc_M} {post : Int64 → rc_M → Prop} {k5 : Int64 → Int → rc_M → Prop} {x3 : Int64} {x5 : Int} (X : rc_X p s m ([.ref a0, .long a1] : List Value).toArray meth c cX7_sumShow 7 wsX7_sumShow RX7 G (rc_A G)) (hr : meth.sig.returnType = some .long) (T0 : kX7 G a0) (hk5 : ∀ (x3 : Int64) (x5 : Int) (J : rc_M), k5 x3 x5 J → rc_g p l e rmX7_sumShow s m ([.ref a0, .long a1] : List Value).toArray below meth c 0 0 (MQ below (rc_QL G post) ([.ref a0, .long a1] : List Value).toArray s 0 0 (rc_A G)) 7 G (rc_A G) 5 [(0, .ref a0), (3, .long x3), (5, .int (rc_o x5))] [] J)  (h : wX7_sumShow_5 G post a0 a1 k5 x3 x5 I) : rc_g p l e rmX7_sumShow s m ([.ref a0, .long a1] : List Value).toArray below meth c 0 0 (MQ below (rc_QL G post) ([.ref a0, .long a1] : List Value).toArray s 0 0 (rc_A G)) 7 G (rc_A G) 5 [(0, .ref a0), (3, .long x3), (5, .int (rc_o x5))] [] I := by
  unfold wX7_sumShow_5 at h
  refine rc_iload X dX7_sumShow_5 2 rfl ?_
  refine rc_bipush X dX7_sumShow_7 (rc_b8 _ ⟨by decide, by decide⟩) ?_
  obtain ⟨c1, h⟩ := h
  refine rc_ic_gt X 30 dX7_sumShow_9 (by decide) c1 ⟨by decide, by decide⟩ (fun c2 => ?_) (fun c2 => ?_)
  · have h := h.1 c2
    refine rc_iconst X dX7_sumShow_30 ?_
    refine rc_istore X [(5, .int (rc_o 0)), (0, .ref a0), (3, .long x3)] dX7_sumShow_31 (by decide) rfl ?_
    refine rc_subl [(0, .ref a0), (3, .long x3), (5, .int (rc_o 0))] [1, 2, 0] rfl ?_
    obtain ⟨n, h⟩ := h
    exact sX7_sumShow_33 X hr T0  h
  · have h := h.2 c2
    refine rc_lload_n X dX7_sumShow_12 rfl 1 rfl ?_
    refine rc_aload_n X dX7_sumShow_13 rfl 0 rfl ?_
    refine rc_iload X dX7_sumShow_14 2 rfl ?_
    refine rc_cVI (rest := [.long x3]) X (mX7_tell T0 h) gX7_sumShow_X7_tell rfl ⟨rfl, rfl⟩ dyX7_tell ⟨Nat.le_of_ble_eq_true rfl, Nat.le_of_ble_eq_true rfl⟩ (rc_recv X T0.1 rfl) rfl rfl (Nat.le_of_ble_eq_true rfl) dX7_sumShow_16 ⟨Nat.zero_le _, Nat.zero_le _⟩ (fun r26 I25 h => ?_)
    refine rc_i2l X dX7_sumShow_19 ?_
    refine rc_cSL (rest := []) X (mX7_mix  h) gX7_sumShow_X7_mix rfl ⟨rfl, rfl⟩ dyX7_mix ⟨Nat.le_of_ble_eq_true rfl, Nat.le_of_ble_eq_true rfl⟩ rfl rfl (Nat.le_of_ble_eq_true rfl) dX7_sumShow_20 ⟨Nat.zero_le _, Nat.zero_le _⟩ (fun r28 I27 h => ?_)
    refine rc_lstore_n X [(3, .long r28), (0, .ref a0), (5, .int (rc_o x5))] dX7_sumShow_23 rfl (by decide) rfl ?_
    refine rc_iinc X [(5, .int (rc_o (x5 + 1))), (3, .long r28), (0, .ref a0)] dX7_sumShow_24 2 rfl (by decide) rfl ?_
    refine rc_goto X 5 dX7_sumShow_27 (by decide) ?_
    refine rc_subl [(0, .ref a0), (3, .long r28), (5, .int (rc_o (x5 + 1)))] [2, 1, 0] rfl ?_
    exact hk5 _ _ _ h
noncomputable def rX7_sumShow_5 (G : rc_G) (post : Int64 → rc_M → Prop) (a0 : Nat) (a1 : Int64)  (n : Nat) : Int64 → Int → rc_M → Prop :=
  Nat.rec (motive := fun _ => Int64 → Int → rc_M → Prop) (fun _ _ _ => False) (fun _ ih => wX7_sumShow_5 G post a0 a1  ih) n
set_option maxRecDepth 100000 in
set_option maxHeartbeats 4000000 in
theorem sX7_sumShow_5 {p : Program} {l : Launch} {e : Env} {s : State} {m : MethodId} {below : List Frame} {meth : Method} {c : Code} {G : rc_G} {a0 : Nat} {a1 : Int64} {I : rc_M} {post : Int64 → rc_M → Prop}  {n : Nat} {x3 : Int64} {x5 : Int} (X : rc_X p s m ([.ref a0, .long a1] : List Value).toArray meth c cX7_sumShow 7 wsX7_sumShow RX7 G (rc_A G)) (hr : meth.sig.returnType = some .long) (T0 : kX7 G a0)  (h : rX7_sumShow_5 G post a0 a1  n x3 x5 I) : rc_g p l e rmX7_sumShow s m ([.ref a0, .long a1] : List Value).toArray below meth c 0 0 (MQ below (rc_QL G post) ([.ref a0, .long a1] : List Value).toArray s 0 0 (rc_A G)) 7 G (rc_A G) 5 [(0, .ref a0), (3, .long x3), (5, .int (rc_o x5))] [] I := by
  induction n generalizing x3 x5 I with
  | zero => exact h.elim
  | succ n ih => exact gX7_sumShow_5 (k5 := rX7_sumShow_5 G post a0 a1  n) X hr T0  (fun x3 x5 J h2 => ih h2) h
def wX7_sumShow (G : rc_G) (a0 : Nat) (a1 : Int64) (I : rc_M) (post : Int64 → rc_M → Prop) : Prop :=
  ∃ n, rX7_sumShow_5 G post a0 a1  n a1 0 I
set_option maxRecDepth 100000 in
set_option maxHeartbeats 4000000 in
theorem gX7_sumShow_0 {p : Program} {l : Launch} {e : Env} {s : State} {m : MethodId} {below : List Frame} {meth : Method} {c : Code} {G : rc_G} {a0 : Nat} {a1 : Int64} {I : rc_M} {post : Int64 → rc_M → Prop}  (X : rc_X p s m ([.ref a0, .long a1] : List Value).toArray meth c cX7_sumShow 7 wsX7_sumShow RX7 G (rc_A G)) (hr : meth.sig.returnType = some .long) (T0 : kX7 G a0)  (h : wX7_sumShow G a0 a1 I post) : rc_g p l e rmX7_sumShow s m ([.ref a0, .long a1] : List Value).toArray below meth c 0 0 (MQ below (rc_QL G post) ([.ref a0, .long a1] : List Value).toArray s 0 0 (rc_A G)) 7 G (rc_A G) 0 [(0, .ref a0), (1, .long a1)] [] I := by
  unfold wX7_sumShow at h
  refine rc_lload_n X dX7_sumShow_0 rfl 1 rfl ?_
  refine rc_lstore_n X [(3, .long a1), (0, .ref a0), (1, .long a1)] dX7_sumShow_1 rfl (by decide) rfl ?_
  refine rc_iconst X dX7_sumShow_2 ?_
  refine rc_istore X [(5, .int (rc_o 0)), (3, .long a1), (0, .ref a0), (1, .long a1)] dX7_sumShow_3 (by decide) rfl ?_
  refine rc_subl [(0, .ref a0), (3, .long a1), (5, .int (rc_o 0))] [2, 1, 0] rfl ?_
  obtain ⟨n, h⟩ := h
  exact sX7_sumShow_5 X hr T0  h
theorem mX7_sumShow {l : Launch} {G : rc_G} {a0 : Nat} {a1 : Int64} {I : rc_M} {post : Int64 → rc_M → Prop} (T0 : kX7 G a0) (h : wX7_sumShow G a0 a1 I post) : rc_CL l yX7_sumShow wsX7_sumShow rmX7_sumShow G [.ref a0, .long a1] I post :=
  rc_body (by decide +kernel) rfl rfl (Nat.le_of_ble_eq_true rfl) rfl (fun p e s m below meth c X hr => gX7_sumShow_0 X hr T0 h)
/-! X7_checksum -/
abbrev rmX7_checksum : Room := { frames := 6, cells := 0, slots := 0, locals := 135 }
theorem dyX7_checksum : yX7_checksum.cls = RX7 ∧ yX7_checksum.cls ≠ "java/lang/invoke/MethodHandle" ∧ yX7_checksum.cls ≠ "java/lang/invoke/VarHandle" ∧ (parseMethodDescriptor yX7_checksum.desc).map (fun d => d.parameters.length) = some 0 := ⟨rfl, by decide +kernel, by decide +kernel, by decide +kernel⟩
theorem qX7_checksum_1 : Cond.constantLong RX7 186 (139) ∈ wsX7_checksum := List.mem_of_getElem? (i := 1) (by decide +kernel)
theorem qX7_checksum_2 : Cond.fieldLink RX7 10 "ReelChanger" "room" "LReelChanger$Room;" ∈ wsX7_checksum := List.mem_of_getElem? (i := 2) (by decide +kernel)
theorem nX7_checksum_X7 : ∀ w ∈ wsX70, w ∈ wsX7_checksum := fun w h => List.mem_cons_of_mem _ (List.mem_append_left _ (List.mem_append_left _ (List.mem_append_left _ (List.mem_append_left _ (List.mem_append_left _ (List.mem_append_left _ (List.mem_append_right _ (h))))))))
theorem qX7_checksum_3 : Cond.fieldLink RX7 106 "ReelChanger$Room" "show" "LReelChanger$Show;" ∈ wsX7_checksum := List.mem_of_getElem? (i := 3) (by decide +kernel)
theorem nX7_checksum_X4 : ∀ w ∈ wsX40, w ∈ wsX7_checksum := fun w h => List.mem_cons_of_mem _ (List.mem_append_left _ (List.mem_append_left _ (List.mem_append_left _ (List.mem_append_left _ (List.mem_append_left _ (List.mem_append_right _ (h)))))))
theorem qX7_checksum_4 : Cond.fieldLink RX7 110 "ReelChanger$Show" "running" "Z" ∈ wsX7_checksum := List.mem_of_getElem? (i := 4) (by decide +kernel)
theorem nX7_checksum_X5 : ∀ w ∈ wsX50, w ∈ wsX7_checksum := fun w h => List.mem_cons_of_mem _ (List.mem_append_left _ (List.mem_append_left _ (List.mem_append_left _ (List.mem_append_left _ (List.mem_append_right _ (h))))))
theorem qX7_checksum_5 : Cond.fieldLink RX7 16 "ReelChanger" "trial" "LReelChanger$Room;" ∈ wsX7_checksum := List.mem_of_getElem? (i := 5) (by decide +kernel)
theorem qX7_checksum_6 : Cond.fieldLink RX7 35 "ReelChanger$Room" "stock" "LReelChanger$Stock;" ∈ wsX7_checksum := List.mem_of_getElem? (i := 6) (by decide +kernel)
def wX7_checksum (G : rc_G) (a0 : Nat) (I : rc_M) (post : Int64 → rc_M → Prop) : Prop :=
  wX7_sumStock G a0 139 I (fun r2 I1 => wX7_sumShow G a0 r2 I1 (fun r4 I3 => rc_R (I3 (a0 + 1 + 35) 0) ∧ ((¬ (I3 (a0 + 1 + 35) 0) = 0 → wX4_copyFrom G (a0 + 42) (a0 + 1) I3 (fun I7 => wX5_run G (a0 + 42 + 35) (a0 + 42 + 1) 20000 I7 (fun r9 I8 => wX7_foretold G a0 0 I8 (fun r11 I10 => wX7_mix G r4 ((rc_o r11).toInt64) I10 (fun r13 I12 => wX7_foretold G a0 1 I12 (fun r15 I14 => wX7_mix G r13 ((rc_o r15).toInt64) I14 (fun r17 I16 => post r17 I16))))))) ∧ ((I3 (a0 + 1 + 35) 0) = 0 → post r4 I3))))
set_option maxRecDepth 100000 in
set_option maxHeartbeats 4000000 in
theorem gX7_checksum_0 {p : Program} {l : Launch} {e : Env} {s : State} {m : MethodId} {below : List Frame} {meth : Method} {c : Code} {G : rc_G} {a0 : Nat} {I : rc_M} {post : Int64 → rc_M → Prop}  (X : rc_X p s m ([.ref a0] : List Value).toArray meth c cX7_checksum 3 wsX7_checksum RX7 G (rc_A G)) (hr : meth.sig.returnType = some .long) (T0 : kX7 G a0)  (h : wX7_checksum G a0 I post) : rc_g p l e rmX7_checksum s m ([.ref a0] : List Value).toArray below meth c 0 0 (MQ below (rc_QL G post) ([.ref a0] : List Value).toArray s 0 0 (rc_A G)) 3 G (rc_A G) 0 [(0, .ref a0)] [] I := by
  unfold wX7_checksum at h
  refine rc_aload_n X dX7_checksum_0 rfl 0 rfl ?_
  refine rc_aload_n X dX7_checksum_1 rfl 0 rfl ?_
  refine rc_ldc2 X qX7_checksum_1 dX7_checksum_2 ?_
  refine rc_cVL (rest := [.ref a0]) X (mX7_sumStock T0 h) gX7_checksum_X7_sumStock rfl ⟨rfl, rfl⟩ dyX7_sumStock ⟨Nat.le_of_ble_eq_true rfl, Nat.le_of_ble_eq_true rfl⟩ (rc_recv X T0.1 rfl) rfl rfl (Nat.le_of_ble_eq_true rfl) dX7_checksum_5 ⟨Nat.zero_le _, Nat.zero_le _⟩ (fun r2 I1 h => ?_)
  refine rc_cVL (rest := []) X (mX7_sumShow T0 h) gX7_checksum_X7_sumShow rfl ⟨rfl, rfl⟩ dyX7_sumShow ⟨Nat.le_of_ble_eq_true rfl, Nat.le_of_ble_eq_true rfl⟩ (rc_recv X T0.1 rfl) rfl rfl (Nat.le_of_ble_eq_true rfl) dX7_checksum_8 ⟨Nat.zero_le _, Nat.zero_le _⟩ (fun r4 I3 h => ?_)
  refine rc_lstore_n X [(1, .long r4), (0, .ref a0)] dX7_checksum_11 rfl (by decide) rfl ?_
  refine rc_aload_n X dX7_checksum_12 rfl 1 rfl ?_
  refine gfX7_room X T0.1 nX7_checksum_X7 qX7_checksum_2 dX7_checksum_13 ?_
  refine gfX4_show X T0.2.1.1 nX7_checksum_X4 qX7_checksum_3 dX7_checksum_16 ?_
  refine gfX5_running X T0.2.1.2.2.1 nX7_checksum_X5 qX7_checksum_4 dX7_checksum_19 ?_
  obtain ⟨c5, h⟩ := h
  refine rc_if_ne X 27 dX7_checksum_22 (by decide) c5 (fun c6 => ?_) (fun c6 => ?_)
  · have h := h.1 c6
    refine rc_aload_n X dX7_checksum_27 rfl 1 rfl ?_
    refine gfX7_trial X T0.1 nX7_checksum_X7 qX7_checksum_5 dX7_checksum_28 ?_
    refine rc_aload_n X dX7_checksum_31 rfl 1 rfl ?_
    refine gfX7_room X T0.1 nX7_checksum_X7 qX7_checksum_2 dX7_checksum_32 ?_
    refine rc_cVV (rest := []) X (mX4_copyFrom T0.2.2.1 T0.2.1 h) gX7_checksum_X4_copyFrom rfl ⟨rfl, rfl⟩ dyX4_copyFrom ⟨Nat.le_of_ble_eq_true rfl, Nat.le_of_ble_eq_true rfl⟩ (rc_recv X T0.2.2.1.1 rfl) rfl rfl (Nat.le_of_ble_eq_true rfl) dX7_checksum_35 ⟨Nat.zero_le _, Nat.zero_le _⟩ (fun I7 h => ?_)
    refine rc_aload_n X dX7_checksum_38 rfl 1 rfl ?_
    refine gfX7_trial X T0.1 nX7_checksum_X7 qX7_checksum_5 dX7_checksum_39 ?_
    refine gfX4_show X T0.2.2.1.1 nX7_checksum_X4 qX7_checksum_3 dX7_checksum_42 ?_
    refine rc_aload_n X dX7_checksum_45 rfl 1 rfl ?_
    refine gfX7_trial X T0.1 nX7_checksum_X7 qX7_checksum_5 dX7_checksum_46 ?_
    refine gfX4_stock X T0.2.2.1.1 nX7_checksum_X4 qX7_checksum_6 dX7_checksum_49 ?_
    refine rc_sipush X dX7_checksum_52 (rc_b16 _ ⟨by decide, by decide⟩) ?_
    refine rc_cVI (rest := []) X (mX5_run T0.2.2.1.2.2 T0.2.2.1.2.1 h) gX7_checksum_X5_run rfl ⟨rfl, rfl⟩ dyX5_run ⟨Nat.le_of_ble_eq_true rfl, Nat.le_of_ble_eq_true rfl⟩ (rc_recv X T0.2.2.1.2.2.1 rfl) rfl rfl (Nat.le_of_ble_eq_true rfl) dX7_checksum_55 ⟨Nat.zero_le _, Nat.zero_le _⟩ (fun r9 I8 h => ?_)
    refine rc_pop X dX7_checksum_58 rfl ?_
    refine rc_lload_n X dX7_checksum_59 rfl 0 rfl ?_
    refine rc_aload_n X dX7_checksum_60 rfl 1 rfl ?_
    refine rc_iconst X dX7_checksum_61 ?_
    refine rc_cVI (rest := [.long r4]) X (mX7_foretold T0 h) gX7_checksum_X7_foretold rfl ⟨rfl, rfl⟩ dyX7_foretold ⟨Nat.le_of_ble_eq_true rfl, Nat.le_of_ble_eq_true rfl⟩ (rc_recv X T0.1 rfl) rfl rfl (Nat.le_of_ble_eq_true rfl) dX7_checksum_62 ⟨Nat.zero_le _, Nat.zero_le _⟩ (fun r11 I10 h => ?_)
    refine rc_i2l X dX7_checksum_65 ?_
    refine rc_cSL (rest := []) X (mX7_mix  h) gX7_checksum_X7_mix rfl ⟨rfl, rfl⟩ dyX7_mix ⟨Nat.le_of_ble_eq_true rfl, Nat.le_of_ble_eq_true rfl⟩ rfl rfl (Nat.le_of_ble_eq_true rfl) dX7_checksum_66 ⟨Nat.zero_le _, Nat.zero_le _⟩ (fun r13 I12 h => ?_)
    refine rc_aload_n X dX7_checksum_69 rfl 1 rfl ?_
    refine rc_iconst X dX7_checksum_70 ?_
    refine rc_cVI (rest := [.long r13]) X (mX7_foretold T0 h) gX7_checksum_X7_foretold rfl ⟨rfl, rfl⟩ dyX7_foretold ⟨Nat.le_of_ble_eq_true rfl, Nat.le_of_ble_eq_true rfl⟩ (rc_recv X T0.1 rfl) rfl rfl (Nat.le_of_ble_eq_true rfl) dX7_checksum_71 ⟨Nat.zero_le _, Nat.zero_le _⟩ (fun r15 I14 h => ?_)
    refine rc_i2l X dX7_checksum_74 ?_
    refine rc_cSL (rest := []) X (mX7_mix  h) gX7_checksum_X7_mix rfl ⟨rfl, rfl⟩ dyX7_mix ⟨Nat.le_of_ble_eq_true rfl, Nat.le_of_ble_eq_true rfl⟩ rfl rfl (Nat.le_of_ble_eq_true rfl) dX7_checksum_75 ⟨Nat.zero_le _, Nat.zero_le _⟩ (fun r17 I16 h => ?_)
    exact rc_lret X hr dX7_checksum_78 h
  · have h := h.2 c6
    refine rc_lload_n X dX7_checksum_25 rfl 0 rfl ?_
    exact rc_lret X hr dX7_checksum_26 h
theorem mX7_checksum {l : Launch} {G : rc_G} {a0 : Nat} {I : rc_M} {post : Int64 → rc_M → Prop} (T0 : kX7 G a0) (h : wX7_checksum G a0 I post) : rc_CL l yX7_checksum wsX7_checksum rmX7_checksum G [.ref a0] I post :=
  rc_body (by decide +kernel) rfl rfl (Nat.le_of_ble_eq_true rfl) rfl (fun p e s m below meth c X hr => gX7_checksum_0 X hr T0 h)
