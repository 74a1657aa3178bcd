/-! X7_restore -/
abbrev rmX7_restore : Room := { frames := 4, cells := 0, slots := 0, locals := 125 }
theorem dyX7_restore : yX7_restore.cls = RX7 ∧ yX7_restore.cls ≠ "java/lang/invoke/MethodHandle" ∧ yX7_restore.cls ≠ "java/lang/invoke/VarHandle" ∧ (parseMethodDescriptor yX7_restore.desc).map (fun d => d.parameters.length) = some 1 := ⟨rfl, by decide +kernel, by decide +kernel, by decide +kernel⟩
theorem qX7_restore_2 : Cond.fieldLink RX7 19 "ReelChanger" "slots" "[LReelChanger$Room;" ∈ wsX7_restore := List.mem_of_getElem? (i := 2) (by decide +kernel)
theorem nX7_restore_X7 : ∀ w ∈ wsX70, w ∈ wsX7_restore := fun w h => List.mem_cons_of_mem _ (List.mem_append_left _ (List.mem_append_left _ (List.mem_append_left _ (List.mem_append_left _ (List.mem_append_left _ (List.mem_append_left _ (List.mem_append_right _ (h))))))))
theorem qX7_restore_3 : Cond.constant RX7 116 (-100003) ∈ wsX7_restore := List.mem_of_getElem? (i := 3) (by decide +kernel)
theorem qX7_restore_4 : Cond.fieldLink RX7 10 "ReelChanger" "room" "LReelChanger$Room;" ∈ wsX7_restore := List.mem_of_getElem? (i := 4) (by decide +kernel)
theorem qX7_restore_5 : Cond.fieldLink RX7 35 "ReelChanger$Room" "stock" "LReelChanger$Stock;" ∈ wsX7_restore := List.mem_of_getElem? (i := 5) (by decide +kernel)
theorem nX7_restore_X4 : ∀ w ∈ wsX40, w ∈ wsX7_restore := fun w h => List.mem_cons_of_mem _ (List.mem_append_left _ (List.mem_append_left _ (List.mem_append_left _ (List.mem_append_left _ (List.mem_append_left _ (List.mem_append_right _ (h)))))))
theorem qX7_restore_6 : Cond.fieldLink RX7 93 "ReelChanger$Stock" "reelCount" "I" ∈ wsX7_restore := List.mem_of_getElem? (i := 6) (by decide +kernel)
theorem nX7_restore_X6 : ∀ w ∈ wsX60, w ∈ wsX7_restore := fun w h => List.mem_cons_of_mem _ (List.mem_append_left _ (List.mem_append_left _ (List.mem_append_left _ (List.mem_append_left _ (List.mem_append_right _ (h))))))
theorem qX7_restore_1 : Cond.constant RX7 49 (-100001) ∈ wsX7_restore := List.mem_of_getElem? (i := 1) (by decide +kernel)
def wX7_restore (G : rc_G) (a0 : Nat) (a1 : Int) (I : rc_M) (post : Int → rc_M → Prop) : Prop :=
  wX7_isWithin G a1 0 1 I (fun r2 I1 => rc_R r2 ∧ ((¬ r2 = 0 → (0 ≤ a1 ∧ a1 < 2) ∧ ((I1 (a0 + 83) a1 ≤ 0 → post (-100003) I1) ∧ (0 < I1 (a0 + 83) a1 → kX4 G (I1 (a0 + 83) a1).toNat ∧ (wX4_copyFrom G (a0 + 1) ((I1 (a0 + 83) a1).toNat) I1 (fun I7 => post (I7 (a0 + 1 + 1) 0) I7))))) ∧ (r2 = 0 → post (-100001) I1)))
set_option maxRecDepth 100000 in
set_option maxHeartbeats 4000000 in
theorem gX7_restore_0 {p : Program} {l : Launch} {e : Env} {s : State} {m : MethodId} {below : List Frame} {meth : Method} {c : Code} {G : rc_G} {a0 : Nat} {a1 : Int} {I : rc_M} {post : Int → rc_M → Prop}  (X : rc_X p s m ([.ref a0, .int (rc_o a1)] : List Value).toArray meth c cX7_restore 3 wsX7_restore RX7 G (rc_A G)) (hr : meth.sig.returnType = some .int) (T0 : kX7 G a0)  (h : wX7_restore G a0 a1 I post) : rc_g p l e rmX7_restore s m ([.ref a0, .int (rc_o a1)] : List Value).toArray below meth c 0 0 (MQ below (rc_QI G post) ([.ref a0, .int (rc_o a1)] : List Value).toArray s 0 0 (rc_A G)) 3 G (rc_A G) 0 [(0, .ref a0), (1, .int (rc_o a1))] [] I := by
  unfold wX7_restore at h
  refine rc_iload_n X dX7_restore_0 rfl 1 rfl ?_
  refine rc_iconst X dX7_restore_1 ?_
  refine rc_iconst X dX7_restore_2 ?_
  refine rc_cSI (rest := []) X (mX7_isWithin  h) gX7_restore_X7_isWithin rfl ⟨rfl, rfl⟩ dyX7_isWithin ⟨Nat.le_of_ble_eq_true rfl, Nat.le_of_ble_eq_true rfl⟩ rfl rfl (Nat.le_of_ble_eq_true rfl) dX7_restore_3 ⟨Nat.zero_le _, Nat.zero_le _⟩ (fun r2 I1 h => ?_)
  obtain ⟨c3, h⟩ := h
  refine rc_if_ne X 12 dX7_restore_6 (by decide) c3 (fun c4 => ?_) (fun c4 => ?_)
  · have h := h.1 c4
    refine rc_aload_n X dX7_restore_12 rfl 0 rfl ?_
    refine gfX7_slots X T0.1 nX7_restore_X7 qX7_restore_2 dX7_restore_13 ?_
    refine rc_iload_n X dX7_restore_16 rfl 1 rfl ?_
    obtain ⟨c5, h⟩ := h
    refine rc_sltd X T0.2.2.2.1 dX7_restore_17 c5 (fun c6 => ?_) (fun c6 => ?_)
    · have h := h.1 c6
      refine rc_astore_nN X [(2, .null), (0, .ref a0), (1, .int (rc_o a1))] dX7_restore_18 rfl (by decide) rfl ?_
      refine rc_aload_nN X dX7_restore_19 rfl 0 rfl ?_
      refine rc_nnN X dX7_restore_20 ?_
      refine rc_ldc (n := (-100003)) X qX7_restore_3 (by decide +kernel) dX7_restore_23 ?_
      exact rc_iret X hr dX7_restore_25 h
    · obtain ⟨Tc6, h⟩ := h.2 c6
      refine rc_astore_n X [(2, .ref ((I1 (a0 + 83) a1).toNat)), (0, .ref a0), (1, .int (rc_o a1))] dX7_restore_18 rfl (by decide) rfl ?_
      refine rc_aload_n X dX7_restore_19 rfl 0 rfl ?_
      refine rc_nn X 26 dX7_restore_20 (by decide) ?_
      refine rc_aload_n X dX7_restore_26 rfl 1 rfl ?_
      refine gfX7_room X T0.1 nX7_restore_X7 qX7_restore_4 dX7_restore_27 ?_
      refine rc_aload_n X dX7_restore_30 rfl 0 rfl ?_
      refine rc_cVV (rest := []) X (mX4_copyFrom T0.2.1 Tc6 h) gX7_restore_X4_copyFrom rfl ⟨rfl, rfl⟩ dyX4_copyFrom ⟨Nat.le_of_ble_eq_true rfl, Nat.le_of_ble_eq_true rfl⟩ (rc_recv X T0.2.1.1 rfl) rfl rfl (Nat.le_of_ble_eq_true rfl) dX7_restore_31 ⟨Nat.zero_le _, Nat.zero_le _⟩ (fun I7 h => ?_)
      refine rc_aload_n X dX7_restore_34 rfl 1 rfl ?_
      refine gfX7_room X T0.1 nX7_restore_X7 qX7_restore_4 dX7_restore_35 ?_
      refine gfX4_stock X T0.2.1.1 nX7_restore_X4 qX7_restore_5 dX7_restore_38 ?_
      refine gfX6_reelCount X T0.2.1.2.1.1 nX7_restore_X6 qX7_restore_6 dX7_restore_41 ?_
      exact rc_iret X hr dX7_restore_44 h
  · have h := h.2 c4
    refine rc_ldc (n := (-100001)) X qX7_restore_1 (by decide +kernel) dX7_restore_9 ?_
    exact rc_iret X hr dX7_restore_11 h
theorem mX7_restore {l : Launch} {G : rc_G} {a0 : Nat} {a1 : Int} {I : rc_M} {post : Int → rc_M → Prop} (T0 : kX7 G a0) (h : wX7_restore G a0 a1 I post) : rc_CI l yX7_restore wsX7_restore rmX7_restore G [.ref a0, .int (rc_o a1)] I post :=
  rc_body (by decide +kernel) rfl rfl (Nat.le_of_ble_eq_true rfl) rfl (fun p e s m below meth c X hr => gX7_restore_0 X hr T0 h)
