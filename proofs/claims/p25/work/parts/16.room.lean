/-! X4_copyFrom -/
abbrev rmX4_copyFrom : Room := { frames := 3, cells := 0, slots := 0, locals := 104 }
theorem dyX4_copyFrom : yX4_copyFrom.cls = RX4 ∧ yX4_copyFrom.cls ≠ "java/lang/invoke/MethodHandle" ∧ yX4_copyFrom.cls ≠ "java/lang/invoke/VarHandle" ∧ (parseMethodDescriptor yX4_copyFrom.desc).map (fun d => d.parameters.length) = some 1 := ⟨rfl, by decide +kernel, by decide +kernel, by decide +kernel⟩
theorem qX4_copyFrom_1 : Cond.fieldLink RX4 10 "ReelChanger$Room" "stock" "LReelChanger$Stock;" ∈ wsX4_copyFrom := List.mem_of_getElem? (i := 1) (by decide +kernel)
theorem nX4_copyFrom_X4 : ∀ w ∈ wsX40, w ∈ wsX4_copyFrom := fun w h => List.mem_cons_of_mem _ (List.mem_append_left _ (List.mem_append_left _ (List.mem_append_left _ (List.mem_append_left _ (List.mem_append_left _ (List.mem_append_right _ (h)))))))
theorem qX4_copyFrom_2 : Cond.fieldLink RX4 19 "ReelChanger$Room" "show" "LReelChanger$Show;" ∈ wsX4_copyFrom := List.mem_of_getElem? (i := 2) (by decide +kernel)
def wX4_copyFrom (G : rc_G) (a0 : Nat) (a1 : Nat) (I : rc_M) (post : rc_M → Prop) : Prop :=
  wX6_copyFrom G (a0 + 1) (a1 + 1) I (fun I1 => wX5_copyFrom G (a0 + 35) (a1 + 35) I1 (fun I2 => post I2))
set_option maxRecDepth 100000 in
set_option maxHeartbeats 4000000 in
theorem gX4_copyFrom_0 {p : Program} {l : Launch} {e : Env} {s : State} {m : MethodId} {below : List Frame} {meth : Method} {c : Code} {G : rc_G} {a0 : Nat} {a1 : Nat} {I : rc_M} {post : rc_M → Prop}  (X : rc_X p s m ([.ref a0, .ref a1] : List Value).toArray meth c cX4_copyFrom 2 wsX4_copyFrom RX4 G (rc_A G)) (hr : meth.sig.returnType = none) (T0 : kX4 G a0) (T1 : kX4 G a1)  (h : wX4_copyFrom G a0 a1 I post) : rc_g p l e rmX4_copyFrom s m ([.ref a0, .ref a1] : List Value).toArray below meth c 0 0 (MQ below (rc_QV G post) ([.ref a0, .ref a1] : List Value).toArray s 0 0 (rc_A G)) 2 G (rc_A G) 0 [(0, .ref a0), (1, .ref a1)] [] I := by
  unfold wX4_copyFrom at h
  refine rc_aload_n X dX4_copyFrom_0 rfl 0 rfl ?_
  refine gfX4_stock X T0.1 nX4_copyFrom_X4 qX4_copyFrom_1 dX4_copyFrom_1 ?_
  refine rc_aload_n X dX4_copyFrom_4 rfl 1 rfl ?_
  refine gfX4_stock X T1.1 nX4_copyFrom_X4 qX4_copyFrom_1 dX4_copyFrom_5 ?_
  refine rc_cVV (rest := []) X (mX6_copyFrom T0.2.1 T1.2.1 h) gX4_copyFrom_X6_copyFrom rfl ⟨rfl, rfl⟩ dyX6_copyFrom ⟨Nat.le_of_ble_eq_true rfl, Nat.le_of_ble_eq_true rfl⟩ (rc_recv X T0.2.1.1 rfl) rfl rfl (Nat.le_of_ble_eq_true rfl) dX4_copyFrom_8 ⟨Nat.zero_le _, Nat.zero_le _⟩ (fun I1 h => ?_)
  refine rc_aload_n X dX4_copyFrom_11 rfl 0 rfl ?_
  refine gfX4_show X T0.1 nX4_copyFrom_X4 qX4_copyFrom_2 dX4_copyFrom_12 ?_
  refine rc_aload_n X dX4_copyFrom_15 rfl 1 rfl ?_
  refine gfX4_show X T1.1 nX4_copyFrom_X4 qX4_copyFrom_2 dX4_copyFrom_16 ?_
  refine rc_cVV (rest := []) X (mX5_copyFrom T0.2.2 T1.2.2 h) gX4_copyFrom_X5_copyFrom rfl ⟨rfl, rfl⟩ dyX5_copyFrom ⟨Nat.le_of_ble_eq_true rfl, Nat.le_of_ble_eq_true rfl⟩ (rc_recv X T0.2.2.1 rfl) rfl rfl (Nat.le_of_ble_eq_true rfl) dX4_copyFrom_19 ⟨Nat.zero_le _, Nat.zero_le _⟩ (fun I2 h => ?_)
  exact rc_vret X hr dX4_copyFrom_22 h
theorem mX4_copyFrom {l : Launch} {G : rc_G} {a0 : Nat} {a1 : Nat} {I : rc_M} {post : rc_M → Prop} (T0 : kX4 G a0) (T1 : kX4 G a1) (h : wX4_copyFrom G a0 a1 I post) : rc_CV l yX4_copyFrom wsX4_copyFrom rmX4_copyFrom G [.ref a0, .ref a1] I post :=
  rc_body (by decide +kernel) rfl rfl (Nat.le_of_ble_eq_true rfl) rfl (fun p e s m below meth c X hr => gX4_copyFrom_0 X hr T0 T1 h)
