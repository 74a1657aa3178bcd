/-! X6_reelNumbered -/
abbrev rmX6_reelNumbered : Room := { frames := 0, cells := 0, slots := 0, locals := 0 }
theorem dyX6_reelNumbered : yX6_reelNumbered.cls = RX6 ∧ yX6_reelNumbered.cls ≠ "java/lang/invoke/MethodHandle" ∧ yX6_reelNumbered.cls ≠ "java/lang/invoke/VarHandle" ∧ (parseMethodDescriptor yX6_reelNumbered.desc).map (fun d => d.parameters.length) = some 1 := ⟨rfl, by decide +kernel, by decide +kernel, by decide +kernel⟩
theorem qX6_reelNumbered_1 : Cond.fieldLink RX6 34 "ReelChanger$Stock" "reelCount" "I" ∈ wsX6_reelNumbered := List.mem_of_getElem? (i := 1) (by decide +kernel)
theorem nX6_reelNumbered_X6 : ∀ w ∈ wsX60, w ∈ wsX6_reelNumbered := fun w h => List.mem_cons_of_mem _ (List.mem_append_right _ (h))
theorem qX6_reelNumbered_2 : Cond.fieldLink RX6 13 "ReelChanger$Stock" "reels" "[LReelChanger$Reel;" ∈ wsX6_reelNumbered := List.mem_of_getElem? (i := 2) (by decide +kernel)
def wX6_reelNumbered (G : rc_G) (a0 : Nat) (a1 : Int) (I : rc_M) (post : Option Nat → rc_M → Prop) : Prop :=
  rc_R a1 ∧ ((a1 < 0 → post none I) ∧ (¬ a1 < 0 → rc_R a1 ∧ (rc_R (I a0 0) ∧ (((I a0 0) ≤ a1 → post none I) ∧ (¬ (I a0 0) ≤ a1 → rc_R a1 ∧ ((10 ≤ a1 → post none I) ∧ (¬ 10 ≤ a1 → (0 ≤ a1 ∧ a1 < 10) ∧ (post (some (a0 + 1 + 3 + 3 * (a1).toNat)) I))))))))
set_option maxRecDepth 100000 in
set_option maxHeartbeats 4000000 in
theorem gX6_reelNumbered_0 {p : Program} {l : Launch} {e : Env} {s : State} {m : MethodId} {below : List Frame} {meth : Method} {c : Code} {G : rc_G} {a0 : Nat} {a1 : Int} {I : rc_M} {post : Option Nat → rc_M → Prop}  (X : rc_X p s m ([.ref a0, .int (rc_o a1)] : List Value).toArray meth c cX6_reelNumbered 2 wsX6_reelNumbered RX6 G (rc_A G)) (hr : meth.sig.returnType = some (.object "ReelChanger$Reel")) (T0 : kX6 G a0)  (h : wX6_reelNumbered G a0 a1 I post) : rc_g p l e rmX6_reelNumbered s m ([.ref a0, .int (rc_o a1)] : List Value).toArray below meth c 0 0 (MQ below (rc_QQ G post) ([.ref a0, .int (rc_o a1)] : List Value).toArray s 0 0 (rc_A G)) 2 G (rc_A G) 0 [(0, .ref a0), (1, .int (rc_o a1))] [] I := by
  unfold wX6_reelNumbered at h
  refine rc_iload_n X dX6_reelNumbered_0 rfl 1 rfl ?_
  obtain ⟨c1, h⟩ := h
  refine rc_if_lt X 27 dX6_reelNumbered_1 (by decide) c1 (fun c2 => ?_) (fun c2 => ?_)
  · have h := h.1 c2
    refine rc_null X dX6_reelNumbered_27 ?_
    exact rc_aret X hr none dX6_reelNumbered_28 h
  · have h := h.2 c2
    refine rc_iload_n X dX6_reelNumbered_4 rfl 1 rfl ?_
    refine rc_aload_n X dX6_reelNumbered_5 rfl 0 rfl ?_
    refine gfX6_reelCount X T0.1 nX6_reelNumbered_X6 qX6_reelNumbered_1 dX6_reelNumbered_6 ?_
    obtain ⟨c3, h⟩ := h
    obtain ⟨c4, h⟩ := h
    refine rc_ic_ge X 27 dX6_reelNumbered_9 (by decide) c3 c4 (fun c5 => ?_) (fun c5 => ?_)
    · have h := h.1 c5
      refine rc_null X dX6_reelNumbered_27 ?_
      exact rc_aret X hr none dX6_reelNumbered_28 h
    · have h := h.2 c5
      refine rc_iload_n X dX6_reelNumbered_12 rfl 1 rfl ?_
      refine rc_bipush X dX6_reelNumbered_13 (rc_b8 _ ⟨by decide, by decide⟩) ?_
      obtain ⟨c6, h⟩ := h
      refine rc_ic_ge X 27 dX6_reelNumbered_15 (by decide) c6 ⟨by decide, by decide⟩ (fun c7 => ?_) (fun c7 => ?_)
      · have h := h.1 c7
        refine rc_null X dX6_reelNumbered_27 ?_
        exact rc_aret X hr none dX6_reelNumbered_28 h
      · have h := h.2 c7
        refine rc_aload_n X dX6_reelNumbered_18 rfl 0 rfl ?_
        refine gfX6_reels X T0.1 nX6_reelNumbered_X6 qX6_reelNumbered_2 dX6_reelNumbered_19 ?_
        refine rc_iload_n X dX6_reelNumbered_22 rfl 1 rfl ?_
        obtain ⟨c8, h⟩ := h
        refine rc_reld X T0.2.1 dX6_reelNumbered_23 c8 ?_
        refine rc_goto X 28 dX6_reelNumbered_24 (by decide) ?_
        exact rc_aret X hr (some (a0 + 1 + 3 + 3 * (a1).toNat)) dX6_reelNumbered_28 h
theorem mX6_reelNumbered {l : Launch} {G : rc_G} {a0 : Nat} {a1 : Int} {I : rc_M} {post : Option Nat → rc_M → Prop} (T0 : kX6 G a0) (h : wX6_reelNumbered G a0 a1 I post) : rc_CQ l yX6_reelNumbered wsX6_reelNumbered rmX6_reelNumbered G [.ref a0, .int (rc_o a1)] I post :=
  rc_body (by decide +kernel) rfl rfl (Nat.le_of_ble_eq_true rfl) rfl (fun p e s m below meth c X hr => gX6_reelNumbered_0 X hr T0 h)
/-! X6_addReel -/
abbrev rmX6_addReel : Room := { frames := 1, cells := 0, slots := 0, locals := 21 }
theorem dyX6_addReel : yX6_addReel.cls = RX6 ∧ yX6_addReel.cls ≠ "java/lang/invoke/MethodHandle" ∧ yX6_addReel.cls ≠ "java/lang/invoke/VarHandle" ∧ (parseMethodDescriptor yX6_addReel.desc).map (fun d => d.parameters.length) = some 1 := ⟨rfl, by decide +kernel, by decide +kernel, by decide +kernel⟩
theorem qX6_addReel_1 : Cond.fieldLink RX6 34 "ReelChanger$Stock" "reelCount" "I" ∈ wsX6_addReel := List.mem_of_getElem? (i := 1) (by decide +kernel)
theorem nX6_addReel_X6 : ∀ w ∈ wsX60, w ∈ wsX6_addReel := fun w h => List.mem_cons_of_mem _ (List.mem_append_left _ (List.mem_append_right _ (h)))
theorem qX6_addReel_2 : Cond.constant RX6 49 (-100004) ∈ wsX6_addReel := List.mem_of_getElem? (i := 2) (by decide +kernel)
def wX6_addReel (G : rc_G) (a0 : Nat) (a1 : Int) (I : rc_M) (post : Int → rc_M → Prop) : Prop :=
  rc_R (I a0 0) ∧ (((I a0 0) < 10 → ∀ I3, I3 = rc_s I a0 0 ((I a0 0) + 1) → wX6_reelNumbered G a0 (I a0 0) I3 (fun r5 I4 => (r5 = none → post (I a0 0) I4) ∧ (∀ q6, r5 = some q6 → kX3 G q6 ∧ (wX3_renew G q6 a1 I4 (fun I7 => post (I a0 0) I7))))) ∧ (¬ (I a0 0) < 10 → post (-100004) I))
set_option maxRecDepth 100000 in
set_option maxHeartbeats 4000000 in
theorem gX6_addReel_0 {p : Program} {l : Launch} {e : Env} {s : State} {m : MethodId} {below : List Frame} {meth : Method} {c : Code} {G : rc_G} {a0 : Nat} {a1 : Int} {I : rc_M} {post : Int → rc_M → Prop}  (X : rc_X p s m ([.ref a0, .int (rc_o a1)] : List Value).toArray meth c cX6_addReel 4 wsX6_addReel RX6 G (rc_A G)) (hr : meth.sig.returnType = some .int) (T0 : kX6 G a0)  (h : wX6_addReel G a0 a1 I post) : rc_g p l e rmX6_addReel s m ([.ref a0, .int (rc_o a1)] : List Value).toArray below meth c 0 0 (MQ below (rc_QI G post) ([.ref a0, .int (rc_o a1)] : List Value).toArray s 0 0 (rc_A G)) 4 G (rc_A G) 0 [(0, .ref a0), (1, .int (rc_o a1))] [] I := by
  unfold wX6_addReel at h
  refine rc_aload_n X dX6_addReel_0 rfl 0 rfl ?_
  refine gfX6_reelCount X T0.1 nX6_addReel_X6 qX6_addReel_1 dX6_addReel_1 ?_
  refine rc_bipush X dX6_addReel_4 (rc_b8 _ ⟨by decide, by decide⟩) ?_
  obtain ⟨c1, h⟩ := h
  refine rc_ic_lt X 12 dX6_addReel_6 (by decide) c1 ⟨by decide, by decide⟩ (fun c2 => ?_) (fun c2 => ?_)
  · have h := h.1 c2
    refine rc_aload_n X dX6_addReel_12 rfl 0 rfl ?_
    refine gfX6_reelCount X T0.1 nX6_addReel_X6 qX6_addReel_1 dX6_addReel_13 ?_
    refine rc_istore_n X [(2, .int (rc_o (I a0 0))), (0, .ref a0), (1, .int (rc_o a1))] dX6_addReel_16 rfl (by decide) rfl ?_
    refine rc_aload_n X dX6_addReel_17 rfl 1 rfl ?_
    refine rc_dup X dX6_addReel_18 rfl ?_
    refine gfX6_reelCount X T0.1 nX6_addReel_X6 qX6_addReel_1 dX6_addReel_19 ?_
    refine rc_iconst X dX6_addReel_22 ?_
    refine rc_iadd X dX6_addReel_23 ?_
    refine pfX6_reelCount X T0.1 nX6_addReel_X6 qX6_addReel_1 dX6_addReel_24 (fun I3 e3 => ?_)
    have h := h I3 e3
    refine rc_aload_n X dX6_addReel_27 rfl 1 rfl ?_
    refine rc_iload_n X dX6_addReel_28 rfl 0 rfl ?_
    refine rc_cVQ (rest := []) X (mX6_reelNumbered T0 h) gX6_addReel_X6_reelNumbered rfl ⟨rfl, rfl⟩ dyX6_reelNumbered ⟨Nat.le_of_ble_eq_true rfl, Nat.le_of_ble_eq_true rfl⟩ (rc_recv X T0.1 rfl) rfl rfl (Nat.le_of_ble_eq_true rfl) dX6_addReel_29 ⟨Nat.zero_le _, Nat.zero_le _⟩ (fun r5 I4 h => ?_)
    rcases r5 with _ | q6
    · have h := h.1 rfl
      refine rc_qn ?_
      refine rc_astore_nN X [(3, .null), (2, .int (rc_o (I a0 0))), (0, .ref a0), (1, .int (rc_o a1))] dX6_addReel_32 rfl (by decide) rfl ?_
      refine rc_aload_nN X dX6_addReel_33 rfl 0 rfl ?_
      refine rc_nuN X 42 dX6_addReel_34 (by decide) ?_
      refine rc_iload_n X dX6_addReel_42 rfl 1 rfl ?_
      exact rc_iret X hr dX6_addReel_43 h
    · obtain ⟨Tq6, h⟩ := h.2 q6 rfl
      refine rc_qs ?_
      refine rc_astore_n X [(3, .ref q6), (2, .int (rc_o (I a0 0))), (0, .ref a0), (1, .int (rc_o a1))] dX6_addReel_32 rfl (by decide) rfl ?_
      refine rc_aload_n X dX6_addReel_33 rfl 0 rfl ?_
      refine rc_nu X dX6_addReel_34 ?_
      refine rc_aload_n X dX6_addReel_37 rfl 0 rfl ?_
      refine rc_iload_n X dX6_addReel_38 rfl 3 rfl ?_
      refine rc_cVV (rest := []) X (mX3_renew Tq6 h) gX6_addReel_X3_renew rfl ⟨rfl, rfl⟩ dyX3_renew ⟨Nat.le_of_ble_eq_true rfl, Nat.le_of_ble_eq_true rfl⟩ (rc_recv X Tq6.1 rfl) rfl rfl (Nat.le_of_ble_eq_true rfl) dX6_addReel_39 ⟨Nat.zero_le _, Nat.zero_le _⟩ (fun I7 h => ?_)
      refine rc_iload_n X dX6_addReel_42 rfl 1 rfl ?_
      exact rc_iret X hr dX6_addReel_43 h
  · have h := h.2 c2
    refine rc_ldc (n := (-100004)) X qX6_addReel_2 (by decide +kernel) dX6_addReel_9 ?_
    exact rc_iret X hr dX6_addReel_11 h
theorem mX6_addReel {l : Launch} {G : rc_G} {a0 : Nat} {a1 : Int} {I : rc_M} {post : Int → rc_M → Prop} (T0 : kX6 G a0) (h : wX6_addReel G a0 a1 I post) : rc_CI l yX6_addReel wsX6_addReel rmX6_addReel G [.ref a0, .int (rc_o a1)] I post :=
  rc_body (by decide +kernel) rfl rfl (Nat.le_of_ble_eq_true rfl) rfl (fun p e s m below meth c X hr => gX6_addReel_0 X hr T0 h)
/-! X6_isSettingValue -/
abbrev rmX6_isSettingValue : Room := { frames := 0, cells := 0, slots := 0, locals := 0 }
theorem dyX6_isSettingValue : yX6_isSettingValue.cls = RX6 ∧ yX6_isSettingValue.cls ≠ "java/lang/invoke/MethodHandle" ∧ yX6_isSettingValue.cls ≠ "java/lang/invoke/VarHandle" ∧ (parseMethodDescriptor yX6_isSettingValue.desc).map (fun d => d.parameters.length) = some 2 := ⟨rfl, by decide +kernel, by decide +kernel, by decide +kernel⟩
theorem qX6_isSettingValue_1 : Cond.fieldLink RX6 58 "ReelChanger$Stock" "LEAST_VALUES" "[I" ∈ wsX6_isSettingValue := List.mem_of_getElem? (i := 1) (by decide +kernel)
theorem qX6_isSettingValue_2 : Cond.fieldLink RX6 61 "ReelChanger$Stock" "MOST_VALUES" "[I" ∈ wsX6_isSettingValue := List.mem_of_getElem? (i := 2) (by decide +kernel)
def wX6_isSettingValue (G : rc_G) (a0 : Int) (a1 : Int) (I : rc_M) (post : Int → rc_M → Prop) : Prop :=
  rc_R a0 ∧ ((a0 < 0 → post 0 I) ∧ (¬ a0 < 0 → rc_R a0 ∧ ((8 ≤ a0 → post 0 I) ∧ (¬ 8 ≤ a0 → (0 ≤ a0 ∧ a0 < 8) ∧ (rc_R a1 ∧ (rc_R (rc_lo a0) ∧ ((a1 < (rc_lo a0) → post 0 I) ∧ (¬ a1 < (rc_lo a0) → (0 ≤ a0 ∧ a0 < 8) ∧ (rc_R a1 ∧ (rc_R (rc_hi a0) ∧ (((rc_hi a0) < a1 → post 0 I) ∧ (¬ (rc_hi a0) < a1 → post 1 I))))))))))))
set_option maxRecDepth 100000 in
set_option maxHeartbeats 4000000 in
theorem gX6_isSettingValue_0 {p : Program} {l : Launch} {e : Env} {s : State} {m : MethodId} {below : List Frame} {meth : Method} {c : Code} {G : rc_G} {a0 : Int} {a1 : Int} {I : rc_M} {post : Int → rc_M → Prop}  (X : rc_X p s m ([.int (rc_o a0), .int (rc_o a1)] : List Value).toArray meth c cX6_isSettingValue 2 wsX6_isSettingValue RX6 G (rc_A G)) (hr : meth.sig.returnType = some .boolean)   (h : wX6_isSettingValue G a0 a1 I post) : rc_g p l e rmX6_isSettingValue s m ([.int (rc_o a0), .int (rc_o a1)] : List Value).toArray below meth c 0 0 (MQ below (rc_QI G post) ([.int (rc_o a0), .int (rc_o a1)] : List Value).toArray s 0 0 (rc_A G)) 2 G (rc_A G) 0 [(0, .int (rc_o a0)), (1, .int (rc_o a1))] [] I := by
  unfold wX6_isSettingValue at h
  refine rc_iload_n X dX6_isSettingValue_0 rfl 0 rfl ?_
  obtain ⟨c1, h⟩ := h
  refine rc_if_lt X 32 dX6_isSettingValue_1 (by decide) c1 (fun c2 => ?_) (fun c2 => ?_)
  · have h := h.1 c2
    refine rc_iconst X dX6_isSettingValue_32 ?_
    exact rc_zret X hr dX6_isSettingValue_33 (Or.inl rfl) h
  · have h := h.2 c2
    refine rc_iload_n X dX6_isSettingValue_4 rfl 0 rfl ?_
    refine rc_bipush X dX6_isSettingValue_5 (rc_b8 _ ⟨by decide, by decide⟩) ?_
    obtain ⟨c3, h⟩ := h
    refine rc_ic_ge X 32 dX6_isSettingValue_7 (by decide) c3 ⟨by decide, by decide⟩ (fun c4 => ?_) (fun c4 => ?_)
    · have h := h.1 c4
      refine rc_iconst X dX6_isSettingValue_32 ?_
      exact rc_zret X hr dX6_isSettingValue_33 (Or.inl rfl) h
    · have h := h.2 c4
      refine rc_iload_n X dX6_isSettingValue_10 rfl 1 rfl ?_
      refine rc_gst X X.2.2.2.2.1.1 qX6_isSettingValue_1 dX6_isSettingValue_11 (fun t5 ht5 => ?_)
      refine rc_iload_n X dX6_isSettingValue_14 rfl 0 rfl ?_
      obtain ⟨c6, h⟩ := h
      refine rc_tld X ht5 dX6_isSettingValue_15 c6 ?_
      obtain ⟨c7, h⟩ := h
      obtain ⟨c8, h⟩ := h
      refine rc_ic_lt X 32 dX6_isSettingValue_16 (by decide) c7 c8 (fun c9 => ?_) (fun c9 => ?_)
      · have h := h.1 c9
        refine rc_iconst X dX6_isSettingValue_32 ?_
        exact rc_zret X hr dX6_isSettingValue_33 (Or.inl rfl) h
      · have h := h.2 c9
        refine rc_iload_n X dX6_isSettingValue_19 rfl 1 rfl ?_
        refine rc_gst X X.2.2.2.2.1.2.1 qX6_isSettingValue_2 dX6_isSettingValue_20 (fun t10 ht10 => ?_)
        refine rc_iload_n X dX6_isSettingValue_23 rfl 0 rfl ?_
        obtain ⟨c11, h⟩ := h
        refine rc_tld X ht10 dX6_isSettingValue_24 c11 ?_
        obtain ⟨c12, h⟩ := h
        obtain ⟨c13, h⟩ := h
        refine rc_ic_gt X 32 dX6_isSettingValue_25 (by decide) c12 c13 (fun c14 => ?_) (fun c14 => ?_)
        · have h := h.1 c14
          refine rc_iconst X dX6_isSettingValue_32 ?_
          exact rc_zret X hr dX6_isSettingValue_33 (Or.inl rfl) h
        · have h := h.2 c14
          refine rc_iconst X dX6_isSettingValue_28 ?_
          refine rc_goto X 33 dX6_isSettingValue_29 (by decide) ?_
          exact rc_zret X hr dX6_isSettingValue_33 (Or.inr rfl) h
theorem mX6_isSettingValue {l : Launch} {G : rc_G} {a0 : Int} {a1 : Int} {I : rc_M} {post : Int → rc_M → Prop}  (h : wX6_isSettingValue G a0 a1 I post) : rc_CI l yX6_isSettingValue wsX6_isSettingValue rmX6_isSettingValue G [.int (rc_o a0), .int (rc_o a1)] I post :=
  rc_body (by decide +kernel) rfl rfl (Nat.le_of_ble_eq_true rfl) rfl (fun p e s m below meth c X hr => gX6_isSettingValue_0 X hr  h)
/-! X6_settingNumbered -/
abbrev rmX6_settingNumbered : Room := { frames := 0, cells := 0, slots := 0, locals := 0 }
theorem dyX6_settingNumbered : yX6_settingNumbered.cls = RX6 ∧ yX6_settingNumbered.cls ≠ "java/lang/invoke/MethodHandle" ∧ yX6_settingNumbered.cls ≠ "java/lang/invoke/VarHandle" ∧ (parseMethodDescriptor yX6_settingNumbered.desc).map (fun d => d.parameters.length) = some 1 := ⟨rfl, by decide +kernel, by decide +kernel, by decide +kernel⟩
theorem qX6_settingNumbered_2 : Cond.constant RX6 64 (-100001) ∈ wsX6_settingNumbered := List.mem_of_getElem? (i := 2) (by decide +kernel)
theorem qX6_settingNumbered_1 : Cond.fieldLink RX6 17 "ReelChanger$Stock" "settings" "[I" ∈ wsX6_settingNumbered := List.mem_of_getElem? (i := 1) (by decide +kernel)
theorem nX6_settingNumbered_X6 : ∀ w ∈ wsX60, w ∈ wsX6_settingNumbered := fun w h => List.mem_cons_of_mem _ (List.mem_append_right _ (h))
def wX6_settingNumbered (G : rc_G) (a0 : Nat) (a1 : Int) (I : rc_M) (post : Int → rc_M → Prop) : Prop :=
  rc_R a1 ∧ ((a1 < 0 → post (-100001) I) ∧ (¬ a1 < 0 → rc_R a1 ∧ ((8 ≤ a1 → post (-100001) I) ∧ (¬ 8 ≤ a1 → (0 ≤ a1 ∧ a1 < 8) ∧ (post (I (a0 + 2) a1) I)))))
set_option maxRecDepth 100000 in
set_option maxHeartbeats 4000000 in
theorem gX6_settingNumbered_0 {p : Program} {l : Launch} {e : Env} {s : State} {m : MethodId} {below : List Frame} {meth : Method} {c : Code} {G : rc_G} {a0 : Nat} {a1 : Int} {I : rc_M} {post : Int → rc_M → Prop}  (X : rc_X p s m ([.ref a0, .int (rc_o a1)] : List Value).toArray meth c cX6_settingNumbered 2 wsX6_settingNumbered RX6 G (rc_A G)) (hr : meth.sig.returnType = some .int) (T0 : kX6 G a0)  (h : wX6_settingNumbered G a0 a1 I post) : rc_g p l e rmX6_settingNumbered s m ([.ref a0, .int (rc_o a1)] : List Value).toArray below meth c 0 0 (MQ below (rc_QI G post) ([.ref a0, .int (rc_o a1)] : List Value).toArray s 0 0 (rc_A G)) 2 G (rc_A G) 0 [(0, .ref a0), (1, .int (rc_o a1))] [] I := by
  unfold wX6_settingNumbered at h
  refine rc_iload_n X dX6_settingNumbered_0 rfl 1 rfl ?_
  obtain ⟨c1, h⟩ := h
  refine rc_if_lt X 19 dX6_settingNumbered_1 (by decide) c1 (fun c2 => ?_) (fun c2 => ?_)
  · have h := h.1 c2
    refine rc_ldc (n := (-100001)) X qX6_settingNumbered_2 (by decide +kernel) dX6_settingNumbered_19 ?_
    exact rc_iret X hr dX6_settingNumbered_21 h
  · have h := h.2 c2
    refine rc_iload_n X dX6_settingNumbered_4 rfl 1 rfl ?_
    refine rc_bipush X dX6_settingNumbered_5 (rc_b8 _ ⟨by decide, by decide⟩) ?_
    obtain ⟨c3, h⟩ := h
    refine rc_ic_ge X 19 dX6_settingNumbered_7 (by decide) c3 ⟨by decide, by decide⟩ (fun c4 => ?_) (fun c4 => ?_)
    · have h := h.1 c4
      refine rc_ldc (n := (-100001)) X qX6_settingNumbered_2 (by decide +kernel) dX6_settingNumbered_19 ?_
      exact rc_iret X hr dX6_settingNumbered_21 h
    · have h := h.2 c4
      refine rc_aload_n X dX6_settingNumbered_10 rfl 0 rfl ?_
      refine gfX6_settings X T0.1 nX6_settingNumbered_X6 qX6_settingNumbered_1 dX6_settingNumbered_11 ?_
      refine rc_iload_n X dX6_settingNumbered_14 rfl 1 rfl ?_
      obtain ⟨c5, h⟩ := h
      refine rc_iald X T0.2.2.1 (by decide) dX6_settingNumbered_15 c5 ?_
      refine rc_goto X 21 dX6_settingNumbered_16 (by decide) ?_
      exact rc_iret X hr dX6_settingNumbered_21 h
theorem mX6_settingNumbered {l : Launch} {G : rc_G} {a0 : Nat} {a1 : Int} {I : rc_M} {post : Int → rc_M → Prop} (T0 : kX6 G a0) (h : wX6_settingNumbered G a0 a1 I post) : rc_CI l yX6_settingNumbered wsX6_settingNumbered rmX6_settingNumbered G [.ref a0, .int (rc_o a1)] I post :=
  rc_body (by decide +kernel) rfl rfl (Nat.le_of_ble_eq_true rfl) rfl (fun p e s m below meth c X hr => gX6_settingNumbered_0 X hr T0 h)
/-! X6_changeSetting -/
abbrev rmX6_changeSetting : Room := { frames := 1, cells := 0, slots := 0, locals := 21 }
theorem dyX6_changeSetting : yX6_changeSetting.cls = RX6 ∧ yX6_changeSetting.cls ≠ "java/lang/invoke/MethodHandle" ∧ yX6_changeSetting.cls ≠ "java/lang/invoke/VarHandle" ∧ (parseMethodDescriptor yX6_changeSetting.desc).map (fun d => d.parameters.length) = some 2 := ⟨rfl, by decide +kernel, by decide +kernel, by decide +kernel⟩
theorem qX6_changeSetting_1 : Cond.fieldLink RX6 17 "ReelChanger$Stock" "settings" "[I" ∈ wsX6_changeSetting := List.mem_of_getElem? (i := 1) (by decide +kernel)
theorem nX6_changeSetting_X6 : ∀ w ∈ wsX60, w ∈ wsX6_changeSetting := fun w h => List.mem_cons_of_mem _ (List.mem_append_right _ (h))
def wX6_changeSetting (G : rc_G) (a0 : Nat) (a1 : Int) (a2 : Int) (I : rc_M) (post : Int → rc_M → Prop) : Prop :=
  wX6_settingNumbered G a0 a1 I (fun r2 I1 => wX6_isSettingValue G a1 a2 I1 (fun r4 I3 => rc_R r4 ∧ ((r4 = 0 → post r2 I3) ∧ (¬ r4 = 0 → (0 ≤ a1 ∧ a1 < 8) ∧ (∀ I8, I8 = rc_s I3 (a0 + 2) a1 a2 → post r2 I8)))))
set_option maxRecDepth 100000 in
set_option maxHeartbeats 4000000 in
theorem gX6_changeSetting_0 {p : Program} {l : Launch} {e : Env} {s : State} {m : MethodId} {below : List Frame} {meth : Method} {c : Code} {G : rc_G} {a0 : Nat} {a1 : Int} {a2 : Int} {I : rc_M} {post : Int → rc_M → Prop}  (X : rc_X p s m ([.ref a0, .int (rc_o a1), .int (rc_o a2)] : List Value).toArray meth c cX6_changeSetting 4 wsX6_changeSetting RX6 G (rc_A G)) (hr : meth.sig.returnType = some .int) (T0 : kX6 G a0)  (h : wX6_changeSetting G a0 a1 a2 I post) : rc_g p l e rmX6_changeSetting s m ([.ref a0, .int (rc_o a1), .int (rc_o a2)] : List Value).toArray below meth c 0 0 (MQ below (rc_QI G post) ([.ref a0, .int (rc_o a1), .int (rc_o a2)] : List Value).toArray s 0 0 (rc_A G)) 4 G (rc_A G) 0 [(0, .ref a0), (1, .int (rc_o a1)), (2, .int (rc_o a2))] [] I := by
  unfold wX6_changeSetting at h
  refine rc_aload_n X dX6_changeSetting_0 rfl 0 rfl ?_
  refine rc_iload_n X dX6_changeSetting_1 rfl 1 rfl ?_
  refine rc_cVI (rest := []) X (mX6_settingNumbered T0 h) gX6_changeSetting_X6_settingNumbered rfl ⟨rfl, rfl⟩ dyX6_settingNumbered ⟨Nat.le_of_ble_eq_true rfl, Nat.le_of_ble_eq_true rfl⟩ (rc_recv X T0.1 rfl) rfl rfl (Nat.le_of_ble_eq_true rfl) dX6_changeSetting_2 ⟨Nat.zero_le _, Nat.zero_le _⟩ (fun r2 I1 h => ?_)
  refine rc_istore_n X [(3, .int (rc_o r2)), (0, .ref a0), (1, .int (rc_o a1)), (2, .int (rc_o a2))] dX6_changeSetting_5 rfl (by decide) rfl ?_
  refine rc_iload_n X dX6_changeSetting_6 rfl 2 rfl ?_
  refine rc_iload_n X dX6_changeSetting_7 rfl 3 rfl ?_
  refine rc_cSI (rest := []) X (mX6_isSettingValue  h) gX6_changeSetting_X6_isSettingValue rfl ⟨rfl, rfl⟩ dyX6_isSettingValue ⟨Nat.le_of_ble_eq_true rfl, Nat.le_of_ble_eq_true rfl⟩ rfl rfl (Nat.le_of_ble_eq_true rfl) dX6_changeSetting_8 ⟨Nat.zero_le _, Nat.zero_le _⟩ (fun r4 I3 h => ?_)
  obtain ⟨c5, h⟩ := h
  refine rc_if_eq X 21 dX6_changeSetting_11 (by decide) c5 (fun c6 => ?_) (fun c6 => ?_)
  · have h := h.1 c6
    refine rc_iload_n X dX6_changeSetting_21 rfl 0 rfl ?_
    exact rc_iret X hr dX6_changeSetting_22 h
  · have h := h.2 c6
    refine rc_aload_n X dX6_changeSetting_14 rfl 1 rfl ?_
    refine gfX6_settings X T0.1 nX6_changeSetting_X6 qX6_changeSetting_1 dX6_changeSetting_15 ?_
    refine rc_iload_n X dX6_changeSetting_18 rfl 2 rfl ?_
    refine rc_iload_n X dX6_changeSetting_19 rfl 3 rfl ?_
    obtain ⟨c7, h⟩ := h
    refine rc_iast X T0.2.2.1 (by decide) dX6_changeSetting_20 c7 (fun I8 e8 => ?_)
    have h := h I8 e8
    refine rc_iload_n X dX6_changeSetting_21 rfl 0 rfl ?_
    exact rc_iret X hr dX6_changeSetting_22 h
theorem mX6_changeSetting {l : Launch} {G : rc_G} {a0 : Nat} {a1 : Int} {a2 : Int} {I : rc_M} {post : Int → rc_M → Prop} (T0 : kX6 G a0) (h : wX6_changeSetting G a0 a1 a2 I post) : rc_CI l yX6_changeSetting wsX6_changeSetting rmX6_changeSetting G [.ref a0, .int (rc_o a1), .int (rc_o a2)] I post :=
  rc_body (by decide +kernel) rfl rfl (Nat.le_of_ble_eq_true rfl) rfl (fun p e s m below meth c X hr => gX6_changeSetting_0 X hr T0 h)
/-! X6_takeProgram -/
abbrev rmX6_takeProgram : Room := { frames := 1, cells := 0, slots := 0, locals := 17 }
theorem dyX6_takeProgram : yX6_takeProgram.cls = RX6 ∧ yX6_takeProgram.cls ≠ "java/lang/invoke/MethodHandle" ∧ yX6_takeProgram.cls ≠ "java/lang/invoke/VarHandle" ∧ (parseMethodDescriptor yX6_takeProgram.desc).map (fun d => d.parameters.length) = some 2 := ⟨rfl, by decide +kernel, by decide +kernel, by decide +kernel⟩
theorem qX6_takeProgram_1 : Cond.methodLink RX6 73 Lib.Math.min.name ∈ wsX6_takeProgram := List.mem_of_getElem? (i := 1) (by decide +kernel)
theorem qX6_takeProgram_2 : Cond.static Lib.Math.min.name ∈ wsX6_takeProgram := List.mem_of_getElem? (i := 2) (by decide +kernel)
theorem qX6_takeProgram_3 : Cond.initialized "java/lang/Math" ∈ wsX6_takeProgram := List.mem_of_getElem? (i := 3) (by decide +kernel)
theorem qX6_takeProgram_4 : Cond.code Lib.Math.min.name Lib.Math.min.code 2 (some .int) ∈ wsX6_takeProgram := List.mem_of_getElem? (i := 4) (by decide +kernel)
theorem qX6_takeProgram_5 : Cond.fieldLink RX6 42 "ReelChanger$Stock" "placeCount" "I" ∈ wsX6_takeProgram := List.mem_of_getElem? (i := 5) (by decide +kernel)
theorem nX6_takeProgram_X6 : ∀ w ∈ wsX60, w ∈ wsX6_takeProgram := fun w h => List.mem_cons_of_mem _ (List.mem_append_right _ (h))
theorem qX6_takeProgram_6 : Cond.fieldLink RX6 21 "ReelChanger$Stock" "places" "[I" ∈ wsX6_takeProgram := List.mem_of_getElem? (i := 6) (by decide +kernel)
def wX6_takeProgram_12 (G : rc_G) (post : rc_M → Prop) (a0 : Nat) (a1 : Nat) (a2 : Int) (k12 : Int → rc_M → Prop) (x3 : Int) (I : rc_M) : Prop :=
  rc_R x3 ∧ (rc_R (I a0 1) ∧ (((I a0 1) ≤ x3 → post I) ∧ (¬ (I a0 1) ≤ x3 → rc_R x3 ∧ ((12 ≤ x3 → post I) ∧ (¬ 12 ≤ x3 → (0 ≤ x3 ∧ x3 < 12) ∧ ((0 ≤ x3 ∧ x3 < 12) ∧ (∀ I10, I10 = rc_s I (a0 + 3) x3 (I a1 x3) → k12 (x3 + 1) I10)))))))
set_option maxRecDepth 100000 in
set_option maxHeartbeats 4000000 in
theorem gX6_takeProgram_12 {p : Program} {l : Launch} {e : Env} {s : State} {m : MethodId} {below : List Frame} {meth : Method} {c : Code} {G : rc_G} {a0 : Nat} {a1 : Nat} {a2 : Int} {I : rc_M} {post : rc_M → Prop} {k12 : Int → rc_M → Prop} {x3 : Int} (X : rc_X p s m ([.ref a0, .ref a1, .int (rc_o a2)] : List Value).toArray meth c cX6_takeProgram 4 wsX6_takeProgram RX6 G (rc_A G)) (hr : meth.sig.returnType = none) (T0 : kX6 G a0) (T1 : rc_is G a1 (rc_sI G 12)) (hk12 : ∀ (x3 : Int) (J : rc_M), k12 x3 J → rc_g p l e rmX6_takeProgram s m ([.ref a0, .ref a1, .int (rc_o a2)] : List Value).toArray below meth c 0 0 (MQ below (rc_QV G post) ([.ref a0, .ref a1, .int (rc_o a2)] : List Value).toArray s 0 0 (rc_A G)) 4 G (rc_A G) 12 [(0, .ref a0), (1, .ref a1), (3, .int (rc_o x3))] [] J)  (h : wX6_takeProgram_12 G post a0 a1 a2 k12 x3 I) : rc_g p l e rmX6_takeProgram s m ([.ref a0, .ref a1, .int (rc_o a2)] : List Value).toArray below meth c 0 0 (MQ below (rc_QV G post) ([.ref a0, .ref a1, .int (rc_o a2)] : List Value).toArray s 0 0 (rc_A G)) 4 G (rc_A G) 12 [(0, .ref a0), (1, .ref a1), (3, .int (rc_o x3))] [] I := by
  unfold wX6_takeProgram_12 at h
  refine rc_iload_n X dX6_takeProgram_12 rfl 2 rfl ?_
  refine rc_aload_n X dX6_takeProgram_13 rfl 0 rfl ?_
  refine gfX6_placeCount X T0.1 nX6_takeProgram_X6 qX6_takeProgram_5 dX6_takeProgram_14 ?_
  obtain ⟨c3, h⟩ := h
  obtain ⟨c4, h⟩ := h
  refine rc_ic_ge X 41 dX6_takeProgram_17 (by decide) c3 c4 (fun c5 => ?_) (fun c5 => ?_)
  · have h := h.1 c5
    exact rc_vret X hr dX6_takeProgram_41 h
  · have h := h.2 c5
    refine rc_iload_n X dX6_takeProgram_20 rfl 2 rfl ?_
    refine rc_aload_n X dX6_takeProgram_21 rfl 1 rfl ?_
    refine rc_alen X T1 dX6_takeProgram_22 ?_
    obtain ⟨c6, h⟩ := h
    refine rc_ic_ge X 41 dX6_takeProgram_23 (by decide) c6 ⟨by decide, by decide⟩ (fun c7 => ?_) (fun c7 => ?_)
    · have h := h.1 c7
      exact rc_vret X hr dX6_takeProgram_41 h
    · have h := h.2 c7
      refine rc_aload_n X dX6_takeProgram_26 rfl 0 rfl ?_
      refine gfX6_places X T0.1 nX6_takeProgram_X6 qX6_takeProgram_6 dX6_takeProgram_27 ?_
      refine rc_iload_n X dX6_takeProgram_30 rfl 2 rfl ?_
      refine rc_aload_n X dX6_takeProgram_31 rfl 1 rfl ?_
      refine rc_iload_n X dX6_takeProgram_32 rfl 2 rfl ?_
      obtain ⟨c8, h⟩ := h
      refine rc_iald X T1 (by decide) dX6_takeProgram_33 c8 ?_
      obtain ⟨c9, h⟩ := h
      refine rc_iast X T0.2.2.2.1 (by decide) dX6_takeProgram_34 c9 (fun I10 e10 => ?_)
      have h := h I10 e10
      refine rc_iinc X [(3, .int (rc_o (x3 + 1))), (0, .ref a0), (1, .ref a1)] dX6_takeProgram_35 2 rfl (by decide) rfl ?_
      refine rc_goto X 12 dX6_takeProgram_38 (by decide) ?_
      refine rc_subl [(0, .ref a0), (1, .ref a1), (3, .int (rc_o (x3 + 1)))] [1, 2, 0] rfl ?_
      exact hk12 _ _ h
noncomputable def rX6_takeProgram_12 (G : rc_G) (post : rc_M → Prop) (a0 : Nat) (a1 : Nat) (a2 : Int)  (n : Nat) : Int → rc_M → Prop :=
  Nat.rec (motive := fun _ => Int → rc_M → Prop) (fun _ _ => False) (fun _ ih => wX6_takeProgram_12 G post a0 a1 a2  ih) n
set_option maxRecDepth 100000 in
set_option maxHeartbeats 4000000 in
theorem sX6_takeProgram_12 {p : Program} {l : Launch} {e : Env} {s : State} {m : MethodId} {below : List Frame} {meth : Method} {c : Code} {G : rc_G} {a0 : Nat} {a1 : Nat} {a2 : Int} {I : rc_M} {post : rc_M → Prop}  {n : Nat} {x3 : Int} (X : rc_X p s m ([.ref a0, .ref a1, .int (rc_o a2)] : List Value).toArray meth c cX6_takeProgram 4 wsX6_takeProgram RX6 G (rc_A G)) (hr : meth.sig.returnType = none) (T0 : kX6 G a0) (T1 : rc_is G a1 (rc_sI G 12))  (h : rX6_takeProgram_12 G post a0 a1 a2  n x3 I) : rc_g p l e rmX6_takeProgram s m ([.ref a0, .ref a1, .int (rc_o a2)] : List Value).toArray below meth c 0 0 (MQ below (rc_QV G post) ([.ref a0, .ref a1, .int (rc_o a2)] : List Value).toArray s 0 0 (rc_A G)) 4 G (rc_A G) 12 [(0, .ref a0), (1, .ref a1), (3, .int (rc_o x3))] [] I := by
  induction n generalizing x3 I with
  | zero => exact h.elim
  | succ n ih => exact gX6_takeProgram_12 (k12 := rX6_takeProgram_12 G post a0 a1 a2  n) X hr T0 T1  (fun x3 J h2 => ih h2) h
def wX6_takeProgram (G : rc_G) (a0 : Nat) (a1 : Nat) (a2 : Int) (I : rc_M) (post : rc_M → Prop) : Prop :=
  rc_R a2 ∧ (∀ I2, I2 = rc_s I a0 1 (min a2 12) → ∃ n, rX6_takeProgram_12 G post a0 a1 a2  n 0 I2)
set_option maxRecDepth 100000 in
set_option maxHeartbeats 4000000 in
theorem gX6_takeProgram_0 {p : Program} {l : Launch} {e : Env} {s : State} {m : MethodId} {below : List Frame} {meth : Method} {c : Code} {G : rc_G} {a0 : Nat} {a1 : Nat} {a2 : Int} {I : rc_M} {post : rc_M → Prop}  (X : rc_X p s m ([.ref a0, .ref a1, .int (rc_o a2)] : List Value).toArray meth c cX6_takeProgram 4 wsX6_takeProgram RX6 G (rc_A G)) (hr : meth.sig.returnType = none) (T0 : kX6 G a0) (T1 : rc_is G a1 (rc_sI G 12))  (h : wX6_takeProgram G a0 a1 a2 I post) : rc_g p l e rmX6_takeProgram s m ([.ref a0, .ref a1, .int (rc_o a2)] : List Value).toArray below meth c 0 0 (MQ below (rc_QV G post) ([.ref a0, .ref a1, .int (rc_o a2)] : List Value).toArray s 0 0 (rc_A G)) 4 G (rc_A G) 0 [(0, .ref a0), (1, .ref a1), (2, .int (rc_o a2))] [] I := by
  unfold wX6_takeProgram at h
  refine rc_aload_n X dX6_takeProgram_0 rfl 0 rfl ?_
  refine rc_iload_n X dX6_takeProgram_1 rfl 2 rfl ?_
  refine rc_bipush X dX6_takeProgram_2 (rc_b8 _ ⟨by decide, by decide⟩) ?_
  obtain ⟨c1, h⟩ := h
  refine rc_mmin X qX6_takeProgram_1 qX6_takeProgram_2 qX6_takeProgram_3 qX6_takeProgram_4 (Nat.le_of_ble_eq_true rfl) (Nat.le_of_ble_eq_true rfl) (Nat.zero_le _) (Nat.zero_le _) dX6_takeProgram_4 c1 ⟨by decide, by decide⟩ ?_
  refine pfX6_placeCount X T0.1 nX6_takeProgram_X6 qX6_takeProgram_5 dX6_takeProgram_7 (fun I2 e2 => ?_)
  have h := h I2 e2
  refine rc_iconst X dX6_takeProgram_10 ?_
  refine rc_istore_n X [(3, .int (rc_o 0)), (0, .ref a0), (1, .ref a1), (2, .int (rc_o a2))] dX6_takeProgram_11 rfl (by decide) rfl ?_
  refine rc_subl [(0, .ref a0), (1, .ref a1), (3, .int (rc_o 0))] [1, 2, 0] rfl ?_
  obtain ⟨n, h⟩ := h
  exact sX6_takeProgram_12 X hr T0 T1  h
theorem mX6_takeProgram {l : Launch} {G : rc_G} {a0 : Nat} {a1 : Nat} {a2 : Int} {I : rc_M} {post : rc_M → Prop} (T0 : kX6 G a0) (T1 : rc_is G a1 (rc_sI G 12)) (h : wX6_takeProgram G a0 a1 a2 I post) : rc_CV l yX6_takeProgram wsX6_takeProgram rmX6_takeProgram G [.ref a0, .ref a1, .int (rc_o a2)] I post :=
  rc_body (by decide +kernel) rfl rfl (Nat.le_of_ble_eq_true rfl) rfl (fun p e s m below meth c X hr => gX6_takeProgram_0 X hr T0 T1 h)
/-! X6_numberAtPlace -/
abbrev rmX6_numberAtPlace : Room := { frames := 0, cells := 0, slots := 0, locals := 0 }
theorem dyX6_numberAtPlace : yX6_numberAtPlace.cls = RX6 ∧ yX6_numberAtPlace.cls ≠ "java/lang/invoke/MethodHandle" ∧ yX6_numberAtPlace.cls ≠ "java/lang/invoke/VarHandle" ∧ (parseMethodDescriptor yX6_numberAtPlace.desc).map (fun d => d.parameters.length) = some 1 := ⟨rfl, by decide +kernel, by decide +kernel, by decide +kernel⟩
theorem qX6_numberAtPlace_3 : Cond.constant RX6 64 (-100001) ∈ wsX6_numberAtPlace := List.mem_of_getElem? (i := 3) (by decide +kernel)
theorem qX6_numberAtPlace_1 : Cond.fieldLink RX6 42 "ReelChanger$Stock" "placeCount" "I" ∈ wsX6_numberAtPlace := List.mem_of_getElem? (i := 1) (by decide +kernel)
theorem nX6_numberAtPlace_X6 : ∀ w ∈ wsX60, w ∈ wsX6_numberAtPlace := fun w h => List.mem_cons_of_mem _ (List.mem_append_right _ (h))
theorem qX6_numberAtPlace_2 : Cond.fieldLink RX6 21 "ReelChanger$Stock" "places" "[I" ∈ wsX6_numberAtPlace := List.mem_of_getElem? (i := 2) (by decide +kernel)
def wX6_numberAtPlace (G : rc_G) (a0 : Nat) (a1 : Int) (I : rc_M) (post : Int → rc_M → Prop) : Prop :=
  rc_R a1 ∧ ((a1 < 0 → post (-100001) I) ∧ (¬ a1 < 0 → rc_R a1 ∧ (rc_R (I a0 1) ∧ (((I a0 1) ≤ a1 → post (-100001) I) ∧ (¬ (I a0 1) ≤ a1 → rc_R a1 ∧ ((12 ≤ a1 → post (-100001) I) ∧ (¬ 12 ≤ a1 → (0 ≤ a1 ∧ a1 < 12) ∧ (post (I (a0 + 3) a1) I))))))))
set_option maxRecDepth 100000 in
set_option maxHeartbeats 4000000 in
theorem gX6_numberAtPlace_0 {p : Program} {l : Launch} {e : Env} {s : State} {m : MethodId} {below : List Frame} {meth : Method} {c : Code} {G : rc_G} {a0 : Nat} {a1 : Int} {I : rc_M} {post : Int → rc_M → Prop}  (X : rc_X p s m ([.ref a0, .int (rc_o a1)] : List Value).toArray meth c cX6_numberAtPlace 2 wsX6_numberAtPlace RX6 G (rc_A G)) (hr : meth.sig.returnType = some .int) (T0 : kX6 G a0)  (h : wX6_numberAtPlace G a0 a1 I post) : rc_g p l e rmX6_numberAtPlace s m ([.ref a0, .int (rc_o a1)] : List Value).toArray below meth c 0 0 (MQ below (rc_QI G post) ([.ref a0, .int (rc_o a1)] : List Value).toArray s 0 0 (rc_A G)) 2 G (rc_A G) 0 [(0, .ref a0), (1, .int (rc_o a1))] [] I := by
  unfold wX6_numberAtPlace at h
  refine rc_iload_n X dX6_numberAtPlace_0 rfl 1 rfl ?_
  obtain ⟨c1, h⟩ := h
  refine rc_if_lt X 27 dX6_numberAtPlace_1 (by decide) c1 (fun c2 => ?_) (fun c2 => ?_)
  · have h := h.1 c2
    refine rc_ldc (n := (-100001)) X qX6_numberAtPlace_3 (by decide +kernel) dX6_numberAtPlace_27 ?_
    exact rc_iret X hr dX6_numberAtPlace_29 h
  · have h := h.2 c2
    refine rc_iload_n X dX6_numberAtPlace_4 rfl 1 rfl ?_
    refine rc_aload_n X dX6_numberAtPlace_5 rfl 0 rfl ?_
    refine gfX6_placeCount X T0.1 nX6_numberAtPlace_X6 qX6_numberAtPlace_1 dX6_numberAtPlace_6 ?_
    obtain ⟨c3, h⟩ := h
    obtain ⟨c4, h⟩ := h
    refine rc_ic_ge X 27 dX6_numberAtPlace_9 (by decide) c3 c4 (fun c5 => ?_) (fun c5 => ?_)
    · have h := h.1 c5
      refine rc_ldc (n := (-100001)) X qX6_numberAtPlace_3 (by decide +kernel) dX6_numberAtPlace_27 ?_
      exact rc_iret X hr dX6_numberAtPlace_29 h
    · have h := h.2 c5
      refine rc_iload_n X dX6_numberAtPlace_12 rfl 1 rfl ?_
      refine rc_bipush X dX6_numberAtPlace_13 (rc_b8 _ ⟨by decide, by decide⟩) ?_
      obtain ⟨c6, h⟩ := h
      refine rc_ic_ge X 27 dX6_numberAtPlace_15 (by decide) c6 ⟨by decide, by decide⟩ (fun c7 => ?_) (fun c7 => ?_)
      · have h := h.1 c7
        refine rc_ldc (n := (-100001)) X qX6_numberAtPlace_3 (by decide +kernel) dX6_numberAtPlace_27 ?_
        exact rc_iret X hr dX6_numberAtPlace_29 h
      · have h := h.2 c7
        refine rc_aload_n X dX6_numberAtPlace_18 rfl 0 rfl ?_
        refine gfX6_places X T0.1 nX6_numberAtPlace_X6 qX6_numberAtPlace_2 dX6_numberAtPlace_19 ?_
        refine rc_iload_n X dX6_numberAtPlace_22 rfl 1 rfl ?_
        obtain ⟨c8, h⟩ := h
        refine rc_iald X T0.2.2.2.1 (by decide) dX6_numberAtPlace_23 c8 ?_
        refine rc_goto X 29 dX6_numberAtPlace_24 (by decide) ?_
        exact rc_iret X hr dX6_numberAtPlace_29 h
theorem mX6_numberAtPlace {l : Launch} {G : rc_G} {a0 : Nat} {a1 : Int} {I : rc_M} {post : Int → rc_M → Prop} (T0 : kX6 G a0) (h : wX6_numberAtPlace G a0 a1 I post) : rc_CI l yX6_numberAtPlace wsX6_numberAtPlace rmX6_numberAtPlace G [.ref a0, .int (rc_o a1)] I post :=
  rc_body (by decide +kernel) rfl rfl (Nat.le_of_ble_eq_true rfl) rfl (fun p e s m below meth c X hr => gX6_numberAtPlace_0 X hr T0 h)
/-! X6_reelAtPlace -/
abbrev rmX6_reelAtPlace : Room := { frames := 1, cells := 0, slots := 0, locals := 21 }
theorem dyX6_reelAtPlace : yX6_reelAtPlace.cls = RX6 ∧ yX6_reelAtPlace.cls ≠ "java/lang/invoke/MethodHandle" ∧ yX6_reelAtPlace.cls ≠ "java/lang/invoke/VarHandle" ∧ (parseMethodDescriptor yX6_reelAtPlace.desc).map (fun d => d.parameters.length) = some 1 := ⟨rfl, by decide +kernel, by decide +kernel, by decide +kernel⟩
def wX6_reelAtPlace (G : rc_G) (a0 : Nat) (a1 : Int) (I : rc_M) (post : Option Nat → rc_M → Prop) : Prop :=
  wX6_numberAtPlace G a0 a1 I (fun r2 I1 => wX6_reelNumbered G a0 r2 I1 (fun r4 I3 => post r4 I3))
set_option maxRecDepth 100000 in
set_option maxHeartbeats 4000000 in
theorem gX6_reelAtPlace_0 {p : Program} {l : Launch} {e : Env} {s : State} {m : MethodId} {below : List Frame} {meth : Method} {c : Code} {G : rc_G} {a0 : Nat} {a1 : Int} {I : rc_M} {post : Option Nat → rc_M → Prop}  (X : rc_X p s m ([.ref a0, .int (rc_o a1)] : List Value).toArray meth c cX6_reelAtPlace 2 wsX6_reelAtPlace RX6 G (rc_A G)) (hr : meth.sig.returnType = some (.object "ReelChanger$Reel")) (T0 : kX6 G a0)  (h : wX6_reelAtPlace G a0 a1 I post) : rc_g p l e rmX6_reelAtPlace s m ([.ref a0, .int (rc_o a1)] : List Value).toArray below meth c 0 0 (MQ below (rc_QQ G post) ([.ref a0, .int (rc_o a1)] : List Value).toArray s 0 0 (rc_A G)) 2 G (rc_A G) 0 [(0, .ref a0), (1, .int (rc_o a1))] [] I := by
  unfold wX6_reelAtPlace at h
  refine rc_aload_n X dX6_reelAtPlace_0 rfl 0 rfl ?_
  refine rc_aload_n X dX6_reelAtPlace_1 rfl 0 rfl ?_
  refine rc_iload_n X dX6_reelAtPlace_2 rfl 1 rfl ?_
  refine rc_cVI (rest := [.ref a0]) X (mX6_numberAtPlace T0 h) gX6_reelAtPlace_X6_numberAtPlace rfl ⟨rfl, rfl⟩ dyX6_numberAtPlace ⟨Nat.le_of_ble_eq_true rfl, Nat.le_of_ble_eq_true rfl⟩ (rc_recv X T0.1 rfl) rfl rfl (Nat.le_of_ble_eq_true rfl) dX6_reelAtPlace_3 ⟨Nat.zero_le _, Nat.zero_le _⟩ (fun r2 I1 h => ?_)
  refine rc_cVQ (rest := []) X (mX6_reelNumbered T0 h) gX6_reelAtPlace_X6_reelNumbered rfl ⟨rfl, rfl⟩ dyX6_reelNumbered ⟨Nat.le_of_ble_eq_true rfl, Nat.le_of_ble_eq_true rfl⟩ (rc_recv X T0.1 rfl) rfl rfl (Nat.le_of_ble_eq_true rfl) dX6_reelAtPlace_6 ⟨Nat.zero_le _, Nat.zero_le _⟩ (fun r4 I3 h => ?_)
  exact rc_aret X hr r4 dX6_reelAtPlace_9 h
theorem mX6_reelAtPlace {l : Launch} {G : rc_G} {a0 : Nat} {a1 : Int} {I : rc_M} {post : Option Nat → rc_M → Prop} (T0 : kX6 G a0) (h : wX6_reelAtPlace G a0 a1 I post) : rc_CQ l yX6_reelAtPlace wsX6_reelAtPlace rmX6_reelAtPlace G [.ref a0, .int (rc_o a1)] I post :=
  rc_body (by decide +kernel) rfl rfl (Nat.le_of_ble_eq_true rfl) rfl (fun p e s m below meth c X hr => gX6_reelAtPlace_0 X hr T0 h)
/-! X6_clearingTime -/
abbrev rmX6_clearingTime : Room := { frames := 2, cells := 0, slots := 0, locals := 42 }
theorem dyX6_clearingTime : yX6_clearingTime.cls = RX6 ∧ yX6_clearingTime.cls ≠ "java/lang/invoke/MethodHandle" ∧ yX6_clearingTime.cls ≠ "java/lang/invoke/VarHandle" ∧ (parseMethodDescriptor yX6_clearingTime.desc).map (fun d => d.parameters.length) = some 1 := ⟨rfl, by decide +kernel, by decide +kernel, by decide +kernel⟩
theorem qX6_clearingTime_1 : Cond.fieldLink RX6 17 "ReelChanger$Stock" "settings" "[I" ∈ wsX6_clearingTime := List.mem_of_getElem? (i := 1) (by decide +kernel)
theorem nX6_clearingTime_X6 : ∀ w ∈ wsX60, w ∈ wsX6_clearingTime := fun w h => List.mem_cons_of_mem _ (List.mem_append_left _ (List.mem_append_right _ (h)))
theorem qX6_clearingTime_2 : Cond.fieldLink RX6 85 "ReelChanger$Reel" "length" "I" ∈ wsX6_clearingTime := List.mem_of_getElem? (i := 2) (by decide +kernel)
theorem nX6_clearingTime_X3 : ∀ w ∈ wsX30, w ∈ wsX6_clearingTime := fun w h => List.mem_cons_of_mem _ (List.mem_append_right _ (h))
def wX6_clearingTime (G : rc_G) (a0 : Nat) (a1 : Int) (I : rc_M) (post : Int → rc_M → Prop) : Prop :=
  wX6_reelAtPlace G a0 a1 I (fun r2 I1 => (r2 = none → post (I1 (a0 + 2) 3) I1) ∧ (∀ q3, r2 = some q3 → kX3 G q3 ∧ (rc_R (I1 (a0 + 2) 4) ∧ ((1 ≤ (I1 (a0 + 2) 4) → (0 ≤ (((I1 q3 0) + (I1 (a0 + 2) 4)) - 1) ∧ (((I1 q3 0) + (I1 (a0 + 2) 4)) - 1) < 2147483648) ∧ ((0 < (I1 (a0 + 2) 4) ∧ (I1 (a0 + 2) 4) < 2147483648) ∧ (post ((I1 (a0 + 2) 3) + ((((I1 q3 0) + (I1 (a0 + 2) 4)) - 1) / (I1 (a0 + 2) 4))) I1))) ∧ (¬ 1 ≤ (I1 (a0 + 2) 4) → post (I1 (a0 + 2) 3) I1)))))
set_option maxRecDepth 100000 in
set_option maxHeartbeats 4000000 in
theorem gX6_clearingTime_0 {p : Program} {l : Launch} {e : Env} {s : State} {m : MethodId} {below : List Frame} {meth : Method} {c : Code} {G : rc_G} {a0 : Nat} {a1 : Int} {I : rc_M} {post : Int → rc_M → Prop}  (X : rc_X p s m ([.ref a0, .int (rc_o a1)] : List Value).toArray meth c cX6_clearingTime 4 wsX6_clearingTime RX6 G (rc_A G)) (hr : meth.sig.returnType = some .int) (T0 : kX6 G a0)  (h : wX6_clearingTime G a0 a1 I post) : rc_g p l e rmX6_clearingTime s m ([.ref a0, .int (rc_o a1)] : List Value).toArray below meth c 0 0 (MQ below (rc_QI G post) ([.ref a0, .int (rc_o a1)] : List Value).toArray s 0 0 (rc_A G)) 4 G (rc_A G) 0 [(0, .ref a0), (1, .int (rc_o a1))] [] I := by
  unfold wX6_clearingTime at h
  refine rc_aload_n X dX6_clearingTime_0 rfl 0 rfl ?_
  refine rc_iload_n X dX6_clearingTime_1 rfl 1 rfl ?_
  refine rc_cVQ (rest := []) X (mX6_reelAtPlace T0 h) gX6_clearingTime_X6_reelAtPlace rfl ⟨rfl, rfl⟩ dyX6_reelAtPlace ⟨Nat.le_of_ble_eq_true rfl, Nat.le_of_ble_eq_true rfl⟩ (rc_recv X T0.1 rfl) rfl rfl (Nat.le_of_ble_eq_true rfl) dX6_clearingTime_2 ⟨Nat.zero_le _, Nat.zero_le _⟩ (fun r2 I1 h => ?_)
  rcases r2 with _ | q3
  · have h := h.1 rfl
    refine rc_qn ?_
    refine rc_astore_nN X [(2, .null), (0, .ref a0), (1, .int (rc_o a1))] dX6_clearingTime_5 rfl (by decide) rfl ?_
    refine rc_aload_n X dX6_clearingTime_6 rfl 1 rfl ?_
    refine gfX6_settings X T0.1 nX6_clearingTime_X6 qX6_clearingTime_1 dX6_clearingTime_7 ?_
    refine rc_iconst X dX6_clearingTime_10 ?_
    refine rc_iald X T0.2.2.1 (by decide) dX6_clearingTime_11 ⟨by decide, by decide⟩ ?_
    refine rc_istore_n X [(3, .int (rc_o (I1 (a0 + 2) 4))), (2, .null), (0, .ref a0), (1, .int (rc_o a1))] dX6_clearingTime_12 rfl (by decide) rfl ?_
    refine rc_aload_nN X dX6_clearingTime_13 rfl 1 rfl ?_
    refine rc_nuN X 22 dX6_clearingTime_14 (by decide) ?_
    refine rc_aload_n X dX6_clearingTime_22 rfl 2 rfl ?_
    refine gfX6_settings X T0.1 nX6_clearingTime_X6 qX6_clearingTime_1 dX6_clearingTime_23 ?_
    refine rc_iconst X dX6_clearingTime_26 ?_
    refine rc_iald X T0.2.2.1 (by decide) dX6_clearingTime_27 ⟨by decide, by decide⟩ ?_
    exact rc_iret X hr dX6_clearingTime_28 h
  · obtain ⟨Tq3, h⟩ := h.2 q3 rfl
    refine rc_qs ?_
    refine rc_astore_n X [(2, .ref q3), (0, .ref a0), (1, .int (rc_o a1))] dX6_clearingTime_5 rfl (by decide) rfl ?_
    refine rc_aload_n X dX6_clearingTime_6 rfl 1 rfl ?_
    refine gfX6_settings X T0.1 nX6_clearingTime_X6 qX6_clearingTime_1 dX6_clearingTime_7 ?_
    refine rc_iconst X dX6_clearingTime_10 ?_
    refine rc_iald X T0.2.2.1 (by decide) dX6_clearingTime_11 ⟨by decide, by decide⟩ ?_
    refine rc_istore_n X [(3, .int (rc_o (I1 (a0 + 2) 4))), (2, .ref q3), (0, .ref a0), (1, .int (rc_o a1))] dX6_clearingTime_12 rfl (by decide) rfl ?_
    refine rc_aload_n X dX6_clearingTime_13 rfl 1 rfl ?_
    refine rc_nu X dX6_clearingTime_14 ?_
    refine rc_iload_n X dX6_clearingTime_17 rfl 0 rfl ?_
    refine rc_iconst X dX6_clearingTime_18 ?_
    obtain ⟨c4, h⟩ := h
    refine rc_ic_ge X 29 dX6_clearingTime_19 (by decide) c4 ⟨by decide, by decide⟩ (fun c5 => ?_) (fun c5 => ?_)
    · have h := h.1 c5
      refine rc_aload_n X dX6_clearingTime_29 rfl 2 rfl ?_
      refine gfX6_settings X T0.1 nX6_clearingTime_X6 qX6_clearingTime_1 dX6_clearingTime_30 ?_
      refine rc_iconst X dX6_clearingTime_33 ?_
      refine rc_iald X T0.2.2.1 (by decide) dX6_clearingTime_34 ⟨by decide, by decide⟩ ?_
      refine rc_aload_n X dX6_clearingTime_35 rfl 1 rfl ?_
      refine gfX3_length X Tq3.1 nX6_clearingTime_X3 qX6_clearingTime_2 dX6_clearingTime_36 ?_
      refine rc_iload_n X dX6_clearingTime_39 rfl 0 rfl ?_
      refine rc_iadd X dX6_clearingTime_40 ?_
      refine rc_iconst X dX6_clearingTime_41 ?_
      refine rc_isub X dX6_clearingTime_42 ?_
      refine rc_iload_n X dX6_clearingTime_43 rfl 0 rfl ?_
      obtain ⟨c6, h⟩ := h
      obtain ⟨c7, h⟩ := h
      refine rc_idiv X dX6_clearingTime_44 c6 c7 ?_
      refine rc_iadd X dX6_clearingTime_45 ?_
      exact rc_iret X hr dX6_clearingTime_46 h
    · have h := h.2 c5
      refine rc_aload_n X dX6_clearingTime_22 rfl 2 rfl ?_
      refine gfX6_settings X T0.1 nX6_clearingTime_X6 qX6_clearingTime_1 dX6_clearingTime_23 ?_
      refine rc_iconst X dX6_clearingTime_26 ?_
      refine rc_iald X T0.2.2.1 (by decide) dX6_clearingTime_27 ⟨by decide, by decide⟩ ?_
      exact rc_iret X hr dX6_clearingTime_28 h
theorem mX6_clearingTime {l : Launch} {G : rc_G} {a0 : Nat} {a1 : Int} {I : rc_M} {post : Int → rc_M → Prop} (T0 : kX6 G a0) (h : wX6_clearingTime G a0 a1 I post) : rc_CI l yX6_clearingTime wsX6_clearingTime rmX6_clearingTime G [.ref a0, .int (rc_o a1)] I post :=
  rc_body (by decide +kernel) rfl rfl (Nat.le_of_ble_eq_true rfl) rfl (fun p e s m below meth c X hr => gX6_clearingTime_0 X hr T0 h)
/-! X6_copyFrom -/
abbrev rmX6_copyFrom : Room := { frames := 2, cells := 0, slots := 0, locals := 81 }
theorem dyX6_copyFrom : yX6_copyFrom.cls = RX6 ∧ yX6_copyFrom.cls ≠ "java/lang/invoke/MethodHandle" ∧ yX6_copyFrom.cls ≠ "java/lang/invoke/VarHandle" ∧ (parseMethodDescriptor yX6_copyFrom.desc).map (fun d => d.parameters.length) = some 1 := ⟨rfl, by decide +kernel, by decide +kernel, by decide +kernel⟩
theorem qX6_copyFrom_1 : Cond.fieldLink RX6 34 "ReelChanger$Stock" "reelCount" "I" ∈ wsX6_copyFrom := List.mem_of_getElem? (i := 1) (by decide +kernel)
theorem nX6_copyFrom_X6 : ∀ w ∈ wsX60, w ∈ wsX6_copyFrom := fun w h => List.mem_cons_of_mem _ (List.mem_append_left _ (List.mem_append_right _ (h)))
theorem qX6_copyFrom_3 : Cond.fieldLink RX6 17 "ReelChanger$Stock" "settings" "[I" ∈ wsX6_copyFrom := List.mem_of_getElem? (i := 3) (by decide +kernel)
theorem qX6_copyFrom_4 : Cond.methodLink RX6 28 arraycopyName ∈ wsX6_copyFrom := List.mem_of_getElem? (i := 4) (by decide +kernel)
theorem qX6_copyFrom_5 : Cond.native arraycopyName ∈ wsX6_copyFrom := List.mem_of_getElem? (i := 5) (by decide +kernel)
theorem qX6_copyFrom_6 : Cond.static arraycopyName ∈ wsX6_copyFrom := List.mem_of_getElem? (i := 6) (by decide +kernel)
theorem qX6_copyFrom_7 : Cond.initialized "java/lang/System" ∈ wsX6_copyFrom := List.mem_of_getElem? (i := 7) (by decide +kernel)
theorem qX6_copyFrom_8 : Cond.fieldLink RX6 21 "ReelChanger$Stock" "places" "[I" ∈ wsX6_copyFrom := List.mem_of_getElem? (i := 8) (by decide +kernel)
theorem qX6_copyFrom_9 : Cond.fieldLink RX6 42 "ReelChanger$Stock" "placeCount" "I" ∈ wsX6_copyFrom := List.mem_of_getElem? (i := 9) (by decide +kernel)
theorem qX6_copyFrom_2 : Cond.fieldLink RX6 13 "ReelChanger$Stock" "reels" "[LReelChanger$Reel;" ∈ wsX6_copyFrom := List.mem_of_getElem? (i := 2) (by decide +kernel)
def wX6_copyFrom_46 (G : rc_G) (post : rc_M → Prop) (a0 : Nat) (a1 : Nat) (k10 : Int → rc_M → Prop) (x2 : Int) (I : rc_M) : Prop :=
  k10 (x2 + 1) I
set_option maxRecDepth 100000 in
set_option maxHeartbeats 4000000 in
theorem gX6_copyFrom_46 {p : Program} {l : Launch} {e : Env} {s : State} {m : MethodId} {below : List Frame} {meth : Method} {c : Code} {G : rc_G} {a0 : Nat} {a1 : Nat} {I : rc_M} {post : rc_M → Prop} {k10 : Int → rc_M → Prop} {x2 : Int} (X : rc_X p s m ([.ref a0, .ref a1] : List Value).toArray meth c cX6_copyFrom 4 wsX6_copyFrom RX6 G (rc_A G)) (hr : meth.sig.returnType = none) (T0 : kX6 G a0) (T1 : kX6 G a1) (hk10 : ∀ (x2 : Int) (J : rc_M), k10 x2 J → rc_g p l e rmX6_copyFrom s m ([.ref a0, .ref a1] : List Value).toArray below meth c 0 0 (MQ below (rc_QV G post) ([.ref a0, .ref a1] : List Value).toArray s 0 0 (rc_A G)) 4 G (rc_A G) 10 [(0, .ref a0), (1, .ref a1), (2, .int (rc_o x2))] [] J)  (h : wX6_copyFrom_46 G post a0 a1 k10 x2 I) : rc_g p l e rmX6_copyFrom s m ([.ref a0, .ref a1] : List Value).toArray below meth c 0 0 (MQ below (rc_QV G post) ([.ref a0, .ref a1] : List Value).toArray s 0 0 (rc_A G)) 4 G (rc_A G) 46 [(0, .ref a0), (1, .ref a1), (2, .int (rc_o x2))] [] I := by
  unfold wX6_copyFrom_46 at h
  refine rc_iinc X [(2, .int (rc_o (x2 + 1))), (0, .ref a0), (1, .ref a1)] dX6_copyFrom_46 2 rfl (by decide) rfl ?_
  refine rc_goto X 10 dX6_copyFrom_49 (by decide) ?_
  refine rc_subl [(0, .ref a0), (1, .ref a1), (2, .int (rc_o (x2 + 1)))] [1, 2, 0] rfl ?_
  exact hk10 _ _ h
def wX6_copyFrom_10 (G : rc_G) (post : rc_M → Prop) (a0 : Nat) (a1 : Nat) (k10 : Int → rc_M → Prop) (x2 : Int) (I : rc_M) : Prop :=
  rc_R x2 ∧ ((10 ≤ x2 → ((0 : Int) ≤ 0 ∧ (0 : Int) ≤ 0 ∧ (0 : Int) ≤ 8 ∧ (0 + 8 : Int) ≤ 8 ∧ (0 + 8 : Int) ≤ 8) ∧ (∀ I5, I5 = rc_cpy I (a1 + 2) (a0 + 2) 0 0 8 → wX6_takeProgram G a0 (a1 + 3) (I5 a1 1) I5 (fun I6 => post I6))) ∧ (¬ 10 ≤ x2 → (0 ≤ x2 ∧ x2 < 10) ∧ ((0 ≤ x2 ∧ x2 < 10) ∧ ((0 ≤ x2 ∧ x2 < 10) ∧ (wX3_copyFrom G (a0 + 1 + 3 + 3 * (x2).toNat) (a1 + 1 + 3 + 3 * (x2).toNat) I (fun I10 => wX6_copyFrom_46 G post a0 a1 k10 x2 I10))))))
set_option maxRecDepth 100000 in
set_option maxHeartbeats 4000000 in
theorem gX6_copyFrom_10 {p : Program} {l : Launch} {e : Env} {s : State} {m : MethodId} {below : List Frame} {meth : Method} {c : Code} {G : rc_G} {a0 : Nat} {a1 : Nat} {I : rc_M} {post : rc_M → Prop} {k10 : Int → rc_M → Prop} {x2 : Int} (X : rc_X p s m ([.ref a0, .ref a1] : List Value).toArray meth c cX6_copyFrom 4 wsX6_copyFrom RX6 G (rc_A G)) (hr : meth.sig.returnType = none) (T0 : kX6 G a0) (T1 : kX6 G a1) (hk10 : ∀ (x2 : Int) (J : rc_M), k10 x2 J → rc_g p l e rmX6_copyFrom s m ([.ref a0, .ref a1] : List Value).toArray below meth c 0 0 (MQ below (rc_QV G post) ([.ref a0, .ref a1] : List Value).toArray s 0 0 (rc_A G)) 4 G (rc_A G) 10 [(0, .ref a0), (1, .ref a1), (2, .int (rc_o x2))] [] J)  (h : wX6_copyFrom_10 G post a0 a1 k10 x2 I) : rc_g p l e rmX6_copyFrom s m ([.ref a0, .ref a1] : List Value).toArray below meth c 0 0 (MQ below (rc_QV G post) ([.ref a0, .ref a1] : List Value).toArray s 0 0 (rc_A G)) 4 G (rc_A G) 10 [(0, .ref a0), (1, .ref a1), (2, .int (rc_o x2))] [] I := by
  unfold wX6_copyFrom_10 at h
  refine rc_iload_n X dX6_copyFrom_10 rfl 2 rfl ?_
  refine rc_bipush X dX6_copyFrom_11 (rc_b8 _ ⟨by decide, by decide⟩) ?_
  obtain ⟨c2, h⟩ := h
  refine rc_ic_ge X 52 dX6_copyFrom_13 (by decide) c2 ⟨by decide, by decide⟩ (fun c3 => ?_) (fun c3 => ?_)
  · have h := h.1 c3
    refine rc_aload_n X dX6_copyFrom_52 rfl 1 rfl ?_
    refine gfX6_settings X T1.1 nX6_copyFrom_X6 qX6_copyFrom_3 dX6_copyFrom_53 ?_
    refine rc_iconst X dX6_copyFrom_56 ?_
    refine rc_aload_n X dX6_copyFrom_57 rfl 0 rfl ?_
    refine gfX6_settings X T0.1 nX6_copyFrom_X6 qX6_copyFrom_3 dX6_copyFrom_58 ?_
    refine rc_iconst X dX6_copyFrom_61 ?_
    refine rc_bipush X dX6_copyFrom_62 (rc_b8 _ ⟨by decide, by decide⟩) ?_
    obtain ⟨c4, h⟩ := h
    refine rc_acopy X T1.2.2.1 T0.2.2.1 (by decide) (by decide) qX6_copyFrom_4 qX6_copyFrom_5 qX6_copyFrom_6 qX6_copyFrom_7 (Nat.le_of_ble_eq_true rfl) (by decide +kernel) dX6_copyFrom_64 c4.1 c4.2.1 c4.2.2.1 c4.2.2.2.1 c4.2.2.2.2 (fun I5 e5 => ?_)
    have h := h I5 e5
    refine rc_aload_n X dX6_copyFrom_67 rfl 0 rfl ?_
    refine rc_aload_n X dX6_copyFrom_68 rfl 1 rfl ?_
    refine gfX6_places X T1.1 nX6_copyFrom_X6 qX6_copyFrom_8 dX6_copyFrom_69 ?_
    refine rc_aload_n X dX6_copyFrom_72 rfl 1 rfl ?_
    refine gfX6_placeCount X T1.1 nX6_copyFrom_X6 qX6_copyFrom_9 dX6_copyFrom_73 ?_
    refine rc_cVV (rest := []) X (mX6_takeProgram T0 T1.2.2.2.1 h) gX6_copyFrom_X6_takeProgram rfl ⟨rfl, rfl⟩ dyX6_takeProgram ⟨Nat.le_of_ble_eq_true rfl, Nat.le_of_ble_eq_true rfl⟩ (rc_recv X T0.1 rfl) rfl rfl (Nat.le_of_ble_eq_true rfl) dX6_copyFrom_76 ⟨Nat.zero_le _, Nat.zero_le _⟩ (fun I6 h => ?_)
    exact rc_vret X hr dX6_copyFrom_79 h
  · have h := h.2 c3
    refine rc_aload_n X dX6_copyFrom_16 rfl 1 rfl ?_
    refine gfX6_reels X T1.1 nX6_copyFrom_X6 qX6_copyFrom_2 dX6_copyFrom_17 ?_
    refine rc_iload_n X dX6_copyFrom_20 rfl 2 rfl ?_
    obtain ⟨c7, h⟩ := h
    refine rc_reld X T1.2.1 dX6_copyFrom_21 c7 ?_
    refine rc_astore_n X [(3, .ref (a1 + 1 + 3 + 3 * (x2).toNat)), (0, .ref a0), (1, .ref a1), (2, .int (rc_o x2))] dX6_copyFrom_22 rfl (by decide) rfl ?_
    refine rc_aload_n X dX6_copyFrom_23 rfl 1 rfl ?_
    refine gfX6_reels X T0.1 nX6_copyFrom_X6 qX6_copyFrom_2 dX6_copyFrom_24 ?_
    refine rc_iload_n X dX6_copyFrom_27 rfl 3 rfl ?_
    obtain ⟨c8, h⟩ := h
    refine rc_reld X T0.2.1 dX6_copyFrom_28 c8 ?_
    refine rc_nu X dX6_copyFrom_29 ?_
    refine rc_aload_n X dX6_copyFrom_32 rfl 0 rfl ?_
    refine rc_nu X dX6_copyFrom_33 ?_
    refine rc_aload_n X dX6_copyFrom_36 rfl 1 rfl ?_
    refine gfX6_reels X T0.1 nX6_copyFrom_X6 qX6_copyFrom_2 dX6_copyFrom_37 ?_
    refine rc_iload_n X dX6_copyFrom_40 rfl 3 rfl ?_
    obtain ⟨c9, h⟩ := h
    refine rc_reld X T0.2.1 dX6_copyFrom_41 c9 ?_
    refine rc_aload_n X dX6_copyFrom_42 rfl 0 rfl ?_
    refine rc_cVV (rest := []) X (mX3_copyFrom (T0.2.2.2.2 _ (rc_tn c9)) (T1.2.2.2.2 _ (rc_tn c7)) h) gX6_copyFrom_X3_copyFrom rfl ⟨rfl, rfl⟩ dyX3_copyFrom ⟨Nat.le_of_ble_eq_true rfl, Nat.le_of_ble_eq_true rfl⟩ (rc_recv X (T0.2.2.2.2 _ (rc_tn c9)).1 rfl) rfl rfl (Nat.le_of_ble_eq_true rfl) dX6_copyFrom_43 ⟨Nat.zero_le _, Nat.zero_le _⟩ (fun I10 h => ?_)
    refine rc_subl [(0, .ref a0), (1, .ref a1), (2, .int (rc_o x2))] [1, 2, 3] rfl ?_
    exact gX6_copyFrom_46 X hr T0 T1 hk10  h
noncomputable def rX6_copyFrom_10 (G : rc_G) (post : rc_M → Prop) (a0 : Nat) (a1 : Nat)  (n : Nat) : Int → rc_M → Prop :=
  Nat.rec (motive := fun _ => Int → rc_M → Prop) (fun _ _ => False) (fun _ ih => wX6_copyFrom_10 G post a0 a1  ih) n
set_option maxRecDepth 100000 in
set_option maxHeartbeats 4000000 in
theorem sX6_copyFrom_10 {p : Program} {l : Launch} {e : Env} {s : State} {m : MethodId} {below : List Frame} {meth : Method} {c : Code} {G : rc_G} {a0 : Nat} {a1 : Nat} {I : rc_M} {post : rc_M → Prop}  {n : Nat} {x2 : Int} (X : rc_X p s m ([.ref a0, .ref a1] : List Value).toArray meth c cX6_copyFrom 4 wsX6_copyFrom RX6 G (rc_A G)) (hr : meth.sig.returnType = none) (T0 : kX6 G a0) (T1 : kX6 G a1)  (h : rX6_copyFrom_10 G post a0 a1  n x2 I) : rc_g p l e rmX6_copyFrom s m ([.ref a0, .ref a1] : List Value).toArray below meth c 0 0 (MQ below (rc_QV G post) ([.ref a0, .ref a1] : List Value).toArray s 0 0 (rc_A G)) 4 G (rc_A G) 10 [(0, .ref a0), (1, .ref a1), (2, .int (rc_o x2))] [] I := by
  induction n generalizing x2 I with
  | zero => exact h.elim
  | succ n ih => exact gX6_copyFrom_10 (k10 := rX6_copyFrom_10 G post a0 a1  n) X hr T0 T1  (fun x2 J h2 => ih h2) h
def wX6_copyFrom (G : rc_G) (a0 : Nat) (a1 : Nat) (I : rc_M) (post : rc_M → Prop) : Prop :=
  ∀ I1, I1 = rc_s I a0 0 (I a1 0) → ∃ n, rX6_copyFrom_10 G post a0 a1  n 0 I1
set_option maxRecDepth 100000 in
set_option maxHeartbeats 4000000 in
theorem gX6_copyFrom_0 {p : Program} {l : Launch} {e : Env} {s : State} {m : MethodId} {below : List Frame} {meth : Method} {c : Code} {G : rc_G} {a0 : Nat} {a1 : Nat} {I : rc_M} {post : rc_M → Prop}  (X : rc_X p s m ([.ref a0, .ref a1] : List Value).toArray meth c cX6_copyFrom 4 wsX6_copyFrom RX6 G (rc_A G)) (hr : meth.sig.returnType = none) (T0 : kX6 G a0) (T1 : kX6 G a1)  (h : wX6_copyFrom G a0 a1 I post) : rc_g p l e rmX6_copyFrom s m ([.ref a0, .ref a1] : List Value).toArray below meth c 0 0 (MQ below (rc_QV G post) ([.ref a0, .ref a1] : List Value).toArray s 0 0 (rc_A G)) 4 G (rc_A G) 0 [(0, .ref a0), (1, .ref a1)] [] I := by
  unfold wX6_copyFrom at h
  refine rc_aload_n X dX6_copyFrom_0 rfl 0 rfl ?_
  refine rc_aload_n X dX6_copyFrom_1 rfl 1 rfl ?_
  refine gfX6_reelCount X T1.1 nX6_copyFrom_X6 qX6_copyFrom_1 dX6_copyFrom_2 ?_
  refine pfX6_reelCount X T0.1 nX6_copyFrom_X6 qX6_copyFrom_1 dX6_copyFrom_5 (fun I1 e1 => ?_)
  have h := h I1 e1
  refine rc_iconst X dX6_copyFrom_8 ?_
  refine rc_istore_n X [(2, .int (rc_o 0)), (0, .ref a0), (1, .ref a1)] dX6_copyFrom_9 rfl (by decide) rfl ?_
  refine rc_subl [(0, .ref a0), (1, .ref a1), (2, .int (rc_o 0))] [1, 2, 0] rfl ?_
  obtain ⟨n, h⟩ := h
  exact sX6_copyFrom_10 X hr T0 T1  h
theorem mX6_copyFrom {l : Launch} {G : rc_G} {a0 : Nat} {a1 : Nat} {I : rc_M} {post : rc_M → Prop} (T0 : kX6 G a0) (T1 : kX6 G a1) (h : wX6_copyFrom G a0 a1 I post) : rc_CV l yX6_copyFrom wsX6_copyFrom rmX6_copyFrom G [.ref a0, .ref a1] I post :=
  rc_body (by decide +kernel) rfl rfl (Nat.le_of_ble_eq_true rfl) rfl (fun p e s m below meth c X hr => gX6_copyFrom_0 X hr T0 T1 h)
