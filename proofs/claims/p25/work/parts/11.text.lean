/-! X1_add -/
abbrev rmX1_add : Room := { frames := 0, cells := 0, slots := 0, locals := 0 }
theorem dyX1_add : yX1_add.cls = RX1 ∧ yX1_add.cls ≠ "java/lang/invoke/MethodHandle" ∧ yX1_add.cls ≠ "java/lang/invoke/VarHandle" ∧ (parseMethodDescriptor yX1_add.desc).map (fun d => d.parameters.length) = some 1 := ⟨rfl, by decide +kernel, by decide +kernel, by decide +kernel⟩
theorem qX1_add_1 : Cond.fieldLink RX1 23 "ReelChanger$ProgramText" "length" "I" ∈ wsX1_add := List.mem_of_getElem? (i := 1) (by decide +kernel)
theorem nX1_add_X1 : ∀ w ∈ wsX10, w ∈ wsX1_add := fun w h => List.mem_cons_of_mem _ (List.mem_append_right _ (h))
theorem qX1_add_3 : Cond.fieldLink RX1 17 "ReelChanger$ProgramText" "letters" "[I" ∈ wsX1_add := List.mem_of_getElem? (i := 3) (by decide +kernel)
theorem qX1_add_2 : Cond.constant RX1 27 (-100004) ∈ wsX1_add := List.mem_of_getElem? (i := 2) (by decide +kernel)
def wX1_add (G : rc_G) (a0 : Nat) (a1 : Int) (I : rc_M) (post : Int → rc_M → Prop) : Prop :=
  rc_R (I a0 2) ∧ (((I a0 2) < 60 → (0 ≤ I a0 2 ∧ I a0 2 < 60) ∧ (∀ I4, I4 = rc_s I (a0 + 2) (I a0 2) a1 → ∀ I5, I5 = rc_s I4 a0 2 ((I4 a0 2) + 1) → post (I5 a0 2) I5)) ∧ (¬ (I a0 2) < 60 → post (-100004) I))
set_option maxRecDepth 100000 in
set_option maxHeartbeats 4000000 in
theorem gX1_add_0 {p : Program} {l : Launch} {e : Env} {s : State} {m : MethodId} {below : List Frame} {meth : Method} {c : Code} {G : rc_G} {a0 : Nat} {a1 : Int} {I : rc_M} {post : Int → rc_M → Prop}  (X : rc_X p s m ([.ref a0, .int (rc_o a1)] : List Value).toArray meth c cX1_add 2 wsX1_add RX1 G (rc_A G)) (hr : meth.sig.returnType = some .int) (T0 : kX1 G a0)  (h : wX1_add G a0 a1 I post) : rc_g p l e rmX1_add s m ([.ref a0, .int (rc_o a1)] : List Value).toArray below meth c 0 0 (MQ below (rc_QI G post) ([.ref a0, .int (rc_o a1)] : List Value).toArray s 0 0 (rc_A G)) 2 G (rc_A G) 0 [(0, .ref a0), (1, .int (rc_o a1))] [] I := by
  unfold wX1_add at h
  refine rc_aload_n X dX1_add_0 rfl 0 rfl ?_
  refine gfX1_length X T0.1 nX1_add_X1 qX1_add_1 dX1_add_1 ?_
  refine rc_bipush X dX1_add_4 (rc_b8 _ ⟨by decide, by decide⟩) ?_
  obtain ⟨c1, h⟩ := h
  refine rc_ic_lt X 12 dX1_add_6 (by decide) c1 ⟨by decide, by decide⟩ (fun c2 => ?_) (fun c2 => ?_)
  · have h := h.1 c2
    refine rc_aload_n X dX1_add_12 rfl 0 rfl ?_
    refine gfX1_letters X T0.1 nX1_add_X1 qX1_add_3 dX1_add_13 ?_
    refine rc_aload_n X dX1_add_16 rfl 0 rfl ?_
    refine gfX1_length X T0.1 nX1_add_X1 qX1_add_1 dX1_add_17 ?_
    refine rc_iload_n X dX1_add_20 rfl 1 rfl ?_
    obtain ⟨c3, h⟩ := h
    refine rc_iast X T0.2.2.1 (by decide) dX1_add_21 c3 (fun I4 e4 => ?_)
    have h := h I4 e4
    refine rc_aload_n X dX1_add_22 rfl 0 rfl ?_
    refine rc_dup X dX1_add_23 rfl ?_
    refine gfX1_length X T0.1 nX1_add_X1 qX1_add_1 dX1_add_24 ?_
    refine rc_iconst X dX1_add_27 ?_
    refine rc_iadd X dX1_add_28 ?_
    refine pfX1_length X T0.1 nX1_add_X1 qX1_add_1 dX1_add_29 (fun I5 e5 => ?_)
    have h := h I5 e5
    refine rc_aload_n X dX1_add_32 rfl 0 rfl ?_
    refine gfX1_length X T0.1 nX1_add_X1 qX1_add_1 dX1_add_33 ?_
    exact rc_iret X hr dX1_add_36 h
  · have h := h.2 c2
    refine rc_ldc (n := (-100004)) X qX1_add_2 (by decide +kernel) dX1_add_9 ?_
    exact rc_iret X hr dX1_add_11 h
theorem mX1_add {l : Launch} {G : rc_G} {a0 : Nat} {a1 : Int} {I : rc_M} {post : Int → rc_M → Prop} (T0 : kX1 G a0) (h : wX1_add G a0 a1 I post) : rc_CI l yX1_add wsX1_add rmX1_add G [.ref a0, .int (rc_o a1)] I post :=
  rc_body (by decide +kernel) rfl rfl (Nat.le_of_ble_eq_true rfl) rfl (fun p e s m below meth c X hr => gX1_add_0 X hr T0 h)
/-! X1_standingBehind -/
abbrev rmX1_standingBehind : Room := { frames := 0, cells := 0, slots := 0, locals := 0 }
theorem dyX1_standingBehind : yX1_standingBehind.cls = RX1 ∧ yX1_standingBehind.cls ≠ "java/lang/invoke/MethodHandle" ∧ yX1_standingBehind.cls ≠ "java/lang/invoke/VarHandle" ∧ (parseMethodDescriptor yX1_standingBehind.desc).map (fun d => d.parameters.length) = some 2 := ⟨rfl, by decide +kernel, by decide +kernel, by decide +kernel⟩
theorem qX1_standingBehind_1 : Cond.fieldLink RX1 31 "ReelChanger$ProgramText" "standing" "I" ∈ wsX1_standingBehind := List.mem_of_getElem? (i := 1) (by decide +kernel)
theorem nX1_standingBehind_X1 : ∀ w ∈ wsX10, w ∈ wsX1_standingBehind := fun w h => List.mem_cons_of_mem _ (List.mem_append_right _ (h))
theorem qX1_standingBehind_3 : Cond.fieldLink RX1 28 "ReelChanger$ProgramText" "depth" "I" ∈ wsX1_standingBehind := List.mem_of_getElem? (i := 3) (by decide +kernel)
theorem qX1_standingBehind_2 : Cond.constant RX1 38 (-100005) ∈ wsX1_standingBehind := List.mem_of_getElem? (i := 2) (by decide +kernel)
def wX1_standingBehind_54 (G : rc_G) (post : Int → rc_M → Prop) (a0 : Nat) (a1 : Int) (a2 : Int)   (I : rc_M) : Prop :=
  rc_R a1 ∧ ((a1 = 40 → rc_R (I a0 0) ∧ ((3 ≤ (I a0 0) → post (-100005) I) ∧ (¬ 3 ≤ (I a0 0) → post 0 I))) ∧ (a1 = 41 → rc_R (I a0 0) ∧ (((I a0 0) ≤ 0 → post (-100005) I) ∧ (¬ (I a0 0) ≤ 0 → rc_R (I a0 3) ∧ (((I a0 3) = 0 → post (-100005) I) ∧ (¬ (I a0 3) = 0 → post 2 I))))) ∧ (a1 = 120 → rc_R (I a0 3) ∧ ((¬ (I a0 3) = 2 → post (-100005) I) ∧ ((I a0 3) = 2 → post 3 I))) ∧ (¬ a1 = 40 → ¬ a1 = 41 → ¬ a1 = 120 → post (-100005) I))
set_option maxRecDepth 100000 in
set_option maxHeartbeats 4000000 in
theorem gX1_standingBehind_54 {p : Program} {l : Launch} {e : Env} {s : State} {m : MethodId} {below : List Frame} {meth : Method} {c : Code} {G : rc_G} {a0 : Nat} {a1 : Int} {a2 : Int} {I : rc_M} {post : Int → rc_M → Prop}   (X : rc_X p s m ([.ref a0, .int (rc_o a1), .int (rc_o a2)] : List Value).toArray meth c cX1_standingBehind 3 wsX1_standingBehind RX1 G (rc_A G)) (hr : meth.sig.returnType = some .int) (T0 : kX1 G a0)   (h : wX1_standingBehind_54 G post a0 a1 a2   I) : rc_g p l e rmX1_standingBehind s m ([.ref a0, .int (rc_o a1), .int (rc_o a2)] : List Value).toArray below meth c 0 0 (MQ below (rc_QI G post) ([.ref a0, .int (rc_o a1), .int (rc_o a2)] : List Value).toArray s 0 0 (rc_A G)) 3 G (rc_A G) 54 [(0, .ref a0), (1, .int (rc_o a1))] [] I := by
  unfold wX1_standingBehind_54 at h
  refine rc_iload_n X dX1_standingBehind_54 rfl 1 rfl ?_
  obtain ⟨c5, h⟩ := h
  by_cases c14 : a1 = 40
  · have h := h.1 c14
    refine rc_look X (off := 33) 88 dX1_standingBehind_55 rfl c5 (by rw [c14]; rfl) (by decide) ?_
    refine rc_aload_n X dX1_standingBehind_88 rfl 0 rfl ?_
    refine gfX1_depth X T0.1 nX1_standingBehind_X1 qX1_standingBehind_3 dX1_standingBehind_89 ?_
    refine rc_iconst X dX1_standingBehind_92 ?_
    obtain ⟨c6, h⟩ := h
    refine rc_ic_ge X 100 dX1_standingBehind_93 (by decide) c6 ⟨by decide, by decide⟩ (fun c7 => ?_) (fun c7 => ?_)
    · have h := h.1 c7
      refine rc_ldc (n := (-100005)) X qX1_standingBehind_2 (by decide +kernel) dX1_standingBehind_100 ?_
      exact rc_iret X hr dX1_standingBehind_102 h
    · have h := h.2 c7
      refine rc_iconst X dX1_standingBehind_96 ?_
      refine rc_goto X 102 dX1_standingBehind_97 (by decide) ?_
      exact rc_iret X hr dX1_standingBehind_102 h
  by_cases c15 : a1 = 41
  · have h := h.2.1 c15
    refine rc_look X (off := 48) 103 dX1_standingBehind_55 rfl c5 (by rw [c15]; rfl) (by decide) ?_
    refine rc_aload_n X dX1_standingBehind_103 rfl 0 rfl ?_
    refine gfX1_depth X T0.1 nX1_standingBehind_X1 qX1_standingBehind_3 dX1_standingBehind_104 ?_
    obtain ⟨c8, h⟩ := h
    refine rc_if_le X 121 dX1_standingBehind_107 (by decide) c8 (fun c9 => ?_) (fun c9 => ?_)
    · have h := h.1 c9
      refine rc_ldc (n := (-100005)) X qX1_standingBehind_2 (by decide +kernel) dX1_standingBehind_121 ?_
      exact rc_iret X hr dX1_standingBehind_123 h
    · have h := h.2 c9
      refine rc_aload_n X dX1_standingBehind_110 rfl 0 rfl ?_
      refine gfX1_standing X T0.1 nX1_standingBehind_X1 qX1_standingBehind_1 dX1_standingBehind_111 ?_
      obtain ⟨c10, h⟩ := h
      refine rc_if_eq X 121 dX1_standingBehind_114 (by decide) c10 (fun c11 => ?_) (fun c11 => ?_)
      · have h := h.1 c11
        refine rc_ldc (n := (-100005)) X qX1_standingBehind_2 (by decide +kernel) dX1_standingBehind_121 ?_
        exact rc_iret X hr dX1_standingBehind_123 h
      · have h := h.2 c11
        refine rc_iconst X dX1_standingBehind_117 ?_
        refine rc_goto X 123 dX1_standingBehind_118 (by decide) ?_
        exact rc_iret X hr dX1_standingBehind_123 h
  by_cases c16 : a1 = 120
  · have h := h.2.2.1 c16
    refine rc_look X (off := 69) 124 dX1_standingBehind_55 rfl c5 (by rw [c16]; rfl) (by decide) ?_
    refine rc_aload_n X dX1_standingBehind_124 rfl 0 rfl ?_
    refine gfX1_standing X T0.1 nX1_standingBehind_X1 qX1_standingBehind_1 dX1_standingBehind_125 ?_
    refine rc_iconst X dX1_standingBehind_128 ?_
    obtain ⟨c12, h⟩ := h
    refine rc_ic_ne X 136 dX1_standingBehind_129 (by decide) c12 ⟨by decide, by decide⟩ (fun c13 => ?_) (fun c13 => ?_)
    · have h := h.1 c13
      refine rc_ldc (n := (-100005)) X qX1_standingBehind_2 (by decide +kernel) dX1_standingBehind_136 ?_
      exact rc_iret X hr dX1_standingBehind_138 h
    · have h := h.2 c13
      refine rc_iconst X dX1_standingBehind_132 ?_
      refine rc_goto X 138 dX1_standingBehind_133 (by decide) ?_
      exact rc_iret X hr dX1_standingBehind_138 h
  have h := h.2.2.2 c14 c15 c16
  refine rc_look X (off := 84) 139 dX1_standingBehind_55 rfl c5 (by simp only [Op.lookupswitch.offset_cons, Op.lookupswitch.offset]; (repeat' split) <;> omega) (by decide) ?_
  refine rc_ldc (n := (-100005)) X qX1_standingBehind_2 (by decide +kernel) dX1_standingBehind_139 ?_
  exact rc_iret X hr dX1_standingBehind_141 h
def wX1_standingBehind (G : rc_G) (a0 : Nat) (a1 : Int) (a2 : Int) (I : rc_M) (post : Int → rc_M → Prop) : Prop :=
  rc_R (I a0 3) ∧ ((¬ (I a0 3) = 3 → rc_R a1 ∧ ((a1 < 48 → wX1_standingBehind_54 G post a0 a1 a2   I) ∧ (¬ a1 < 48 → rc_R a1 ∧ ((57 < a1 → wX1_standingBehind_54 G post a0 a1 a2   I) ∧ (¬ 57 < a1 → rc_R (a1 - 48) ∧ (rc_R a2 ∧ ((a2 ≤ (a1 - 48) → post (-100005) I) ∧ (¬ a2 ≤ (a1 - 48) → post 1 I)))))))) ∧ ((I a0 3) = 3 → rc_R a1 ∧ ((a1 < 50 → post (-100005) I) ∧ (¬ a1 < 50 → rc_R a1 ∧ ((57 < a1 → post (-100005) I) ∧ (¬ 57 < a1 → post 1 I))))))
set_option maxRecDepth 100000 in
set_option maxHeartbeats 4000000 in
theorem gX1_standingBehind_0 {p : Program} {l : Launch} {e : Env} {s : State} {m : MethodId} {below : List Frame} {meth : Method} {c : Code} {G : rc_G} {a0 : Nat} {a1 : Int} {a2 : Int} {I : rc_M} {post : Int → rc_M → Prop}  (X : rc_X p s m ([.ref a0, .int (rc_o a1), .int (rc_o a2)] : List Value).toArray meth c cX1_standingBehind 3 wsX1_standingBehind RX1 G (rc_A G)) (hr : meth.sig.returnType = some .int) (T0 : kX1 G a0)  (h : wX1_standingBehind G a0 a1 a2 I post) : rc_g p l e rmX1_standingBehind s m ([.ref a0, .int (rc_o a1), .int (rc_o a2)] : List Value).toArray below meth c 0 0 (MQ below (rc_QI G post) ([.ref a0, .int (rc_o a1), .int (rc_o a2)] : List Value).toArray s 0 0 (rc_A G)) 3 G (rc_A G) 0 [(0, .ref a0), (1, .int (rc_o a1)), (2, .int (rc_o a2))] [] I := by
  unfold wX1_standingBehind at h
  refine rc_aload_n X dX1_standingBehind_0 rfl 0 rfl ?_
  refine gfX1_standing X T0.1 nX1_standingBehind_X1 qX1_standingBehind_1 dX1_standingBehind_1 ?_
  refine rc_iconst X dX1_standingBehind_4 ?_
  obtain ⟨c1, h⟩ := h
  refine rc_ic_ne X 27 dX1_standingBehind_5 (by decide) c1 ⟨by decide, by decide⟩ (fun c2 => ?_) (fun c2 => ?_)
  · have h := h.1 c2
    refine rc_iload_n X dX1_standingBehind_27 rfl 1 rfl ?_
    refine rc_bipush X dX1_standingBehind_28 (rc_b8 _ ⟨by decide, by decide⟩) ?_
    obtain ⟨c3, h⟩ := h
    refine rc_ic_lt X 54 dX1_standingBehind_30 (by decide) c3 ⟨by decide, by decide⟩ (fun c4 => ?_) (fun c4 => ?_)
    · have h := h.1 c4
      refine rc_subl [(0, .ref a0), (1, .int (rc_o a1))] [0, 1] rfl ?_
      exact gX1_standingBehind_54 X hr T0   h
    · have h := h.2 c4
      refine rc_iload_n X dX1_standingBehind_33 rfl 1 rfl ?_
      refine rc_bipush X dX1_standingBehind_34 (rc_b8 _ ⟨by decide, by decide⟩) ?_
      obtain ⟨c17, h⟩ := h
      refine rc_ic_gt X 54 dX1_standingBehind_36 (by decide) c17 ⟨by decide, by decide⟩ (fun c18 => ?_) (fun c18 => ?_)
      · have h := h.1 c18
        refine rc_subl [(0, .ref a0), (1, .int (rc_o a1))] [0, 1] rfl ?_
        exact gX1_standingBehind_54 X hr T0   h
      · have h := h.2 c18
        refine rc_iload_n X dX1_standingBehind_39 rfl 1 rfl ?_
        refine rc_bipush X dX1_standingBehind_40 (rc_b8 _ ⟨by decide, by decide⟩) ?_
        refine rc_isub X dX1_standingBehind_42 ?_
        refine rc_iload_n X dX1_standingBehind_43 rfl 2 rfl ?_
        obtain ⟨c19, h⟩ := h
        obtain ⟨c20, h⟩ := h
        refine rc_ic_ge X 51 dX1_standingBehind_44 (by decide) c19 c20 (fun c21 => ?_) (fun c21 => ?_)
        · have h := h.1 c21
          refine rc_ldc (n := (-100005)) X qX1_standingBehind_2 (by decide +kernel) dX1_standingBehind_51 ?_
          exact rc_iret X hr dX1_standingBehind_53 h
        · have h := h.2 c21
          refine rc_iconst X dX1_standingBehind_47 ?_
          refine rc_goto X 53 dX1_standingBehind_48 (by decide) ?_
          exact rc_iret X hr dX1_standingBehind_53 h
  · have h := h.2 c2
    refine rc_iload_n X dX1_standingBehind_8 rfl 1 rfl ?_
    refine rc_bipush X dX1_standingBehind_9 (rc_b8 _ ⟨by decide, by decide⟩) ?_
    obtain ⟨c22, h⟩ := h
    refine rc_ic_lt X 24 dX1_standingBehind_11 (by decide) c22 ⟨by decide, by decide⟩ (fun c23 => ?_) (fun c23 => ?_)
    · have h := h.1 c23
      refine rc_ldc (n := (-100005)) X qX1_standingBehind_2 (by decide +kernel) dX1_standingBehind_24 ?_
      exact rc_iret X hr dX1_standingBehind_26 h
    · have h := h.2 c23
      refine rc_iload_n X dX1_standingBehind_14 rfl 1 rfl ?_
      refine rc_bipush X dX1_standingBehind_15 (rc_b8 _ ⟨by decide, by decide⟩) ?_
      obtain ⟨c24, h⟩ := h
      refine rc_ic_gt X 24 dX1_standingBehind_17 (by decide) c24 ⟨by decide, by decide⟩ (fun c25 => ?_) (fun c25 => ?_)
      · have h := h.1 c25
        refine rc_ldc (n := (-100005)) X qX1_standingBehind_2 (by decide +kernel) dX1_standingBehind_24 ?_
        exact rc_iret X hr dX1_standingBehind_26 h
      · have h := h.2 c25
        refine rc_iconst X dX1_standingBehind_20 ?_
        refine rc_goto X 26 dX1_standingBehind_21 (by decide) ?_
        exact rc_iret X hr dX1_standingBehind_26 h
theorem mX1_standingBehind {l : Launch} {G : rc_G} {a0 : Nat} {a1 : Int} {a2 : Int} {I : rc_M} {post : Int → rc_M → Prop} (T0 : kX1 G a0) (h : wX1_standingBehind G a0 a1 a2 I post) : rc_CI l yX1_standingBehind wsX1_standingBehind rmX1_standingBehind G [.ref a0, .int (rc_o a1), .int (rc_o a2)] I post :=
  rc_body (by decide +kernel) rfl rfl (Nat.le_of_ble_eq_true rfl) rfl (fun p e s m below meth c X hr => gX1_standingBehind_0 X hr T0 h)
/-! X1_depthChange -/
abbrev rmX1_depthChange : Room := { frames := 0, cells := 0, slots := 0, locals := 0 }
theorem dyX1_depthChange : yX1_depthChange.cls = RX1 ∧ yX1_depthChange.cls ≠ "java/lang/invoke/MethodHandle" ∧ yX1_depthChange.cls ≠ "java/lang/invoke/VarHandle" ∧ (parseMethodDescriptor yX1_depthChange.desc).map (fun d => d.parameters.length) = some 1 := ⟨rfl, by decide +kernel, by decide +kernel, by decide +kernel⟩
def wX1_depthChange (G : rc_G) (a0 : Int) (I : rc_M) (post : Int → rc_M → Prop) : Prop :=
  rc_R a0 ∧ ((¬ a0 = 40 → rc_R a0 ∧ ((¬ a0 = 41 → post 0 I) ∧ (a0 = 41 → post (-1) I))) ∧ (a0 = 40 → post 1 I))
set_option maxRecDepth 100000 in
set_option maxHeartbeats 4000000 in
theorem gX1_depthChange_0 {p : Program} {l : Launch} {e : Env} {s : State} {m : MethodId} {below : List Frame} {meth : Method} {c : Code} {G : rc_G} {a0 : Int} {I : rc_M} {post : Int → rc_M → Prop}  (X : rc_X p s m ([.int (rc_o a0)] : List Value).toArray meth c cX1_depthChange 1 wsX1_depthChange RX1 G (rc_A G)) (hr : meth.sig.returnType = some .int)   (h : wX1_depthChange G a0 I post) : rc_g p l e rmX1_depthChange s m ([.int (rc_o a0)] : List Value).toArray below meth c 0 0 (MQ below (rc_QI G post) ([.int (rc_o a0)] : List Value).toArray s 0 0 (rc_A G)) 1 G (rc_A G) 0 [(0, .int (rc_o a0))] [] I := by
  unfold wX1_depthChange at h
  refine rc_iload_n X dX1_depthChange_0 rfl 0 rfl ?_
  refine rc_bipush X dX1_depthChange_1 (rc_b8 _ ⟨by decide, by decide⟩) ?_
  obtain ⟨c1, h⟩ := h
  refine rc_ic_ne X 10 dX1_depthChange_3 (by decide) c1 ⟨by decide, by decide⟩ (fun c2 => ?_) (fun c2 => ?_)
  · have h := h.1 c2
    refine rc_iload_n X dX1_depthChange_10 rfl 0 rfl ?_
    refine rc_bipush X dX1_depthChange_11 (rc_b8 _ ⟨by decide, by decide⟩) ?_
    obtain ⟨c3, h⟩ := h
    refine rc_ic_ne X 20 dX1_depthChange_13 (by decide) c3 ⟨by decide, by decide⟩ (fun c4 => ?_) (fun c4 => ?_)
    · have h := h.1 c4
      refine rc_iconst X dX1_depthChange_20 ?_
      exact rc_iret X hr dX1_depthChange_21 h
    · have h := h.2 c4
      refine rc_iconst X dX1_depthChange_16 ?_
      refine rc_goto X 21 dX1_depthChange_17 (by decide) ?_
      exact rc_iret X hr dX1_depthChange_21 h
  · have h := h.2 c2
    refine rc_iconst X dX1_depthChange_6 ?_
    refine rc_goto X 21 dX1_depthChange_7 (by decide) ?_
    exact rc_iret X hr dX1_depthChange_21 h
theorem mX1_depthChange {l : Launch} {G : rc_G} {a0 : Int} {I : rc_M} {post : Int → rc_M → Prop}  (h : wX1_depthChange G a0 I post) : rc_CI l yX1_depthChange wsX1_depthChange rmX1_depthChange G [.int (rc_o a0)] I post :=
  rc_body (by decide +kernel) rfl rfl (Nat.le_of_ble_eq_true rfl) rfl (fun p e s m below meth c X hr => gX1_depthChange_0 X hr  h)
/-! X1_findFault -/
abbrev rmX1_findFault : Room := { frames := 1, cells := 0, slots := 0, locals := 22 }
theorem dyX1_findFault : yX1_findFault.cls = RX1 ∧ yX1_findFault.cls ≠ "java/lang/invoke/MethodHandle" ∧ yX1_findFault.cls ≠ "java/lang/invoke/VarHandle" ∧ (parseMethodDescriptor yX1_findFault.desc).map (fun d => d.parameters.length) = some 1 := ⟨rfl, by decide +kernel, by decide +kernel, by decide +kernel⟩
theorem qX1_findFault_1 : Cond.fieldLink RX1 28 "ReelChanger$ProgramText" "depth" "I" ∈ wsX1_findFault := List.mem_of_getElem? (i := 1) (by decide +kernel)
theorem nX1_findFault_X1 : ∀ w ∈ wsX10, w ∈ wsX1_findFault := fun w h => List.mem_cons_of_mem _ (List.mem_append_right _ (h))
theorem qX1_findFault_2 : Cond.fieldLink RX1 31 "ReelChanger$ProgramText" "standing" "I" ∈ wsX1_findFault := List.mem_of_getElem? (i := 2) (by decide +kernel)
theorem qX1_findFault_3 : Cond.fieldLink RX1 23 "ReelChanger$ProgramText" "length" "I" ∈ wsX1_findFault := List.mem_of_getElem? (i := 3) (by decide +kernel)
theorem qX1_findFault_5 : Cond.constant RX1 38 (-100005) ∈ wsX1_findFault := List.mem_of_getElem? (i := 5) (by decide +kernel)
theorem qX1_findFault_4 : Cond.fieldLink RX1 17 "ReelChanger$ProgramText" "letters" "[I" ∈ wsX1_findFault := List.mem_of_getElem? (i := 4) (by decide +kernel)
def wX1_findFault_103 (G : rc_G) (post : Int → rc_M → Prop) (a0 : Nat) (a1 : Int)  (y0 : Int) (I : rc_M) : Prop :=
  rc_R y0 ∧ ((y0 = 0 → post (I a0 2) I) ∧ (¬ y0 = 0 → post (-100005) I))
set_option maxRecDepth 100000 in
set_option maxHeartbeats 4000000 in
theorem gX1_findFault_103 {p : Program} {l : Launch} {e : Env} {s : State} {m : MethodId} {below : List Frame} {meth : Method} {c : Code} {G : rc_G} {a0 : Nat} {a1 : Int} {I : rc_M} {post : Int → rc_M → Prop}  {y0 : Int} (X : rc_X p s m ([.ref a0, .int (rc_o a1)] : List Value).toArray meth c cX1_findFault 4 wsX1_findFault RX1 G (rc_A G)) (hr : meth.sig.returnType = some .int) (T0 : kX1 G a0)   (h : wX1_findFault_103 G post a0 a1  y0 I) : rc_g p l e rmX1_findFault s m ([.ref a0, .int (rc_o a1)] : List Value).toArray below meth c 0 0 (MQ below (rc_QI G post) ([.ref a0, .int (rc_o a1)] : List Value).toArray s 0 0 (rc_A G)) 4 G (rc_A G) 103 [(0, .ref a0)] [.int (rc_o y0)] I := by
  unfold wX1_findFault_103 at h
  refine rc_istore_n X [(2, .int (rc_o y0)), (0, .ref a0)] dX1_findFault_103 rfl (by decide) rfl ?_
  refine rc_iload_n X dX1_findFault_104 rfl 0 rfl ?_
  obtain ⟨c8, h⟩ := h
  refine rc_if_eq X 113 dX1_findFault_105 (by decide) c8 (fun c9 => ?_) (fun c9 => ?_)
  · have h := h.1 c9
    refine rc_aload_n X dX1_findFault_113 rfl 1 rfl ?_
    refine gfX1_length X T0.1 nX1_findFault_X1 qX1_findFault_3 dX1_findFault_114 ?_
    exact rc_iret X hr dX1_findFault_117 h
  · have h := h.2 c9
    refine rc_ldc (n := (-100005)) X qX1_findFault_5 (by decide +kernel) dX1_findFault_108 ?_
    refine rc_goto X 117 dX1_findFault_110 (by decide) ?_
    exact rc_iret X hr dX1_findFault_117 h
def wX1_findFault_102 (G : rc_G) (post : Int → rc_M → Prop) (a0 : Nat) (a1 : Int)   (I : rc_M) : Prop :=
  wX1_findFault_103 G post a0 a1  0 I
set_option maxRecDepth 100000 in
set_option maxHeartbeats 4000000 in
theorem gX1_findFault_102 {p : Program} {l : Launch} {e : Env} {s : State} {m : MethodId} {below : List Frame} {meth : Method} {c : Code} {G : rc_G} {a0 : Nat} {a1 : Int} {I : rc_M} {post : Int → rc_M → Prop}   (X : rc_X p s m ([.ref a0, .int (rc_o a1)] : List Value).toArray meth c cX1_findFault 4 wsX1_findFault RX1 G (rc_A G)) (hr : meth.sig.returnType = some .int) (T0 : kX1 G a0)   (h : wX1_findFault_102 G post a0 a1   I) : rc_g p l e rmX1_findFault s m ([.ref a0, .int (rc_o a1)] : List Value).toArray below meth c 0 0 (MQ below (rc_QI G post) ([.ref a0, .int (rc_o a1)] : List Value).toArray s 0 0 (rc_A G)) 4 G (rc_A G) 102 [(0, .ref a0)] [] I := by
  unfold wX1_findFault_102 at h
  refine rc_iconst X dX1_findFault_102 ?_
  refine rc_subl [(0, .ref a0)] [0] rfl ?_
  exact gX1_findFault_103 X hr T0   h
def wX1_findFault_98 (G : rc_G) (post : Int → rc_M → Prop) (a0 : Nat) (a1 : Int)   (I : rc_M) : Prop :=
  wX1_findFault_103 G post a0 a1  1 I
set_option maxRecDepth 100000 in
set_option maxHeartbeats 4000000 in
theorem gX1_findFault_98 {p : Program} {l : Launch} {e : Env} {s : State} {m : MethodId} {below : List Frame} {meth : Method} {c : Code} {G : rc_G} {a0 : Nat} {a1 : Int} {I : rc_M} {post : Int → rc_M → Prop}   (X : rc_X p s m ([.ref a0, .int (rc_o a1)] : List Value).toArray meth c cX1_findFault 4 wsX1_findFault RX1 G (rc_A G)) (hr : meth.sig.returnType = some .int) (T0 : kX1 G a0)   (h : wX1_findFault_98 G post a0 a1   I) : rc_g p l e rmX1_findFault s m ([.ref a0, .int (rc_o a1)] : List Value).toArray below meth c 0 0 (MQ below (rc_QI G post) ([.ref a0, .int (rc_o a1)] : List Value).toArray s 0 0 (rc_A G)) 4 G (rc_A G) 98 [(0, .ref a0)] [] I := by
  unfold wX1_findFault_98 at h
  refine rc_iconst X dX1_findFault_98 ?_
  refine rc_goto X 103 dX1_findFault_99 (by decide) ?_
  refine rc_subl [(0, .ref a0)] [0] rfl ?_
  exact gX1_findFault_103 X hr T0   h
def wX1_findFault_75 (G : rc_G) (post : Int → rc_M → Prop) (a0 : Nat) (a1 : Int)   (I : rc_M) : Prop :=
  rc_R (I a0 0) ∧ ((¬ (I a0 0) = 0 → wX1_findFault_102 G post a0 a1   I) ∧ ((I a0 0) = 0 → rc_R (I a0 3) ∧ (((I a0 3) = 1 → wX1_findFault_98 G post a0 a1   I) ∧ (¬ (I a0 3) = 1 → rc_R (I a0 3) ∧ ((¬ (I a0 3) = 2 → wX1_findFault_102 G post a0 a1   I) ∧ ((I a0 3) = 2 → wX1_findFault_98 G post a0 a1   I))))))
set_option maxRecDepth 100000 in
set_option maxHeartbeats 4000000 in
theorem gX1_findFault_75 {p : Program} {l : Launch} {e : Env} {s : State} {m : MethodId} {below : List Frame} {meth : Method} {c : Code} {G : rc_G} {a0 : Nat} {a1 : Int} {I : rc_M} {post : Int → rc_M → Prop}   (X : rc_X p s m ([.ref a0, .int (rc_o a1)] : List Value).toArray meth c cX1_findFault 4 wsX1_findFault RX1 G (rc_A G)) (hr : meth.sig.returnType = some .int) (T0 : kX1 G a0)   (h : wX1_findFault_75 G post a0 a1   I) : rc_g p l e rmX1_findFault s m ([.ref a0, .int (rc_o a1)] : List Value).toArray below meth c 0 0 (MQ below (rc_QI G post) ([.ref a0, .int (rc_o a1)] : List Value).toArray s 0 0 (rc_A G)) 4 G (rc_A G) 75 [(0, .ref a0)] [] I := by
  unfold wX1_findFault_75 at h
  refine rc_aload_n X dX1_findFault_75 rfl 0 rfl ?_
  refine gfX1_depth X T0.1 nX1_findFault_X1 qX1_findFault_1 dX1_findFault_76 ?_
  obtain ⟨c6, h⟩ := h
  refine rc_if_ne X 102 dX1_findFault_79 (by decide) c6 (fun c7 => ?_) (fun c7 => ?_)
  · have h := h.1 c7
    refine rc_subl [(0, .ref a0)] [0] rfl ?_
    exact gX1_findFault_102 X hr T0   h
  · have h := h.2 c7
    refine rc_aload_n X dX1_findFault_82 rfl 0 rfl ?_
    refine gfX1_standing X T0.1 nX1_findFault_X1 qX1_findFault_2 dX1_findFault_83 ?_
    refine rc_iconst X dX1_findFault_86 ?_
    obtain ⟨c10, h⟩ := h
    refine rc_ic_eq X 98 dX1_findFault_87 (by decide) c10 ⟨by decide, by decide⟩ (fun c11 => ?_) (fun c11 => ?_)
    · have h := h.1 c11
      refine rc_subl [(0, .ref a0)] [0] rfl ?_
      exact gX1_findFault_98 X hr T0   h
    · have h := h.2 c11
      refine rc_aload_n X dX1_findFault_90 rfl 0 rfl ?_
      refine gfX1_standing X T0.1 nX1_findFault_X1 qX1_findFault_2 dX1_findFault_91 ?_
      refine rc_iconst X dX1_findFault_94 ?_
      obtain ⟨c12, h⟩ := h
      refine rc_ic_ne X 102 dX1_findFault_95 (by decide) c12 ⟨by decide, by decide⟩ (fun c13 => ?_) (fun c13 => ?_)
      · have h := h.1 c13
        refine rc_subl [(0, .ref a0)] [0] rfl ?_
        exact gX1_findFault_102 X hr T0   h
      · have h := h.2 c13
        refine rc_subl [(0, .ref a0)] [0] rfl ?_
        exact gX1_findFault_98 X hr T0   h
def wX1_findFault_12 (G : rc_G) (post : Int → rc_M → Prop) (a0 : Nat) (a1 : Int) (k12 : Int → rc_M → Prop) (x2 : Int) (I : rc_M) : Prop :=
  rc_R x2 ∧ (rc_R (I a0 2) ∧ (((I a0 2) ≤ x2 → wX1_findFault_75 G post a0 a1   I) ∧ (¬ (I a0 2) ≤ x2 → rc_R x2 ∧ ((60 ≤ x2 → wX1_findFault_75 G post a0 a1   I) ∧ (¬ 60 ≤ x2 → (0 ≤ x2 ∧ x2 < 60) ∧ (wX1_standingBehind G a0 (I (a0 + 2) x2) a1 I (fun r18 I17 => rc_R r18 ∧ ((¬ r18 = (-100005) → ∀ I21, I21 = rc_s I17 a0 3 r18 → (0 ≤ x2 ∧ x2 < 60) ∧ (wX1_depthChange G (I21 (a0 + 2) x2) I21 (fun r24 I23 => ∀ I25, I25 = rc_s I23 a0 0 ((I21 a0 0) + r24) → k12 (x2 + 1) I25))) ∧ (r18 = (-100005) → post x2 I17)))))))))
set_option maxRecDepth 100000 in
set_option maxHeartbeats 4000000 in
theorem gX1_findFault_12 {p : Program} {l : Launch} {e : Env} {s : State} {m : MethodId} {below : List Frame} {meth : Method} {c : Code} {G : rc_G} {a0 : Nat} {a1 : Int} {I : rc_M} {post : Int → rc_M → Prop} {k12 : Int → rc_M → Prop} {x2 : Int} (X : rc_X p s m ([.ref a0, .int (rc_o a1)] : List Value).toArray meth c cX1_findFault 4 wsX1_findFault RX1 G (rc_A G)) (hr : meth.sig.returnType = some .int) (T0 : kX1 G a0) (hk12 : ∀ (x2 : Int) (J : rc_M), k12 x2 J → rc_g p l e rmX1_findFault s m ([.ref a0, .int (rc_o a1)] : List Value).toArray below meth c 0 0 (MQ below (rc_QI G post) ([.ref a0, .int (rc_o a1)] : List Value).toArray s 0 0 (rc_A G)) 4 G (rc_A G) 12 [(0, .ref a0), (1, .int (rc_o a1)), (2, .int (rc_o x2))] [] J)  (h : wX1_findFault_12 G post a0 a1 k12 x2 I) : rc_g p l e rmX1_findFault s m ([.ref a0, .int (rc_o a1)] : List Value).toArray below meth c 0 0 (MQ below (rc_QI G post) ([.ref a0, .int (rc_o a1)] : List Value).toArray s 0 0 (rc_A G)) 4 G (rc_A G) 12 [(0, .ref a0), (1, .int (rc_o a1)), (2, .int (rc_o x2))] [] I := by
  unfold wX1_findFault_12 at h
  refine rc_iload_n X dX1_findFault_12 rfl 2 rfl ?_
  refine rc_aload_n X dX1_findFault_13 rfl 0 rfl ?_
  refine gfX1_length X T0.1 nX1_findFault_X1 qX1_findFault_3 dX1_findFault_14 ?_
  obtain ⟨c3, h⟩ := h
  obtain ⟨c4, h⟩ := h
  refine rc_ic_ge X 75 dX1_findFault_17 (by decide) c3 c4 (fun c5 => ?_) (fun c5 => ?_)
  · have h := h.1 c5
    refine rc_subl [(0, .ref a0)] [0] rfl ?_
    exact gX1_findFault_75 X hr T0   h
  · have h := h.2 c5
    refine rc_iload_n X dX1_findFault_20 rfl 2 rfl ?_
    refine rc_bipush X dX1_findFault_21 (rc_b8 _ ⟨by decide, by decide⟩) ?_
    obtain ⟨c14, h⟩ := h
    refine rc_ic_ge X 75 dX1_findFault_23 (by decide) c14 ⟨by decide, by decide⟩ (fun c15 => ?_) (fun c15 => ?_)
    · have h := h.1 c15
      refine rc_subl [(0, .ref a0)] [0] rfl ?_
      exact gX1_findFault_75 X hr T0   h
    · have h := h.2 c15
      refine rc_aload_n X dX1_findFault_26 rfl 0 rfl ?_
      refine rc_aload_n X dX1_findFault_27 rfl 0 rfl ?_
      refine gfX1_letters X T0.1 nX1_findFault_X1 qX1_findFault_4 dX1_findFault_28 ?_
      refine rc_iload_n X dX1_findFault_31 rfl 2 rfl ?_
      obtain ⟨c16, h⟩ := h
      refine rc_iald X T0.2.2.1 (by decide) dX1_findFault_32 c16 ?_
      refine rc_iload_n X dX1_findFault_33 rfl 1 rfl ?_
      refine rc_cVI (rest := []) X (mX1_standingBehind T0 h) gX1_findFault_X1_standingBehind rfl ⟨rfl, rfl⟩ dyX1_standingBehind ⟨Nat.le_of_ble_eq_true rfl, Nat.le_of_ble_eq_true rfl⟩ (rc_recv X T0.1 rfl) rfl rfl (Nat.le_of_ble_eq_true rfl) dX1_findFault_34 ⟨Nat.zero_le _, Nat.zero_le _⟩ (fun r18 I17 h => ?_)
      refine rc_istore_n X [(3, .int (rc_o r18)), (0, .ref a0), (1, .int (rc_o a1)), (2, .int (rc_o x2))] dX1_findFault_37 rfl (by decide) rfl ?_
      refine rc_iload_n X dX1_findFault_38 rfl 0 rfl ?_
      refine rc_ldc (n := (-100005)) X qX1_findFault_5 (by decide +kernel) dX1_findFault_39 ?_
      obtain ⟨c19, h⟩ := h
      refine rc_ic_ne X 46 dX1_findFault_41 (by decide) c19 ⟨by decide, by decide⟩ (fun c20 => ?_) (fun c20 => ?_)
      · have h := h.1 c20
        refine rc_aload_n X dX1_findFault_46 rfl 1 rfl ?_
        refine rc_iload_n X dX1_findFault_47 rfl 0 rfl ?_
        refine pfX1_standing X T0.1 nX1_findFault_X1 qX1_findFault_2 dX1_findFault_48 (fun I21 e21 => ?_)
        have h := h I21 e21
        refine rc_aload_n X dX1_findFault_51 rfl 1 rfl ?_
        refine rc_dup X dX1_findFault_52 rfl ?_
        refine gfX1_depth X T0.1 nX1_findFault_X1 qX1_findFault_1 dX1_findFault_53 ?_
        refine rc_aload_n X dX1_findFault_56 rfl 1 rfl ?_
        refine gfX1_letters X T0.1 nX1_findFault_X1 qX1_findFault_4 dX1_findFault_57 ?_
        refine rc_iload_n X dX1_findFault_60 rfl 3 rfl ?_
        obtain ⟨c22, h⟩ := h
        refine rc_iald X T0.2.2.1 (by decide) dX1_findFault_61 c22 ?_
        refine rc_cSI (rest := [.int (rc_o (I21 a0 0)), .ref a0]) X (mX1_depthChange  h) gX1_findFault_X1_depthChange rfl ⟨rfl, rfl⟩ dyX1_depthChange ⟨Nat.le_of_ble_eq_true rfl, Nat.le_of_ble_eq_true rfl⟩ rfl rfl (Nat.le_of_ble_eq_true rfl) dX1_findFault_62 ⟨Nat.zero_le _, Nat.zero_le _⟩ (fun r24 I23 h => ?_)
        refine rc_iadd X dX1_findFault_65 ?_
        refine pfX1_depth X T0.1 nX1_findFault_X1 qX1_findFault_1 dX1_findFault_66 (fun I25 e25 => ?_)
        have h := h I25 e25
        refine rc_iinc X [(2, .int (rc_o (x2 + 1))), (3, .int (rc_o r18)), (0, .ref a0), (1, .int (rc_o a1))] dX1_findFault_69 3 rfl (by decide) rfl ?_
        refine rc_goto X 12 dX1_findFault_72 (by decide) ?_
        refine rc_subl [(0, .ref a0), (1, .int (rc_o a1)), (2, .int (rc_o (x2 + 1)))] [2, 3, 0] rfl ?_
        exact hk12 _ _ h
      · have h := h.2 c20
        refine rc_iload_n X dX1_findFault_44 rfl 3 rfl ?_
        exact rc_iret X hr dX1_findFault_45 h
noncomputable def rX1_findFault_12 (G : rc_G) (post : Int → rc_M → Prop) (a0 : Nat) (a1 : Int)  (n : Nat) : Int → rc_M → Prop :=
  Nat.rec (motive := fun _ => Int → rc_M → Prop) (fun _ _ => False) (fun _ ih => wX1_findFault_12 G post a0 a1  ih) n
set_option maxRecDepth 100000 in
set_option maxHeartbeats 4000000 in
theorem sX1_findFault_12 {p : Program} {l : Launch} {e : Env} {s : State} {m : MethodId} {below : List Frame} {meth : Method} {c : Code} {G : rc_G} {a0 : Nat} {a1 : Int} {I : rc_M} {post : Int → rc_M → Prop}  {n : Nat} {x2 : Int} (X : rc_X p s m ([.ref a0, .int (rc_o a1)] : List Value).toArray meth c cX1_findFault 4 wsX1_findFault RX1 G (rc_A G)) (hr : meth.sig.returnType = some .int) (T0 : kX1 G a0)  (h : rX1_findFault_12 G post a0 a1  n x2 I) : rc_g p l e rmX1_findFault s m ([.ref a0, .int (rc_o a1)] : List Value).toArray below meth c 0 0 (MQ below (rc_QI G post) ([.ref a0, .int (rc_o a1)] : List Value).toArray s 0 0 (rc_A G)) 4 G (rc_A G) 12 [(0, .ref a0), (1, .int (rc_o a1)), (2, .int (rc_o x2))] [] I := by
  induction n generalizing x2 I with
  | zero => exact h.elim
  | succ n ih => exact gX1_findFault_12 (k12 := rX1_findFault_12 G post a0 a1  n) X hr T0  (fun x2 J h2 => ih h2) h
def wX1_findFault (G : rc_G) (a0 : Nat) (a1 : Int) (I : rc_M) (post : Int → rc_M → Prop) : Prop :=
  ∀ I1, I1 = rc_s I a0 0 0 → ∀ I2, I2 = rc_s I1 a0 3 0 → ∃ n, rX1_findFault_12 G post a0 a1  n 0 I2
set_option maxRecDepth 100000 in
set_option maxHeartbeats 4000000 in
theorem gX1_findFault_0 {p : Program} {l : Launch} {e : Env} {s : State} {m : MethodId} {below : List Frame} {meth : Method} {c : Code} {G : rc_G} {a0 : Nat} {a1 : Int} {I : rc_M} {post : Int → rc_M → Prop}  (X : rc_X p s m ([.ref a0, .int (rc_o a1)] : List Value).toArray meth c cX1_findFault 4 wsX1_findFault RX1 G (rc_A G)) (hr : meth.sig.returnType = some .int) (T0 : kX1 G a0)  (h : wX1_findFault G a0 a1 I post) : rc_g p l e rmX1_findFault s m ([.ref a0, .int (rc_o a1)] : List Value).toArray below meth c 0 0 (MQ below (rc_QI G post) ([.ref a0, .int (rc_o a1)] : List Value).toArray s 0 0 (rc_A G)) 4 G (rc_A G) 0 [(0, .ref a0), (1, .int (rc_o a1))] [] I := by
  unfold wX1_findFault at h
  refine rc_aload_n X dX1_findFault_0 rfl 0 rfl ?_
  refine rc_iconst X dX1_findFault_1 ?_
  refine pfX1_depth X T0.1 nX1_findFault_X1 qX1_findFault_1 dX1_findFault_2 (fun I1 e1 => ?_)
  have h := h I1 e1
  refine rc_aload_n X dX1_findFault_5 rfl 0 rfl ?_
  refine rc_iconst X dX1_findFault_6 ?_
  refine pfX1_standing X T0.1 nX1_findFault_X1 qX1_findFault_2 dX1_findFault_7 (fun I2 e2 => ?_)
  have h := h I2 e2
  refine rc_iconst X dX1_findFault_10 ?_
  refine rc_istore_n X [(2, .int (rc_o 0)), (0, .ref a0), (1, .int (rc_o a1))] dX1_findFault_11 rfl (by decide) rfl ?_
  refine rc_subl [(0, .ref a0), (1, .int (rc_o a1)), (2, .int (rc_o 0))] [1, 2, 0] rfl ?_
  obtain ⟨n, h⟩ := h
  exact sX1_findFault_12 X hr T0  h
theorem mX1_findFault {l : Launch} {G : rc_G} {a0 : Nat} {a1 : Int} {I : rc_M} {post : Int → rc_M → Prop} (T0 : kX1 G a0) (h : wX1_findFault G a0 a1 I post) : rc_CI l yX1_findFault wsX1_findFault rmX1_findFault G [.ref a0, .int (rc_o a1)] I post :=
  rc_body (by decide +kernel) rfl rfl (Nat.le_of_ble_eq_true rfl) rfl (fun p e s m below meth c X hr => gX1_findFault_0 X hr T0 h)
/-! X1_addReel -/
abbrev rmX1_addReel : Room := { frames := 0, cells := 0, slots := 0, locals := 0 }
theorem dyX1_addReel : yX1_addReel.cls = RX1 ∧ yX1_addReel.cls ≠ "java/lang/invoke/MethodHandle" ∧ yX1_addReel.cls ≠ "java/lang/invoke/VarHandle" ∧ (parseMethodDescriptor yX1_addReel.desc).map (fun d => d.parameters.length) = some 2 := ⟨rfl, by decide +kernel, by decide +kernel, by decide +kernel⟩
theorem qX1_addReel_2 : Cond.constant RX1 27 (-100004) ∈ wsX1_addReel := List.mem_of_getElem? (i := 2) (by decide +kernel)
theorem qX1_addReel_1 : Cond.fieldLink RX1 11 "ReelChanger$ProgramText" "expanded" "[I" ∈ wsX1_addReel := List.mem_of_getElem? (i := 1) (by decide +kernel)
theorem nX1_addReel_X1 : ∀ w ∈ wsX10, w ∈ wsX1_addReel := fun w h => List.mem_cons_of_mem _ (List.mem_append_right _ (h))
def wX1_addReel (G : rc_G) (a0 : Nat) (a1 : Int) (a2 : Int) (I : rc_M) (post : Int → rc_M → Prop) : Prop :=
  rc_R a2 ∧ ((a2 < 0 → post (-100004) I) ∧ (¬ a2 < 0 → rc_R a2 ∧ ((a2 < 12 → (0 ≤ a2 ∧ a2 < 12) ∧ (∀ I6, I6 = rc_s I (a0 + 1) a2 a1 → post (a2 + 1) I6)) ∧ (¬ a2 < 12 → post (-100004) I))))
set_option maxRecDepth 100000 in
set_option maxHeartbeats 4000000 in
theorem gX1_addReel_0 {p : Program} {l : Launch} {e : Env} {s : State} {m : MethodId} {below : List Frame} {meth : Method} {c : Code} {G : rc_G} {a0 : Nat} {a1 : Int} {a2 : Int} {I : rc_M} {post : Int → rc_M → Prop}  (X : rc_X p s m ([.ref a0, .int (rc_o a1), .int (rc_o a2)] : List Value).toArray meth c cX1_addReel 3 wsX1_addReel RX1 G (rc_A G)) (hr : meth.sig.returnType = some .int) (T0 : kX1 G a0)  (h : wX1_addReel G a0 a1 a2 I post) : rc_g p l e rmX1_addReel s m ([.ref a0, .int (rc_o a1), .int (rc_o a2)] : List Value).toArray below meth c 0 0 (MQ below (rc_QI G post) ([.ref a0, .int (rc_o a1), .int (rc_o a2)] : List Value).toArray s 0 0 (rc_A G)) 3 G (rc_A G) 0 [(0, .ref a0), (1, .int (rc_o a1)), (2, .int (rc_o a2))] [] I := by
  unfold wX1_addReel at h
  refine rc_iload_n X dX1_addReel_0 rfl 2 rfl ?_
  obtain ⟨c1, h⟩ := h
  refine rc_if_lt X 13 dX1_addReel_1 (by decide) c1 (fun c2 => ?_) (fun c2 => ?_)
  · have h := h.1 c2
    refine rc_ldc (n := (-100004)) X qX1_addReel_2 (by decide +kernel) dX1_addReel_13 ?_
    exact rc_iret X hr dX1_addReel_15 h
  · have h := h.2 c2
    refine rc_iload_n X dX1_addReel_4 rfl 2 rfl ?_
    refine rc_aload_n X dX1_addReel_5 rfl 0 rfl ?_
    refine gfX1_expanded X T0.1 nX1_addReel_X1 qX1_addReel_1 dX1_addReel_6 ?_
    refine rc_alen X T0.2.1 dX1_addReel_9 ?_
    obtain ⟨c3, h⟩ := h
    refine rc_ic_lt X 16 dX1_addReel_10 (by decide) c3 ⟨by decide, by decide⟩ (fun c4 => ?_) (fun c4 => ?_)
    · have h := h.1 c4
      refine rc_aload_n X dX1_addReel_16 rfl 0 rfl ?_
      refine gfX1_expanded X T0.1 nX1_addReel_X1 qX1_addReel_1 dX1_addReel_17 ?_
      refine rc_iload_n X dX1_addReel_20 rfl 2 rfl ?_
      refine rc_iload_n X dX1_addReel_21 rfl 1 rfl ?_
      obtain ⟨c5, h⟩ := h
      refine rc_iast X T0.2.1 (by decide) dX1_addReel_22 c5 (fun I6 e6 => ?_)
      have h := h I6 e6
      refine rc_iload_n X dX1_addReel_23 rfl 2 rfl ?_
      refine rc_iconst X dX1_addReel_24 ?_
      refine rc_iadd X dX1_addReel_25 ?_
      exact rc_iret X hr dX1_addReel_26 h
    · have h := h.2 c4
      refine rc_ldc (n := (-100004)) X qX1_addReel_2 (by decide +kernel) dX1_addReel_13 ?_
      exact rc_iret X hr dX1_addReel_15 h
theorem mX1_addReel {l : Launch} {G : rc_G} {a0 : Nat} {a1 : Int} {a2 : Int} {I : rc_M} {post : Int → rc_M → Prop} (T0 : kX1 G a0) (h : wX1_addReel G a0 a1 a2 I post) : rc_CI l yX1_addReel wsX1_addReel rmX1_addReel G [.ref a0, .int (rc_o a1), .int (rc_o a2)] I post :=
  rc_body (by decide +kernel) rfl rfl (Nat.le_of_ble_eq_true rfl) rfl (fun p e s m below meth c X hr => gX1_addReel_0 X hr T0 h)
/-! X1_repeatGroup -/
abbrev rmX1_repeatGroup : Room := { frames := 1, cells := 0, slots := 0, locals := 22 }
theorem dyX1_repeatGroup : yX1_repeatGroup.cls = RX1 ∧ yX1_repeatGroup.cls ≠ "java/lang/invoke/MethodHandle" ∧ yX1_repeatGroup.cls ≠ "java/lang/invoke/VarHandle" ∧ (parseMethodDescriptor yX1_repeatGroup.desc).map (fun d => d.parameters.length) = some 3 := ⟨rfl, by decide +kernel, by decide +kernel, by decide +kernel⟩
theorem qX1_repeatGroup_1 : Cond.methodLink RX1 50 Lib.Math.max.name ∈ wsX1_repeatGroup := List.mem_of_getElem? (i := 1) (by decide +kernel)
theorem qX1_repeatGroup_2 : Cond.static Lib.Math.max.name ∈ wsX1_repeatGroup := List.mem_of_getElem? (i := 2) (by decide +kernel)
theorem qX1_repeatGroup_3 : Cond.initialized "java/lang/Math" ∈ wsX1_repeatGroup := List.mem_of_getElem? (i := 3) (by decide +kernel)
theorem qX1_repeatGroup_4 : Cond.code Lib.Math.max.name Lib.Math.max.code 2 (some .int) ∈ wsX1_repeatGroup := List.mem_of_getElem? (i := 4) (by decide +kernel)
theorem qX1_repeatGroup_5 : Cond.fieldLink RX1 11 "ReelChanger$ProgramText" "expanded" "[I" ∈ wsX1_repeatGroup := List.mem_of_getElem? (i := 5) (by decide +kernel)
theorem nX1_repeatGroup_X1 : ∀ w ∈ wsX10, w ∈ wsX1_repeatGroup := fun w h => List.mem_cons_of_mem _ (List.mem_append_right _ (h))
theorem qX1_repeatGroup_6 : Cond.constant RX1 27 (-100004) ∈ wsX1_repeatGroup := List.mem_of_getElem? (i := 6) (by decide +kernel)
def wX1_repeatGroup_21 (G : rc_G) (post : Int → rc_M → Prop) (a0 : Nat) (a1 : Int) (a2 : Int) (a3 : Int) (k21 : Int → Int → Int → rc_M → Prop) (x4 : Int) (x5 : Int) (x6 : Int) (I : rc_M) : Prop :=
  rc_R x6 ∧ (rc_R x5 ∧ ((x5 ≤ x6 → post x4 I) ∧ (¬ x5 ≤ x6 → rc_R x6 ∧ ((12 ≤ x6 → post x4 I) ∧ (¬ 12 ≤ x6 → rc_R x4 ∧ ((x4 = (-100004) → post x4 I) ∧ (¬ x4 = (-100004) → (0 ≤ x6 ∧ x6 < 12) ∧ (wX1_addReel G a0 (I (a0 + 1) x6) x4 I (fun r11 I10 => k21 r11 x5 (x6 + 1) I10)))))))))
set_option maxRecDepth 100000 in
set_option maxHeartbeats 4000000 in
theorem gX1_repeatGroup_21 {p : Program} {l : Launch} {e : Env} {s : State} {m : MethodId} {below : List Frame} {meth : Method} {c : Code} {G : rc_G} {a0 : Nat} {a1 : Int} {a2 : Int} {a3 : Int} {I : rc_M} {post : Int → rc_M → Prop} {k21 : Int → Int → Int → rc_M → Prop} {x4 : Int} {x5 : Int} {x6 : Int} (X : rc_X p s m ([.ref a0, .int (rc_o a1), .int (rc_o a2), .int (rc_o a3)] : List Value).toArray meth c cX1_repeatGroup 7 wsX1_repeatGroup RX1 G (rc_A G)) (hr : meth.sig.returnType = some .int) (T0 : kX1 G a0) (hk21 : ∀ (x4 : Int) (x5 : Int) (x6 : Int) (J : rc_M), k21 x4 x5 x6 J → rc_g p l e rmX1_repeatGroup s m ([.ref a0, .int (rc_o a1), .int (rc_o a2), .int (rc_o a3)] : List Value).toArray below meth c 0 0 (MQ below (rc_QI G post) ([.ref a0, .int (rc_o a1), .int (rc_o a2), .int (rc_o a3)] : List Value).toArray s 0 0 (rc_A G)) 7 G (rc_A G) 21 [(0, .ref a0), (4, .int (rc_o x4)), (5, .int (rc_o x5)), (6, .int (rc_o x6))] [] J)  (h : wX1_repeatGroup_21 G post a0 a1 a2 a3 k21 x4 x5 x6 I) : rc_g p l e rmX1_repeatGroup s m ([.ref a0, .int (rc_o a1), .int (rc_o a2), .int (rc_o a3)] : List Value).toArray below meth c 0 0 (MQ below (rc_QI G post) ([.ref a0, .int (rc_o a1), .int (rc_o a2), .int (rc_o a3)] : List Value).toArray s 0 0 (rc_A G)) 7 G (rc_A G) 21 [(0, .ref a0), (4, .int (rc_o x4)), (5, .int (rc_o x5)), (6, .int (rc_o x6))] [] I := by
  unfold wX1_repeatGroup_21 at h
  refine rc_iload X dX1_repeatGroup_21 3 rfl ?_
  refine rc_iload X dX1_repeatGroup_23 2 rfl ?_
  obtain ⟨c2, h⟩ := h
  obtain ⟨c3, h⟩ := h
  refine rc_ic_ge X 66 dX1_repeatGroup_25 (by decide) c2 c3 (fun c4 => ?_) (fun c4 => ?_)
  · have h := h.1 c4
    refine rc_iload X dX1_repeatGroup_66 1 rfl ?_
    exact rc_iret X hr dX1_repeatGroup_68 h
  · have h := h.2 c4
    refine rc_iload X dX1_repeatGroup_28 3 rfl ?_
    refine rc_aload_n X dX1_repeatGroup_30 rfl 0 rfl ?_
    refine gfX1_expanded X T0.1 nX1_repeatGroup_X1 qX1_repeatGroup_5 dX1_repeatGroup_31 ?_
    refine rc_alen X T0.2.1 dX1_repeatGroup_34 ?_
    obtain ⟨c5, h⟩ := h
    refine rc_ic_ge X 66 dX1_repeatGroup_35 (by decide) c5 ⟨by decide, by decide⟩ (fun c6 => ?_) (fun c6 => ?_)
    · have h := h.1 c6
      refine rc_iload X dX1_repeatGroup_66 1 rfl ?_
      exact rc_iret X hr dX1_repeatGroup_68 h
    · have h := h.2 c6
      refine rc_iload X dX1_repeatGroup_38 1 rfl ?_
      refine rc_ldc (n := (-100004)) X qX1_repeatGroup_6 (by decide +kernel) dX1_repeatGroup_40 ?_
      obtain ⟨c7, h⟩ := h
      refine rc_ic_eq X 66 dX1_repeatGroup_42 (by decide) c7 ⟨by decide, by decide⟩ (fun c8 => ?_) (fun c8 => ?_)
      · have h := h.1 c8
        refine rc_iload X dX1_repeatGroup_66 1 rfl ?_
        exact rc_iret X hr dX1_repeatGroup_68 h
      · have h := h.2 c8
        refine rc_aload_n X dX1_repeatGroup_45 rfl 0 rfl ?_
        refine rc_aload_n X dX1_repeatGroup_46 rfl 0 rfl ?_
        refine gfX1_expanded X T0.1 nX1_repeatGroup_X1 qX1_repeatGroup_5 dX1_repeatGroup_47 ?_
        refine rc_iload X dX1_repeatGroup_50 3 rfl ?_
        obtain ⟨c9, h⟩ := h
        refine rc_iald X T0.2.1 (by decide) dX1_repeatGroup_52 c9 ?_
        refine rc_iload X dX1_repeatGroup_53 1 rfl ?_
        refine rc_cVI (rest := []) X (mX1_addReel T0 h) gX1_repeatGroup_X1_addReel rfl ⟨rfl, rfl⟩ dyX1_addReel ⟨Nat.le_of_ble_eq_true rfl, Nat.le_of_ble_eq_true rfl⟩ (rc_recv X T0.1 rfl) rfl rfl (Nat.le_of_ble_eq_true rfl) dX1_repeatGroup_55 ⟨Nat.zero_le _, Nat.zero_le _⟩ (fun r11 I10 h => ?_)
        refine rc_istore X [(4, .int (rc_o r11)), (0, .ref a0), (5, .int (rc_o x5)), (6, .int (rc_o x6))] dX1_repeatGroup_58 (by decide) rfl ?_
        refine rc_iinc X [(6, .int (rc_o (x6 + 1))), (4, .int (rc_o r11)), (0, .ref a0), (5, .int (rc_o x5))] dX1_repeatGroup_60 3 rfl (by decide) rfl ?_
        refine rc_goto X 21 dX1_repeatGroup_63 (by decide) ?_
        refine rc_subl [(0, .ref a0), (4, .int (rc_o r11)), (5, .int (rc_o x5)), (6, .int (rc_o (x6 + 1)))] [2, 1, 3, 0] rfl ?_
        exact hk21 _ _ _ _ h
noncomputable def rX1_repeatGroup_21 (G : rc_G) (post : Int → rc_M → Prop) (a0 : Nat) (a1 : Int) (a2 : Int) (a3 : Int)  (n : Nat) : Int → Int → Int → rc_M → Prop :=
  Nat.rec (motive := fun _ => Int → Int → Int → rc_M → Prop) (fun _ _ _ _ => False) (fun _ ih => wX1_repeatGroup_21 G post a0 a1 a2 a3  ih) n
set_option maxRecDepth 100000 in
set_option maxHeartbeats 4000000 in
theorem sX1_repeatGroup_21 {p : Program} {l : Launch} {e : Env} {s : State} {m : MethodId} {below : List Frame} {meth : Method} {c : Code} {G : rc_G} {a0 : Nat} {a1 : Int} {a2 : Int} {a3 : Int} {I : rc_M} {post : Int → rc_M → Prop}  {n : Nat} {x4 : Int} {x5 : Int} {x6 : Int} (X : rc_X p s m ([.ref a0, .int (rc_o a1), .int (rc_o a2), .int (rc_o a3)] : List Value).toArray meth c cX1_repeatGroup 7 wsX1_repeatGroup RX1 G (rc_A G)) (hr : meth.sig.returnType = some .int) (T0 : kX1 G a0)  (h : rX1_repeatGroup_21 G post a0 a1 a2 a3  n x4 x5 x6 I) : rc_g p l e rmX1_repeatGroup s m ([.ref a0, .int (rc_o a1), .int (rc_o a2), .int (rc_o a3)] : List Value).toArray below meth c 0 0 (MQ below (rc_QI G post) ([.ref a0, .int (rc_o a1), .int (rc_o a2), .int (rc_o a3)] : List Value).toArray s 0 0 (rc_A G)) 7 G (rc_A G) 21 [(0, .ref a0), (4, .int (rc_o x4)), (5, .int (rc_o x5)), (6, .int (rc_o x6))] [] I := by
  induction n generalizing x4 x5 x6 I with
  | zero => exact h.elim
  | succ n ih => exact gX1_repeatGroup_21 (k21 := rX1_repeatGroup_21 G post a0 a1 a2 a3  n) X hr T0  (fun x4 x5 x6 J h2 => ih h2) h
def wX1_repeatGroup (G : rc_G) (a0 : Nat) (a1 : Int) (a2 : Int) (a3 : Int) (I : rc_M) (post : Int → rc_M → Prop) : Prop :=
  rc_R a1 ∧ (∃ n, rX1_repeatGroup_21 G post a0 a1 a2 a3  n a2 (a1 + ((a2 - a1) * (a3 - 1))) (max 0 a1) I)
set_option maxRecDepth 100000 in
set_option maxHeartbeats 4000000 in
theorem gX1_repeatGroup_0 {p : Program} {l : Launch} {e : Env} {s : State} {m : MethodId} {below : List Frame} {meth : Method} {c : Code} {G : rc_G} {a0 : Nat} {a1 : Int} {a2 : Int} {a3 : Int} {I : rc_M} {post : Int → rc_M → Prop}  (X : rc_X p s m ([.ref a0, .int (rc_o a1), .int (rc_o a2), .int (rc_o a3)] : List Value).toArray meth c cX1_repeatGroup 7 wsX1_repeatGroup RX1 G (rc_A G)) (hr : meth.sig.returnType = some .int) (T0 : kX1 G a0)  (h : wX1_repeatGroup G a0 a1 a2 a3 I post) : rc_g p l e rmX1_repeatGroup s m ([.ref a0, .int (rc_o a1), .int (rc_o a2), .int (rc_o a3)] : List Value).toArray below meth c 0 0 (MQ below (rc_QI G post) ([.ref a0, .int (rc_o a1), .int (rc_o a2), .int (rc_o a3)] : List Value).toArray s 0 0 (rc_A G)) 7 G (rc_A G) 0 [(0, .ref a0), (1, .int (rc_o a1)), (2, .int (rc_o a2)), (3, .int (rc_o a3))] [] I := by
  unfold wX1_repeatGroup at h
  refine rc_iload_n X dX1_repeatGroup_0 rfl 2 rfl ?_
  refine rc_istore X [(4, .int (rc_o a2)), (0, .ref a0), (1, .int (rc_o a1)), (2, .int (rc_o a2)), (3, .int (rc_o a3))] dX1_repeatGroup_1 (by decide) rfl ?_
  refine rc_iload_n X dX1_repeatGroup_3 rfl 2 rfl ?_
  refine rc_iload_n X dX1_repeatGroup_4 rfl 3 rfl ?_
  refine rc_iload_n X dX1_repeatGroup_5 rfl 2 rfl ?_
  refine rc_isub X dX1_repeatGroup_6 ?_
  refine rc_iload_n X dX1_repeatGroup_7 rfl 4 rfl ?_
  refine rc_iconst X dX1_repeatGroup_8 ?_
  refine rc_isub X dX1_repeatGroup_9 ?_
  refine rc_imul X dX1_repeatGroup_10 ?_
  refine rc_iadd X dX1_repeatGroup_11 ?_
  refine rc_istore X [(5, .int (rc_o (a1 + ((a2 - a1) * (a3 - 1))))), (4, .int (rc_o a2)), (0, .ref a0), (1, .int (rc_o a1)), (2, .int (rc_o a2)), (3, .int (rc_o a3))] dX1_repeatGroup_12 (by decide) rfl ?_
  refine rc_iconst X dX1_repeatGroup_14 ?_
  refine rc_iload_n X dX1_repeatGroup_15 rfl 3 rfl ?_
  obtain ⟨c1, h⟩ := h
  refine rc_mmax X qX1_repeatGroup_1 qX1_repeatGroup_2 qX1_repeatGroup_3 qX1_repeatGroup_4 (Nat.le_of_ble_eq_true rfl) (Nat.le_of_ble_eq_true rfl) (Nat.zero_le _) (Nat.zero_le _) dX1_repeatGroup_16 ⟨by decide, by decide⟩ c1 ?_
  refine rc_istore X [(6, .int (rc_o (max 0 a1))), (5, .int (rc_o (a1 + ((a2 - a1) * (a3 - 1))))), (4, .int (rc_o a2)), (0, .ref a0), (1, .int (rc_o a1)), (2, .int (rc_o a2)), (3, .int (rc_o a3))] dX1_repeatGroup_19 (by decide) rfl ?_
  refine rc_subl [(0, .ref a0), (4, .int (rc_o a2)), (5, .int (rc_o (a1 + ((a2 - a1) * (a3 - 1))))), (6, .int (rc_o (max 0 a1)))] [3, 2, 1, 0] rfl ?_
  obtain ⟨n, h⟩ := h
  exact sX1_repeatGroup_21 X hr T0  h
theorem mX1_repeatGroup {l : Launch} {G : rc_G} {a0 : Nat} {a1 : Int} {a2 : Int} {a3 : Int} {I : rc_M} {post : Int → rc_M → Prop} (T0 : kX1 G a0) (h : wX1_repeatGroup G a0 a1 a2 a3 I post) : rc_CI l yX1_repeatGroup wsX1_repeatGroup rmX1_repeatGroup G [.ref a0, .int (rc_o a1), .int (rc_o a2), .int (rc_o a3)] I post :=
  rc_body (by decide +kernel) rfl rfl (Nat.le_of_ble_eq_true rfl) rfl (fun p e s m below meth c X hr => gX1_repeatGroup_0 X hr T0 h)
/-! X1_expand -/
abbrev rmX1_expand : Room := { frames := 2, cells := 0, slots := 0, locals := 48 }
theorem dyX1_expand : yX1_expand.cls = RX1 ∧ yX1_expand.cls ≠ "java/lang/invoke/MethodHandle" ∧ yX1_expand.cls ≠ "java/lang/invoke/VarHandle" ∧ (parseMethodDescriptor yX1_expand.desc).map (fun d => d.parameters.length) = some 0 := ⟨rfl, by decide +kernel, by decide +kernel, by decide +kernel⟩
theorem qX1_expand_1 : Cond.fieldLink RX1 23 "ReelChanger$ProgramText" "length" "I" ∈ wsX1_expand := List.mem_of_getElem? (i := 1) (by decide +kernel)
theorem nX1_expand_X1 : ∀ w ∈ wsX10, w ∈ wsX1_expand := fun w h => List.mem_cons_of_mem _ (List.mem_append_right _ (h))
theorem qX1_expand_2 : Cond.constant RX1 27 (-100004) ∈ wsX1_expand := List.mem_of_getElem? (i := 2) (by decide +kernel)
theorem qX1_expand_3 : Cond.fieldLink RX1 17 "ReelChanger$ProgramText" "letters" "[I" ∈ wsX1_expand := List.mem_of_getElem? (i := 3) (by decide +kernel)
theorem qX1_expand_4 : Cond.fieldLink RX1 20 "ReelChanger$ProgramText" "groupStarts" "[I" ∈ wsX1_expand := List.mem_of_getElem? (i := 4) (by decide +kernel)
def wX1_expand_139 (G : rc_G) (post : Int → rc_M → Prop) (a0 : Nat) (k12 : Int → Int → Int → Int → Int → rc_M → Prop) (x1 : Int) (x2 : Int) (x3 : Int) (x4 : Int) (x5 : Int) (I : rc_M) : Prop :=
  k12 x1 x2 x3 x4 (x5 + 1) I
set_option maxRecDepth 100000 in
set_option maxHeartbeats 4000000 in
theorem gX1_expand_139 {p : Program} {l : Launch} {e : Env} {s : State} {m : MethodId} {below : List Frame} {meth : Method} {c : Code} {G : rc_G} {a0 : Nat} {I : rc_M} {post : Int → rc_M → Prop} {k12 : Int → Int → Int → Int → Int → rc_M → Prop} {x1 : Int} {x2 : Int} {x3 : Int} {x4 : Int} {x5 : Int} (X : rc_X p s m ([.ref a0] : List Value).toArray meth c cX1_expand 7 wsX1_expand RX1 G (rc_A G)) (hr : meth.sig.returnType = some .int) (T0 : kX1 G a0) (hk12 : ∀ (x1 : Int) (x2 : Int) (x3 : Int) (x4 : Int) (x5 : Int) (J : rc_M), k12 x1 x2 x3 x4 x5 J → rc_g p l e rmX1_expand s m ([.ref a0] : List Value).toArray below meth c 0 0 (MQ below (rc_QI G post) ([.ref a0] : List Value).toArray s 0 0 (rc_A G)) 7 G (rc_A G) 12 [(0, .ref a0), (1, .int (rc_o x1)), (2, .int (rc_o x2)), (3, .int (rc_o x3)), (4, .int (rc_o x4)), (5, .int (rc_o x5))] [] J)  (h : wX1_expand_139 G post a0 k12 x1 x2 x3 x4 x5 I) : rc_g p l e rmX1_expand s m ([.ref a0] : List Value).toArray below meth c 0 0 (MQ below (rc_QI G post) ([.ref a0] : List Value).toArray s 0 0 (rc_A G)) 7 G (rc_A G) 139 [(0, .ref a0), (1, .int (rc_o x1)), (2, .int (rc_o x2)), (3, .int (rc_o x3)), (4, .int (rc_o x4)), (5, .int (rc_o x5))] [] I := by
  unfold wX1_expand_139 at h
  refine rc_iinc X [(5, .int (rc_o (x5 + 1))), (0, .ref a0), (1, .int (rc_o x1)), (2, .int (rc_o x2)), (3, .int (rc_o x3)), (4, .int (rc_o x4))] dX1_expand_139 5 rfl (by decide) rfl ?_
  refine rc_goto X 12 dX1_expand_142 (by decide) ?_
  refine rc_subl [(0, .ref a0), (1, .int (rc_o x1)), (2, .int (rc_o x2)), (3, .int (rc_o x3)), (4, .int (rc_o x4)), (5, .int (rc_o (x5 + 1)))] [1, 2, 3, 4, 5, 0] rfl ?_
  exact hk12 _ _ _ _ _ _ h
def wX1_expand_12 (G : rc_G) (post : Int → rc_M → Prop) (a0 : Nat) (k12 : Int → Int → Int → Int → Int → rc_M → Prop) (x1 : Int) (x2 : Int) (x3 : Int) (x4 : Int) (x5 : Int) (I : rc_M) : Prop :=
  rc_R x5 ∧ (rc_R (I a0 2) ∧ (((I a0 2) ≤ x5 → post x1 I) ∧ (¬ (I a0 2) ≤ x5 → rc_R x5 ∧ ((60 ≤ x5 → post x1 I) ∧ (¬ 60 ≤ x5 → rc_R x1 ∧ ((x1 = (-100004) → post x1 I) ∧ (¬ x1 = (-100004) → (0 ≤ x5 ∧ x5 < 60) ∧ (rc_R (I (a0 + 2) x5) ∧ ((¬ (I (a0 + 2) x5) = 40 → rc_R (I (a0 + 2) x5) ∧ ((¬ (I (a0 + 2) x5) = 41 → rc_R (I (a0 + 2) x5) ∧ ((¬ (I (a0 + 2) x5) = 120 → rc_R x4 ∧ ((x4 = 0 → wX1_addReel G a0 ((I (a0 + 2) x5) - 48) x1 I (fun r18 I17 => wX1_expand_139 G post a0 k12 r18 x2 x3 x4 x5 I17)) ∧ (¬ x4 = 0 → wX1_repeatGroup G a0 x3 x1 ((I (a0 + 2) x5) - 48) I (fun r20 I19 => wX1_expand_139 G post a0 k12 r20 x2 x3 0 x5 I19)))) ∧ ((I (a0 + 2) x5) = 120 → wX1_expand_139 G post a0 k12 x1 x2 x3 1 x5 I))) ∧ ((I (a0 + 2) x5) = 41 → rc_R x2 ∧ ((x2 ≤ 0 → wX1_expand_139 G post a0 k12 x1 x2 x3 x4 x5 I) ∧ (¬ x2 ≤ 0 → (0 ≤ x2 + (-1) ∧ x2 + (-1) < 3) ∧ (wX1_expand_139 G post a0 k12 x1 (x2 + (-1)) (I (a0 + 3) (x2 + (-1))) x4 x5 I)))))) ∧ ((I (a0 + 2) x5) = 40 → rc_R x2 ∧ ((3 ≤ x2 → wX1_expand_139 G post a0 k12 x1 x2 x3 x4 x5 I) ∧ (¬ 3 ≤ x2 → (0 ≤ x2 ∧ x2 < 3) ∧ (∀ I27, I27 = rc_s I (a0 + 3) x2 x1 → wX1_expand_139 G post a0 k12 x1 (x2 + 1) x3 x4 x5 I27)))))))))))))
set_option maxRecDepth 100000 in
set_option maxHeartbeats 4000000 in
theorem gX1_expand_12 {p : Program} {l : Launch} {e : Env} {s : State} {m : MethodId} {below : List Frame} {meth : Method} {c : Code} {G : rc_G} {a0 : Nat} {I : rc_M} {post : Int → rc_M → Prop} {k12 : Int → Int → Int → Int → Int → rc_M → Prop} {x1 : Int} {x2 : Int} {x3 : Int} {x4 : Int} {x5 : Int} (X : rc_X p s m ([.ref a0] : List Value).toArray meth c cX1_expand 7 wsX1_expand RX1 G (rc_A G)) (hr : meth.sig.returnType = some .int) (T0 : kX1 G a0) (hk12 : ∀ (x1 : Int) (x2 : Int) (x3 : Int) (x4 : Int) (x5 : Int) (J : rc_M), k12 x1 x2 x3 x4 x5 J → rc_g p l e rmX1_expand s m ([.ref a0] : List Value).toArray below meth c 0 0 (MQ below (rc_QI G post) ([.ref a0] : List Value).toArray s 0 0 (rc_A G)) 7 G (rc_A G) 12 [(0, .ref a0), (1, .int (rc_o x1)), (2, .int (rc_o x2)), (3, .int (rc_o x3)), (4, .int (rc_o x4)), (5, .int (rc_o x5))] [] J)  (h : wX1_expand_12 G post a0 k12 x1 x2 x3 x4 x5 I) : rc_g p l e rmX1_expand s m ([.ref a0] : List Value).toArray below meth c 0 0 (MQ below (rc_QI G post) ([.ref a0] : List Value).toArray s 0 0 (rc_A G)) 7 G (rc_A G) 12 [(0, .ref a0), (1, .int (rc_o x1)), (2, .int (rc_o x2)), (3, .int (rc_o x3)), (4, .int (rc_o x4)), (5, .int (rc_o x5))] [] I := by
  unfold wX1_expand_12 at h
  refine rc_iload X dX1_expand_12 5 rfl ?_
  refine rc_aload_n X dX1_expand_14 rfl 0 rfl ?_
  refine gfX1_length X T0.1 nX1_expand_X1 qX1_expand_1 dX1_expand_15 ?_
  obtain ⟨c1, h⟩ := h
  obtain ⟨c2, h⟩ := h
  refine rc_ic_ge X 145 dX1_expand_18 (by decide) c1 c2 (fun c3 => ?_) (fun c3 => ?_)
  · have h := h.1 c3
    refine rc_iload_n X dX1_expand_145 rfl 1 rfl ?_
    exact rc_iret X hr dX1_expand_146 h
  · have h := h.2 c3
    refine rc_iload X dX1_expand_21 5 rfl ?_
    refine rc_bipush X dX1_expand_23 (rc_b8 _ ⟨by decide, by decide⟩) ?_
    obtain ⟨c4, h⟩ := h
    refine rc_ic_ge X 145 dX1_expand_25 (by decide) c4 ⟨by decide, by decide⟩ (fun c5 => ?_) (fun c5 => ?_)
    · have h := h.1 c5
      refine rc_iload_n X dX1_expand_145 rfl 1 rfl ?_
      exact rc_iret X hr dX1_expand_146 h
    · have h := h.2 c5
      refine rc_iload_n X dX1_expand_28 rfl 1 rfl ?_
      refine rc_ldc (n := (-100004)) X qX1_expand_2 (by decide +kernel) dX1_expand_29 ?_
      obtain ⟨c6, h⟩ := h
      refine rc_ic_eq X 145 dX1_expand_31 (by decide) c6 ⟨by decide, by decide⟩ (fun c7 => ?_) (fun c7 => ?_)
      · have h := h.1 c7
        refine rc_iload_n X dX1_expand_145 rfl 1 rfl ?_
        exact rc_iret X hr dX1_expand_146 h
      · have h := h.2 c7
        refine rc_aload_n X dX1_expand_34 rfl 0 rfl ?_
        refine gfX1_letters X T0.1 nX1_expand_X1 qX1_expand_3 dX1_expand_35 ?_
        refine rc_iload X dX1_expand_38 5 rfl ?_
        obtain ⟨c8, h⟩ := h
        refine rc_iald X T0.2.2.1 (by decide) dX1_expand_40 c8 ?_
        refine rc_istore X [(6, .int (rc_o (I (a0 + 2) x5))), (0, .ref a0), (1, .int (rc_o x1)), (2, .int (rc_o x2)), (3, .int (rc_o x3)), (4, .int (rc_o x4)), (5, .int (rc_o x5))] dX1_expand_41 (by decide) rfl ?_
        refine rc_iload X dX1_expand_43 0 rfl ?_
        refine rc_bipush X dX1_expand_45 (rc_b8 _ ⟨by decide, by decide⟩) ?_
        obtain ⟨c9, h⟩ := h
        refine rc_ic_ne X 68 dX1_expand_47 (by decide) c9 ⟨by decide, by decide⟩ (fun c10 => ?_) (fun c10 => ?_)
        · have h := h.1 c10
          refine rc_iload X dX1_expand_68 0 rfl ?_
          refine rc_bipush X dX1_expand_70 (rc_b8 _ ⟨by decide, by decide⟩) ?_
          obtain ⟨c11, h⟩ := h
          refine rc_ic_ne X 92 dX1_expand_72 (by decide) c11 ⟨by decide, by decide⟩ (fun c12 => ?_) (fun c12 => ?_)
          · have h := h.1 c12
            refine rc_iload X dX1_expand_92 0 rfl ?_
            refine rc_bipush X dX1_expand_94 (rc_b8 _ ⟨by decide, by decide⟩) ?_
            obtain ⟨c13, h⟩ := h
            refine rc_ic_ne X 105 dX1_expand_96 (by decide) c13 ⟨by decide, by decide⟩ (fun c14 => ?_) (fun c14 => ?_)
            · have h := h.1 c14
              refine rc_iload X dX1_expand_105 5 rfl ?_
              obtain ⟨c15, h⟩ := h
              refine rc_if_eq X 128 dX1_expand_107 (by decide) c15 (fun c16 => ?_) (fun c16 => ?_)
              · have h := h.1 c16
                refine rc_aload_n X dX1_expand_128 rfl 1 rfl ?_
                refine rc_iload X dX1_expand_129 0 rfl ?_
                refine rc_bipush X dX1_expand_131 (rc_b8 _ ⟨by decide, by decide⟩) ?_
                refine rc_isub X dX1_expand_133 ?_
                refine rc_iload_n X dX1_expand_134 rfl 2 rfl ?_
                refine rc_cVI (rest := []) X (mX1_addReel T0 h) gX1_expand_X1_addReel rfl ⟨rfl, rfl⟩ dyX1_addReel ⟨Nat.le_of_ble_eq_true rfl, Nat.le_of_ble_eq_true rfl⟩ (rc_recv X T0.1 rfl) rfl rfl (Nat.le_of_ble_eq_true rfl) dX1_expand_135 ⟨Nat.zero_le _, Nat.zero_le _⟩ (fun r18 I17 h => ?_)
                refine rc_istore_n X [(1, .int (rc_o r18)), (6, .int (rc_o (I (a0 + 2) x5))), (0, .ref a0), (2, .int (rc_o x2)), (3, .int (rc_o x3)), (4, .int (rc_o x4)), (5, .int (rc_o x5))] dX1_expand_138 rfl (by decide) rfl ?_
                refine rc_subl [(0, .ref a0), (1, .int (rc_o r18)), (2, .int (rc_o x2)), (3, .int (rc_o x3)), (4, .int (rc_o x4)), (5, .int (rc_o x5))] [2, 0, 3, 4, 5, 6] rfl ?_
                exact gX1_expand_139 X hr T0 hk12  h
              · have h := h.2 c16
                refine rc_aload_n X dX1_expand_110 rfl 1 rfl ?_
                refine rc_iload_n X dX1_expand_111 rfl 4 rfl ?_
                refine rc_iload_n X dX1_expand_112 rfl 2 rfl ?_
                refine rc_iload X dX1_expand_113 0 rfl ?_
                refine rc_bipush X dX1_expand_115 (rc_b8 _ ⟨by decide, by decide⟩) ?_
                refine rc_isub X dX1_expand_117 ?_
                refine rc_cVI (rest := []) X (mX1_repeatGroup T0 h) gX1_expand_X1_repeatGroup rfl ⟨rfl, rfl⟩ dyX1_repeatGroup ⟨Nat.le_of_ble_eq_true rfl, Nat.le_of_ble_eq_true rfl⟩ (rc_recv X T0.1 rfl) rfl rfl (Nat.le_of_ble_eq_true rfl) dX1_expand_118 ⟨Nat.zero_le _, Nat.zero_le _⟩ (fun r20 I19 h => ?_)
                refine rc_istore_n X [(1, .int (rc_o r20)), (6, .int (rc_o (I (a0 + 2) x5))), (0, .ref a0), (2, .int (rc_o x2)), (3, .int (rc_o x3)), (4, .int (rc_o x4)), (5, .int (rc_o x5))] dX1_expand_121 rfl (by decide) rfl ?_
                refine rc_iconst X dX1_expand_122 ?_
                refine rc_istore X [(4, .int (rc_o 0)), (1, .int (rc_o r20)), (6, .int (rc_o (I (a0 + 2) x5))), (0, .ref a0), (2, .int (rc_o x2)), (3, .int (rc_o x3)), (5, .int (rc_o x5))] dX1_expand_123 (by decide) rfl ?_
                refine rc_goto X 139 dX1_expand_125 (by decide) ?_
                refine rc_subl [(0, .ref a0), (1, .int (rc_o r20)), (2, .int (rc_o x2)), (3, .int (rc_o x3)), (4, .int (rc_o 0)), (5, .int (rc_o x5))] [3, 1, 4, 5, 0, 6] rfl ?_
                exact gX1_expand_139 X hr T0 hk12  h
            · have h := h.2 c14
              refine rc_iconst X dX1_expand_99 ?_
              refine rc_istore X [(4, .int (rc_o 1)), (6, .int (rc_o (I (a0 + 2) x5))), (0, .ref a0), (1, .int (rc_o x1)), (2, .int (rc_o x2)), (3, .int (rc_o x3)), (5, .int (rc_o x5))] dX1_expand_100 (by decide) rfl ?_
              refine rc_goto X 139 dX1_expand_102 (by decide) ?_
              refine rc_subl [(0, .ref a0), (1, .int (rc_o x1)), (2, .int (rc_o x2)), (3, .int (rc_o x3)), (4, .int (rc_o 1)), (5, .int (rc_o x5))] [2, 3, 4, 5, 0, 6] rfl ?_
              exact gX1_expand_139 X hr T0 hk12  h
          · have h := h.2 c12
            refine rc_iload_n X dX1_expand_75 rfl 3 rfl ?_
            obtain ⟨c21, h⟩ := h
            refine rc_if_le X 139 dX1_expand_76 (by decide) c21 (fun c22 => ?_) (fun c22 => ?_)
            · have h := h.1 c22
              refine rc_subl [(0, .ref a0), (1, .int (rc_o x1)), (2, .int (rc_o x2)), (3, .int (rc_o x3)), (4, .int (rc_o x4)), (5, .int (rc_o x5))] [1, 2, 3, 4, 5, 6] rfl ?_
              exact gX1_expand_139 X hr T0 hk12  h
            · have h := h.2 c22
              refine rc_iinc X [(2, .int (rc_o (x2 + (-1)))), (6, .int (rc_o (I (a0 + 2) x5))), (0, .ref a0), (1, .int (rc_o x1)), (3, .int (rc_o x3)), (4, .int (rc_o x4)), (5, .int (rc_o x5))] dX1_expand_79 3 rfl (by decide) rfl ?_
              refine rc_aload_n X dX1_expand_82 rfl 2 rfl ?_
              refine gfX1_groupStarts X T0.1 nX1_expand_X1 qX1_expand_4 dX1_expand_83 ?_
              refine rc_iload_n X dX1_expand_86 rfl 0 rfl ?_
              obtain ⟨c23, h⟩ := h
              refine rc_iald X T0.2.2.2 (by decide) dX1_expand_87 c23 ?_
              refine rc_istore_n X [(3, .int (rc_o (I (a0 + 3) (x2 + (-1))))), (2, .int (rc_o (x2 + (-1)))), (6, .int (rc_o (I (a0 + 2) x5))), (0, .ref a0), (1, .int (rc_o x1)), (4, .int (rc_o x4)), (5, .int (rc_o x5))] dX1_expand_88 rfl (by decide) rfl ?_
              refine rc_goto X 139 dX1_expand_89 (by decide) ?_
              refine rc_subl [(0, .ref a0), (1, .int (rc_o x1)), (2, .int (rc_o (x2 + (-1)))), (3, .int (rc_o (I (a0 + 3) (x2 + (-1))))), (4, .int (rc_o x4)), (5, .int (rc_o x5))] [3, 4, 1, 0, 5, 6] rfl ?_
              exact gX1_expand_139 X hr T0 hk12  h
        · have h := h.2 c10
          refine rc_iload_n X dX1_expand_50 rfl 3 rfl ?_
          refine rc_iconst X dX1_expand_51 ?_
          obtain ⟨c24, h⟩ := h
          refine rc_ic_ge X 139 dX1_expand_52 (by decide) c24 ⟨by decide, by decide⟩ (fun c25 => ?_) (fun c25 => ?_)
          · have h := h.1 c25
            refine rc_subl [(0, .ref a0), (1, .int (rc_o x1)), (2, .int (rc_o x2)), (3, .int (rc_o x3)), (4, .int (rc_o x4)), (5, .int (rc_o x5))] [1, 2, 3, 4, 5, 6] rfl ?_
            exact gX1_expand_139 X hr T0 hk12  h
          · have h := h.2 c25
            refine rc_aload_n X dX1_expand_55 rfl 1 rfl ?_
            refine gfX1_groupStarts X T0.1 nX1_expand_X1 qX1_expand_4 dX1_expand_56 ?_
            refine rc_iload_n X dX1_expand_59 rfl 3 rfl ?_
            refine rc_iload_n X dX1_expand_60 rfl 2 rfl ?_
            obtain ⟨c26, h⟩ := h
            refine rc_iast X T0.2.2.2 (by decide) dX1_expand_61 c26 (fun I27 e27 => ?_)
            have h := h I27 e27
            refine rc_iinc X [(2, .int (rc_o (x2 + 1))), (6, .int (rc_o (I (a0 + 2) x5))), (0, .ref a0), (1, .int (rc_o x1)), (3, .int (rc_o x3)), (4, .int (rc_o x4)), (5, .int (rc_o x5))] dX1_expand_62 3 rfl (by decide) rfl ?_
            refine rc_goto X 139 dX1_expand_65 (by decide) ?_
            refine rc_subl [(0, .ref a0), (1, .int (rc_o x1)), (2, .int (rc_o (x2 + 1))), (3, .int (rc_o x3)), (4, .int (rc_o x4)), (5, .int (rc_o x5))] [2, 3, 0, 4, 5, 6] rfl ?_
            exact gX1_expand_139 X hr T0 hk12  h
noncomputable def rX1_expand_12 (G : rc_G) (post : Int → rc_M → Prop) (a0 : Nat)  (n : Nat) : Int → Int → Int → Int → Int → rc_M → Prop :=
  Nat.rec (motive := fun _ => Int → Int → Int → Int → Int → rc_M → Prop) (fun _ _ _ _ _ _ => False) (fun _ ih => wX1_expand_12 G post a0  ih) n
set_option maxRecDepth 100000 in
set_option maxHeartbeats 4000000 in
theorem sX1_expand_12 {p : Program} {l : Launch} {e : Env} {s : State} {m : MethodId} {below : List Frame} {meth : Method} {c : Code} {G : rc_G} {a0 : Nat} {I : rc_M} {post : Int → rc_M → Prop}  {n : Nat} {x1 : Int} {x2 : Int} {x3 : Int} {x4 : Int} {x5 : Int} (X : rc_X p s m ([.ref a0] : List Value).toArray meth c cX1_expand 7 wsX1_expand RX1 G (rc_A G)) (hr : meth.sig.returnType = some .int) (T0 : kX1 G a0)  (h : rX1_expand_12 G post a0  n x1 x2 x3 x4 x5 I) : rc_g p l e rmX1_expand s m ([.ref a0] : List Value).toArray below meth c 0 0 (MQ below (rc_QI G post) ([.ref a0] : List Value).toArray s 0 0 (rc_A G)) 7 G (rc_A G) 12 [(0, .ref a0), (1, .int (rc_o x1)), (2, .int (rc_o x2)), (3, .int (rc_o x3)), (4, .int (rc_o x4)), (5, .int (rc_o x5))] [] I := by
  induction n generalizing x1 x2 x3 x4 x5 I with
  | zero => exact h.elim
  | succ n ih => exact gX1_expand_12 (k12 := rX1_expand_12 G post a0  n) X hr T0  (fun x1 x2 x3 x4 x5 J h2 => ih h2) h
def wX1_expand (G : rc_G) (a0 : Nat) (I : rc_M) (post : Int → rc_M → Prop) : Prop :=
  ∃ n, rX1_expand_12 G post a0  n 0 0 0 0 0 I
set_option maxRecDepth 100000 in
set_option maxHeartbeats 4000000 in
theorem gX1_expand_0 {p : Program} {l : Launch} {e : Env} {s : State} {m : MethodId} {below : List Frame} {meth : Method} {c : Code} {G : rc_G} {a0 : Nat} {I : rc_M} {post : Int → rc_M → Prop}  (X : rc_X p s m ([.ref a0] : List Value).toArray meth c cX1_expand 7 wsX1_expand RX1 G (rc_A G)) (hr : meth.sig.returnType = some .int) (T0 : kX1 G a0)  (h : wX1_expand G a0 I post) : rc_g p l e rmX1_expand s m ([.ref a0] : List Value).toArray below meth c 0 0 (MQ below (rc_QI G post) ([.ref a0] : List Value).toArray s 0 0 (rc_A G)) 7 G (rc_A G) 0 [(0, .ref a0)] [] I := by
  unfold wX1_expand at h
  refine rc_iconst X dX1_expand_0 ?_
  refine rc_istore_n X [(1, .int (rc_o 0)), (0, .ref a0)] dX1_expand_1 rfl (by decide) rfl ?_
  refine rc_iconst X dX1_expand_2 ?_
  refine rc_istore_n X [(2, .int (rc_o 0)), (1, .int (rc_o 0)), (0, .ref a0)] dX1_expand_3 rfl (by decide) rfl ?_
  refine rc_iconst X dX1_expand_4 ?_
  refine rc_istore_n X [(3, .int (rc_o 0)), (2, .int (rc_o 0)), (1, .int (rc_o 0)), (0, .ref a0)] dX1_expand_5 rfl (by decide) rfl ?_
  refine rc_iconst X dX1_expand_6 ?_
  refine rc_istore X [(4, .int (rc_o 0)), (3, .int (rc_o 0)), (2, .int (rc_o 0)), (1, .int (rc_o 0)), (0, .ref a0)] dX1_expand_7 (by decide) rfl ?_
  refine rc_iconst X dX1_expand_9 ?_
  refine rc_istore X [(5, .int (rc_o 0)), (4, .int (rc_o 0)), (3, .int (rc_o 0)), (2, .int (rc_o 0)), (1, .int (rc_o 0)), (0, .ref a0)] dX1_expand_10 (by decide) rfl ?_
  refine rc_subl [(0, .ref a0), (1, .int (rc_o 0)), (2, .int (rc_o 0)), (3, .int (rc_o 0)), (4, .int (rc_o 0)), (5, .int (rc_o 0))] [5, 4, 3, 2, 1, 0] rfl ?_
  obtain ⟨n, h⟩ := h
  exact sX1_expand_12 X hr T0  h
theorem mX1_expand {l : Launch} {G : rc_G} {a0 : Nat} {I : rc_M} {post : Int → rc_M → Prop} (T0 : kX1 G a0) (h : wX1_expand G a0 I post) : rc_CI l yX1_expand wsX1_expand rmX1_expand G [.ref a0] I post :=
  rc_body (by decide +kernel) rfl rfl (Nat.le_of_ble_eq_true rfl) rfl (fun p e s m below meth c X hr => gX1_expand_0 X hr T0 h)
