/-! L_low -/
abbrev rmL_low : Room := { frames := 0, cells := 0, slots := 0, locals := 0 }
theorem dyL_low : yL_low.cls = RL ∧ yL_low.cls ≠ "java/lang/invoke/MethodHandle" ∧ yL_low.cls ≠ "java/lang/invoke/VarHandle" ∧ (parseMethodDescriptor yL_low.desc).map (fun d => d.parameters.length) = some 1 := ⟨rfl, by decide +kernel, by decide +kernel, by decide +kernel⟩
def wL_low_11 (G : rc_G) (post : Int → rc_M → Prop) (a0 : Int)   (I : rc_M) : Prop :=
  post 0 I
set_option maxRecDepth 100000 in
set_option maxHeartbeats 4000000 in
theorem gL_low_11 {p : Program} {l : Launch} {e : Env} {s : State} {m : MethodId} {below : List Frame} {meth : Method} {c : Code} {G : rc_G} {a0 : Int} {I : rc_M} {post : Int → rc_M → Prop}   (X : rc_X p s m ([.int (rc_o a0)] : List Value).toArray meth c cL_low 1 wsL_low RL G (rc_A G)) (hr : meth.sig.returnType = some .int)    (h : wL_low_11 G post a0   I) : rc_g p l e rmL_low s m ([.int (rc_o a0)] : List Value).toArray below meth c 0 0 (MQ below (rc_QI G post) ([.int (rc_o a0)] : List Value).toArray s 0 0 (rc_A G)) 1 G (rc_A G) 11 [] [] I := by
  unfold wL_low_11 at h
  refine rc_iconst X dL_low_11 ?_
  refine rc_goto X 16 dL_low_12 (by decide) ?_
  exact rc_iret X hr dL_low_16 h
def wL_low (G : rc_G) (a0 : Int) (I : rc_M) (post : Int → rc_M → Prop) : Prop :=
  rc_R a0 ∧ ((a0 = 2 → wL_low_11 G post a0   I) ∧ (¬ a0 = 2 → rc_R a0 ∧ ((¬ a0 = 7 → post 1 I) ∧ (a0 = 7 → wL_low_11 G post a0   I))))
set_option maxRecDepth 100000 in
set_option maxHeartbeats 4000000 in
theorem gL_low_0 {p : Program} {l : Launch} {e : Env} {s : State} {m : MethodId} {below : List Frame} {meth : Method} {c : Code} {G : rc_G} {a0 : Int} {I : rc_M} {post : Int → rc_M → Prop}  (X : rc_X p s m ([.int (rc_o a0)] : List Value).toArray meth c cL_low 1 wsL_low RL G (rc_A G)) (hr : meth.sig.returnType = some .int)   (h : wL_low G a0 I post) : rc_g p l e rmL_low s m ([.int (rc_o a0)] : List Value).toArray below meth c 0 0 (MQ below (rc_QI G post) ([.int (rc_o a0)] : List Value).toArray s 0 0 (rc_A G)) 1 G (rc_A G) 0 [(0, .int (rc_o a0))] [] I := by
  unfold wL_low at h
  refine rc_iload_n X dL_low_0 rfl 0 rfl ?_
  refine rc_iconst X dL_low_1 ?_
  obtain ⟨c1, h⟩ := h
  refine rc_ic_eq X 11 dL_low_2 (by decide) c1 ⟨by decide, by decide⟩ (fun c2 => ?_) (fun c2 => ?_)
  · have h := h.1 c2
    refine rc_subl [] [] rfl ?_
    exact gL_low_11 X hr    h
  · have h := h.2 c2
    refine rc_iload_n X dL_low_5 rfl 0 rfl ?_
    refine rc_bipush X dL_low_6 (rc_b8 _ ⟨by decide, by decide⟩) ?_
    obtain ⟨c3, h⟩ := h
    refine rc_ic_ne X 15 dL_low_8 (by decide) c3 ⟨by decide, by decide⟩ (fun c4 => ?_) (fun c4 => ?_)
    · have h := h.1 c4
      refine rc_iconst X dL_low_15 ?_
      exact rc_iret X hr dL_low_16 h
    · have h := h.2 c4
      refine rc_subl [] [] rfl ?_
      exact gL_low_11 X hr    h
theorem mL_low {l : Launch} {G : rc_G} {a0 : Int} {I : rc_M} {post : Int → rc_M → Prop}  (h : wL_low G a0 I post) : rc_CI l yL_low wsL_low rmL_low G [.int (rc_o a0)] I post :=
  rc_body (by decide +kernel) rfl rfl (Nat.le_of_ble_eq_true rfl) rfl (fun p e s m below meth c X hr => gL_low_0 X hr  h)
/-! L_high -/
abbrev rmL_high : Room := { frames := 0, cells := 0, slots := 0, locals := 0 }
theorem dyL_high : yL_high.cls = RL ∧ yL_high.cls ≠ "java/lang/invoke/MethodHandle" ∧ yL_high.cls ≠ "java/lang/invoke/VarHandle" ∧ (parseMethodDescriptor yL_high.desc).map (fun d => d.parameters.length) = some 1 := ⟨rfl, by decide +kernel, by decide +kernel, by decide +kernel⟩
def wL_high_29 (G : rc_G) (post : Int → rc_M → Prop) (a0 : Int)   (I : rc_M) : Prop :=
  post 50 I
set_option maxRecDepth 100000 in
set_option maxHeartbeats 4000000 in
theorem gL_high_29 {p : Program} {l : Launch} {e : Env} {s : State} {m : MethodId} {below : List Frame} {meth : Method} {c : Code} {G : rc_G} {a0 : Int} {I : rc_M} {post : Int → rc_M → Prop}   (X : rc_X p s m ([.int (rc_o a0)] : List Value).toArray meth c cL_high 1 wsL_high RL G (rc_A G)) (hr : meth.sig.returnType = some .int)    (h : wL_high_29 G post a0   I) : rc_g p l e rmL_high s m ([.int (rc_o a0)] : List Value).toArray below meth c 0 0 (MQ below (rc_QI G post) ([.int (rc_o a0)] : List Value).toArray s 0 0 (rc_A G)) 1 G (rc_A G) 29 [] [] I := by
  unfold wL_high_29 at h
  refine rc_bipush X dL_high_29 (rc_b8 _ ⟨by decide, by decide⟩) ?_
  refine rc_goto X 64 dL_high_31 (by decide) ?_
  exact rc_iret X hr dL_high_64 h
def wL_high_44 (G : rc_G) (post : Int → rc_M → Prop) (a0 : Int)   (I : rc_M) : Prop :=
  post 200 I
set_option maxRecDepth 100000 in
set_option maxHeartbeats 4000000 in
theorem gL_high_44 {p : Program} {l : Launch} {e : Env} {s : State} {m : MethodId} {below : List Frame} {meth : Method} {c : Code} {G : rc_G} {a0 : Int} {I : rc_M} {post : Int → rc_M → Prop}   (X : rc_X p s m ([.int (rc_o a0)] : List Value).toArray meth c cL_high 1 wsL_high RL G (rc_A G)) (hr : meth.sig.returnType = some .int)    (h : wL_high_44 G post a0   I) : rc_g p l e rmL_high s m ([.int (rc_o a0)] : List Value).toArray below meth c 0 0 (MQ below (rc_QI G post) ([.int (rc_o a0)] : List Value).toArray s 0 0 (rc_A G)) 1 G (rc_A G) 44 [] [] I := by
  unfold wL_high_44 at h
  refine rc_sipush X dL_high_44 (rc_b16 _ ⟨by decide, by decide⟩) ?_
  refine rc_goto X 64 dL_high_47 (by decide) ?_
  exact rc_iret X hr dL_high_64 h
def wL_high (G : rc_G) (a0 : Int) (I : rc_M) (post : Int → rc_M → Prop) : Prop :=
  rc_R a0 ∧ ((¬ a0 = 0 → rc_R a0 ∧ ((¬ a0 = 1 → rc_R a0 ∧ ((a0 = 2 → wL_high_29 G post a0   I) ∧ (¬ a0 = 2 → rc_R a0 ∧ ((¬ a0 = 4 → rc_R a0 ∧ ((a0 = 3 → wL_high_44 G post a0   I) ∧ (¬ a0 = 3 → rc_R a0 ∧ ((¬ a0 = 5 → rc_R a0 ∧ ((¬ a0 = 6 → post 20 I) ∧ (a0 = 6 → post 500 I))) ∧ (a0 = 5 → wL_high_44 G post a0   I))))) ∧ (a0 = 4 → wL_high_29 G post a0   I))))) ∧ (a0 = 1 → post 99 I))) ∧ (a0 = 0 → post 90 I))
set_option maxRecDepth 100000 in
set_option maxHeartbeats 4000000 in
theorem gL_high_0 {p : Program} {l : Launch} {e : Env} {s : State} {m : MethodId} {below : List Frame} {meth : Method} {c : Code} {G : rc_G} {a0 : Int} {I : rc_M} {post : Int → rc_M → Prop}  (X : rc_X p s m ([.int (rc_o a0)] : List Value).toArray meth c cL_high 1 wsL_high RL G (rc_A G)) (hr : meth.sig.returnType = some .int)   (h : wL_high G a0 I post) : rc_g p l e rmL_high s m ([.int (rc_o a0)] : List Value).toArray below meth c 0 0 (MQ below (rc_QI G post) ([.int (rc_o a0)] : List Value).toArray s 0 0 (rc_A G)) 1 G (rc_A G) 0 [(0, .int (rc_o a0))] [] I := by
  unfold wL_high at h
  refine rc_iload_n X dL_high_0 rfl 0 rfl ?_
  obtain ⟨c1, h⟩ := h
  refine rc_if_ne X 9 dL_high_1 (by decide) c1 (fun c2 => ?_) (fun c2 => ?_)
  · have h := h.1 c2
    refine rc_iload_n X dL_high_9 rfl 0 rfl ?_
    refine rc_iconst X dL_high_10 ?_
    obtain ⟨c3, h⟩ := h
    refine rc_ic_ne X 19 dL_high_11 (by decide) c3 ⟨by decide, by decide⟩ (fun c4 => ?_) (fun c4 => ?_)
    · have h := h.1 c4
      refine rc_iload_n X dL_high_19 rfl 0 rfl ?_
      refine rc_iconst X dL_high_20 ?_
      obtain ⟨c5, h⟩ := h
      refine rc_ic_eq X 29 dL_high_21 (by decide) c5 ⟨by decide, by decide⟩ (fun c6 => ?_) (fun c6 => ?_)
      · have h := h.1 c6
        refine rc_subl [] [] rfl ?_
        exact gL_high_29 X hr    h
      · have h := h.2 c6
        refine rc_iload_n X dL_high_24 rfl 0 rfl ?_
        refine rc_iconst X dL_high_25 ?_
        obtain ⟨c7, h⟩ := h
        refine rc_ic_ne X 34 dL_high_26 (by decide) c7 ⟨by decide, by decide⟩ (fun c8 => ?_) (fun c8 => ?_)
        · have h := h.1 c8
          refine rc_iload_n X dL_high_34 rfl 0 rfl ?_
          refine rc_iconst X dL_high_35 ?_
          obtain ⟨c9, h⟩ := h
          refine rc_ic_eq X 44 dL_high_36 (by decide) c9 ⟨by decide, by decide⟩ (fun c10 => ?_) (fun c10 => ?_)
          · have h := h.1 c10
            refine rc_subl [] [] rfl ?_
            exact gL_high_44 X hr    h
          · have h := h.2 c10
            refine rc_iload_n X dL_high_39 rfl 0 rfl ?_
            refine rc_iconst X dL_high_40 ?_
            obtain ⟨c11, h⟩ := h
            refine rc_ic_ne X 50 dL_high_41 (by decide) c11 ⟨by decide, by decide⟩ (fun c12 => ?_) (fun c12 => ?_)
            · have h := h.1 c12
              refine rc_iload_n X dL_high_50 rfl 0 rfl ?_
              refine rc_bipush X dL_high_51 (rc_b8 _ ⟨by decide, by decide⟩) ?_
              obtain ⟨c13, h⟩ := h
              refine rc_ic_ne X 62 dL_high_53 (by decide) c13 ⟨by decide, by decide⟩ (fun c14 => ?_) (fun c14 => ?_)
              · have h := h.1 c14
                refine rc_bipush X dL_high_62 (rc_b8 _ ⟨by decide, by decide⟩) ?_
                exact rc_iret X hr dL_high_64 h
              · have h := h.2 c14
                refine rc_sipush X dL_high_56 (rc_b16 _ ⟨by decide, by decide⟩) ?_
                refine rc_goto X 64 dL_high_59 (by decide) ?_
                exact rc_iret X hr dL_high_64 h
            · have h := h.2 c12
              refine rc_subl [] [] rfl ?_
              exact gL_high_44 X hr    h
        · have h := h.2 c8
          refine rc_subl [] [] rfl ?_
          exact gL_high_29 X hr    h
    · have h := h.2 c4
      refine rc_bipush X dL_high_14 (rc_b8 _ ⟨by decide, by decide⟩) ?_
      refine rc_goto X 64 dL_high_16 (by decide) ?_
      exact rc_iret X hr dL_high_64 h
  · have h := h.2 c2
    refine rc_bipush X dL_high_4 (rc_b8 _ ⟨by decide, by decide⟩) ?_
    refine rc_goto X 64 dL_high_6 (by decide) ?_
    exact rc_iret X hr dL_high_64 h
theorem mL_high {l : Launch} {G : rc_G} {a0 : Int} {I : rc_M} {post : Int → rc_M → Prop}  (h : wL_high G a0 I post) : rc_CI l yL_high wsL_high rmL_high G [.int (rc_o a0)] I post :=
  rc_body (by decide +kernel) rfl rfl (Nat.le_of_ble_eq_true rfl) rfl (fun p e s m below meth c X hr => gL_high_0 X hr  h)
/-! L_first -/
abbrev rmL_first : Room := { frames := 0, cells := 0, slots := 0, locals := 0 }
theorem dyL_first : yL_first.cls = RL ∧ yL_first.cls ≠ "java/lang/invoke/MethodHandle" ∧ yL_first.cls ≠ "java/lang/invoke/VarHandle" ∧ (parseMethodDescriptor yL_first.desc).map (fun d => d.parameters.length) = some 1 := ⟨rfl, by decide +kernel, by decide +kernel, by decide +kernel⟩
def wL_first (G : rc_G) (a0 : Nat) (I : rc_M) (post : rc_M → Prop) : Prop :=
  ∀ I1, I1 = rc_s I a0 0 40 → ∀ I2, I2 = rc_s I1 a0 1 60 → ∀ I3, I3 = rc_s I2 a0 2 20 → ∀ I4, I4 = rc_s I3 a0 3 20 → ∀ I5, I5 = rc_s I4 a0 4 10 → ∀ I6, I6 = rc_s I5 a0 5 30 → ∀ I7, I7 = rc_s I6 a0 6 100 → ∀ I8, I8 = rc_s I7 a0 7 4 → post I8
set_option maxRecDepth 100000 in
set_option maxHeartbeats 4000000 in
theorem gL_first_0 {p : Program} {l : Launch} {e : Env} {s : State} {m : MethodId} {below : List Frame} {meth : Method} {c : Code} {G : rc_G} {a0 : Nat} {I : rc_M} {post : rc_M → Prop}  (X : rc_X p s m ([.ref a0] : List Value).toArray meth c cL_first 1 wsL_first RL G (rc_A G)) (hr : meth.sig.returnType = none) (T0 : rc_is G a0 (rc_sI G 8))  (h : wL_first G a0 I post) : rc_g p l e rmL_first s m ([.ref a0] : List Value).toArray below meth c 0 0 (MQ below (rc_QV G post) ([.ref a0] : List Value).toArray s 0 0 (rc_A G)) 1 G (rc_A G) 0 [(0, .ref a0)] [] I := by
  unfold wL_first at h
  refine rc_aload_n X dL_first_0 rfl 0 rfl ?_
  refine rc_iconst X dL_first_1 ?_
  refine rc_bipush X dL_first_2 (rc_b8 _ ⟨by decide, by decide⟩) ?_
  refine rc_iast X T0 (by decide) dL_first_4 ⟨by decide, by decide⟩ (fun I1 e1 => ?_)
  have h := h I1 e1
  refine rc_aload_n X dL_first_5 rfl 0 rfl ?_
  refine rc_iconst X dL_first_6 ?_
  refine rc_bipush X dL_first_7 (rc_b8 _ ⟨by decide, by decide⟩) ?_
  refine rc_iast X T0 (by decide) dL_first_9 ⟨by decide, by decide⟩ (fun I2 e2 => ?_)
  have h := h I2 e2
  refine rc_aload_n X dL_first_10 rfl 0 rfl ?_
  refine rc_iconst X dL_first_11 ?_
  refine rc_bipush X dL_first_12 (rc_b8 _ ⟨by decide, by decide⟩) ?_
  refine rc_iast X T0 (by decide) dL_first_14 ⟨by decide, by decide⟩ (fun I3 e3 => ?_)
  have h := h I3 e3
  refine rc_aload_n X dL_first_15 rfl 0 rfl ?_
  refine rc_iconst X dL_first_16 ?_
  refine rc_bipush X dL_first_17 (rc_b8 _ ⟨by decide, by decide⟩) ?_
  refine rc_iast X T0 (by decide) dL_first_19 ⟨by decide, by decide⟩ (fun I4 e4 => ?_)
  have h := h I4 e4
  refine rc_aload_n X dL_first_20 rfl 0 rfl ?_
  refine rc_iconst X dL_first_21 ?_
  refine rc_bipush X dL_first_22 (rc_b8 _ ⟨by decide, by decide⟩) ?_
  refine rc_iast X T0 (by decide) dL_first_24 ⟨by decide, by decide⟩ (fun I5 e5 => ?_)
  have h := h I5 e5
  refine rc_aload_n X dL_first_25 rfl 0 rfl ?_
  refine rc_iconst X dL_first_26 ?_
  refine rc_bipush X dL_first_27 (rc_b8 _ ⟨by decide, by decide⟩) ?_
  refine rc_iast X T0 (by decide) dL_first_29 ⟨by decide, by decide⟩ (fun I6 e6 => ?_)
  have h := h I6 e6
  refine rc_aload_n X dL_first_30 rfl 0 rfl ?_
  refine rc_bipush X dL_first_31 (rc_b8 _ ⟨by decide, by decide⟩) ?_
  refine rc_bipush X dL_first_33 (rc_b8 _ ⟨by decide, by decide⟩) ?_
  refine rc_iast X T0 (by decide) dL_first_35 ⟨by decide, by decide⟩ (fun I7 e7 => ?_)
  have h := h I7 e7
  refine rc_aload_n X dL_first_36 rfl 0 rfl ?_
  refine rc_bipush X dL_first_37 (rc_b8 _ ⟨by decide, by decide⟩) ?_
  refine rc_iconst X dL_first_39 ?_
  refine rc_iast X T0 (by decide) dL_first_40 ⟨by decide, by decide⟩ (fun I8 e8 => ?_)
  have h := h I8 e8
  exact rc_vret X hr dL_first_41 h
theorem mL_first {l : Launch} {G : rc_G} {a0 : Nat} {I : rc_M} {post : rc_M → Prop} (T0 : rc_is G a0 (rc_sI G 8)) (h : wL_first G a0 I post) : rc_CV l yL_first wsL_first rmL_first G [.ref a0] I post :=
  rc_body (by decide +kernel) rfl rfl (Nat.le_of_ble_eq_true rfl) rfl (fun p e s m below meth c X hr => gL_first_0 X hr T0 h)
/-! L_makes -/
abbrev rmL_makes : Room := { frames := 3, cells := 0, slots := 0, locals := 65 }
theorem dyL_makes : yL_makes.cls = RL ∧ yL_makes.cls ≠ "java/lang/invoke/MethodHandle" ∧ yL_makes.cls ≠ "java/lang/invoke/VarHandle" ∧ (parseMethodDescriptor yL_makes.desc).map (fun d => d.parameters.length) = some 4 := ⟨rfl, by decide +kernel, by decide +kernel, by decide +kernel⟩
theorem qL_makes_1 : Cond.constant RL 19 (-100005) ∈ wsL_makes := List.mem_of_getElem? (i := 1) (by decide +kernel)
def wL_makes (G : rc_G) (a0 : Nat) (a1 : Nat) (a2 : Int) (a3 : Int) (I : rc_M) (post : Int → rc_M → Prop) : Prop :=
  (0 ≤ 14 * a2 ∧ 14 * a2 < 56) ∧ (∀ I2, I2 = rc_s I a1 (14 * a2) a3 → (0 ≤ (14 * a2) + 1 ∧ (14 * a2) + 1 < 56) ∧ (∀ I4, I4 = rc_s I2 a1 ((14 * a2) + 1) 0 → wX7_makeReel G a0 a3 I4 (fun r6 I5 => rc_R r6 ∧ (rc_R a2 ∧ ((r6 = a2) ∧ (wX7_reel G a0 a2 0 I5 (fun r11 I10 => rc_R r11 ∧ (rc_R a3 ∧ ((r11 = a3) ∧ (wX7_reel G a0 a2 2 I10 (fun r16 I15 => rc_R r16 ∧ ((r16 = (-100005)) ∧ (post 1 I15)))))))))))))
set_option maxRecDepth 100000 in
set_option maxHeartbeats 4000000 in
theorem gL_makes_0 {p : Program} {l : Launch} {e : Env} {s : State} {m : MethodId} {below : List Frame} {meth : Method} {c : Code} {G : rc_G} {a0 : Nat} {a1 : Nat} {a2 : Int} {a3 : Int} {I : rc_M} {post : Int → rc_M → Prop}  (X : rc_X p s m ([.ref a0, .ref a1, .int (rc_o a2), .int (rc_o a3)] : List Value).toArray meth c cL_makes 4 wsL_makes RL G (rc_A G)) (hr : meth.sig.returnType = some .boolean) (T0 : kX7 G a0) (T1 : rc_is G a1 (rc_sI G 56))  (h : wL_makes G a0 a1 a2 a3 I post) : rc_g p l e rmL_makes s m ([.ref a0, .ref a1, .int (rc_o a2), .int (rc_o a3)] : List Value).toArray below meth c 0 0 (MQ below (rc_QI G post) ([.ref a0, .ref a1, .int (rc_o a2), .int (rc_o a3)] : List Value).toArray s 0 0 (rc_A G)) 4 G (rc_A G) 0 [(0, .ref a0), (1, .ref a1), (2, .int (rc_o a2)), (3, .int (rc_o a3))] [] I := by
  unfold wL_makes at h
  refine rc_aload_n X dL_makes_0 rfl 1 rfl ?_
  refine rc_bipush X dL_makes_1 (rc_b8 _ ⟨by decide, by decide⟩) ?_
  refine rc_iload_n X dL_makes_3 rfl 2 rfl ?_
  refine rc_imul X dL_makes_4 ?_
  refine rc_iload_n X dL_makes_5 rfl 3 rfl ?_
  obtain ⟨c1, h⟩ := h
  refine rc_iast X T1 (by decide) dL_makes_6 c1 (fun I2 e2 => ?_)
  have h := h I2 e2
  refine rc_aload_n X dL_makes_7 rfl 1 rfl ?_
  refine rc_bipush X dL_makes_8 (rc_b8 _ ⟨by decide, by decide⟩) ?_
  refine rc_iload_n X dL_makes_10 rfl 2 rfl ?_
  refine rc_imul X dL_makes_11 ?_
  refine rc_iconst X dL_makes_12 ?_
  refine rc_iadd X dL_makes_13 ?_
  refine rc_iconst X dL_makes_14 ?_
  obtain ⟨c3, h⟩ := h
  refine rc_iast X T1 (by decide) dL_makes_15 c3 (fun I4 e4 => ?_)
  have h := h I4 e4
  refine rc_aload_n X dL_makes_16 rfl 0 rfl ?_
  refine rc_iload_n X dL_makes_17 rfl 3 rfl ?_
  refine rc_cVI (rest := []) X (mX7_makeReel T0 h) gL_makes_X7_makeReel rfl ⟨rfl, rfl⟩ dyX7_makeReel ⟨Nat.le_of_ble_eq_true rfl, Nat.le_of_ble_eq_true rfl⟩ (rc_recv X T0.1 rfl) rfl rfl (Nat.le_of_ble_eq_true rfl) dL_makes_18 ⟨Nat.zero_le _, Nat.zero_le _⟩ (fun r6 I5 h => ?_)
  refine rc_iload_n X dL_makes_21 rfl 2 rfl ?_
  obtain ⟨c7, h⟩ := h
  obtain ⟨c8, h⟩ := h
  obtain ⟨c9, h⟩ := h
  refine rc_ic_ne X 50 dL_makes_22 (by decide) c7 c8 (fun q => absurd c9 q) (fun _ => ?_)
  refine rc_aload_n X dL_makes_25 rfl 0 rfl ?_
  refine rc_iload_n X dL_makes_26 rfl 2 rfl ?_
  refine rc_iconst X dL_makes_27 ?_
  refine rc_cVI (rest := []) X (mX7_reel T0 h) gL_makes_X7_reel rfl ⟨rfl, rfl⟩ dyX7_reel ⟨Nat.le_of_ble_eq_true rfl, Nat.le_of_ble_eq_true rfl⟩ (rc_recv X T0.1 rfl) rfl rfl (Nat.le_of_ble_eq_true rfl) dL_makes_28 ⟨Nat.zero_le _, Nat.zero_le _⟩ (fun r11 I10 h => ?_)
  refine rc_iload_n X dL_makes_31 rfl 3 rfl ?_
  obtain ⟨c12, h⟩ := h
  obtain ⟨c13, h⟩ := h
  obtain ⟨c14, h⟩ := h
  refine rc_ic_ne X 50 dL_makes_32 (by decide) c12 c13 (fun q => absurd c14 q) (fun _ => ?_)
  refine rc_aload_n X dL_makes_35 rfl 0 rfl ?_
  refine rc_iload_n X dL_makes_36 rfl 2 rfl ?_
  refine rc_iconst X dL_makes_37 ?_
  refine rc_cVI (rest := []) X (mX7_reel T0 h) gL_makes_X7_reel rfl ⟨rfl, rfl⟩ dyX7_reel ⟨Nat.le_of_ble_eq_true rfl, Nat.le_of_ble_eq_true rfl⟩ (rc_recv X T0.1 rfl) rfl rfl (Nat.le_of_ble_eq_true rfl) dL_makes_38 ⟨Nat.zero_le _, Nat.zero_le _⟩ (fun r16 I15 h => ?_)
  refine rc_ldc (n := (-100005)) X qL_makes_1 (by decide +kernel) dL_makes_41 ?_
  obtain ⟨c17, h⟩ := h
  obtain ⟨c18, h⟩ := h
  refine rc_ic_ne X 50 dL_makes_43 (by decide) c17 ⟨by decide, by decide⟩ (fun q => absurd c18 q) (fun _ => ?_)
  refine rc_iconst X dL_makes_46 ?_
  refine rc_goto X 51 dL_makes_47 (by decide) ?_
  exact rc_zret X hr dL_makes_51 (Or.inr rfl) h
theorem mL_makes {l : Launch} {G : rc_G} {a0 : Nat} {a1 : Nat} {a2 : Int} {a3 : Int} {I : rc_M} {post : Int → rc_M → Prop} (T0 : kX7 G a0) (T1 : rc_is G a1 (rc_sI G 56)) (h : wL_makes G a0 a1 a2 a3 I post) : rc_CI l yL_makes wsL_makes rmL_makes G [.ref a0, .ref a1, .int (rc_o a2), .int (rc_o a3)] I post :=
  rc_body (by decide +kernel) rfl rfl (Nat.le_of_ble_eq_true rfl) rfl (fun p e s m below meth c X hr => gL_makes_0 X hr T0 T1 h)
/-! L_splices -/
abbrev rmL_splices : Room := { frames := 3, cells := 0, slots := 0, locals := 70 }
theorem dyL_splices : yL_splices.cls = RL ∧ yL_splices.cls ≠ "java/lang/invoke/MethodHandle" ∧ yL_splices.cls ≠ "java/lang/invoke/VarHandle" ∧ (parseMethodDescriptor yL_splices.desc).map (fun d => d.parameters.length) = some 5 := ⟨rfl, by decide +kernel, by decide +kernel, by decide +kernel⟩
def wL_splices_174 (G : rc_G) (post : Int → rc_M → Prop) (a0 : Nat) (a1 : Nat) (a2 : Int) (a3 : Int) (a4 : Int)  (x6 : Int) (y0 : Int) (y1 : Int) (y2 : Int) (I : rc_M) : Prop :=
  (0 ≤ y2 ∧ y2 < 56) ∧ (∀ I17, I17 = rc_s I a1 y2 (y1 + y0) → (0 ≤ ((14 * a2) + 2) + (2 * x6) ∧ ((14 * a2) + 2) + (2 * x6) < 56) ∧ (∀ I19, I19 = rc_s I17 a1 (((14 * a2) + 2) + (2 * x6)) a3 → (0 ≤ ((14 * a2) + 3) + (2 * x6) ∧ ((14 * a2) + 3) + (2 * x6) < 56) ∧ (∀ I21, I21 = rc_s I19 a1 (((14 * a2) + 3) + (2 * x6)) a4 → wX7_splice G a0 a2 a3 a4 I21 (fun r23 I22 => (0 ≤ (14 * a2) + 1 ∧ (14 * a2) + 1 < 56) ∧ (rc_R r23 ∧ (rc_R (I22 a1 ((14 * a2) + 1)) ∧ ((r23 = (I22 a1 ((14 * a2) + 1))) ∧ (post 1 I22))))))))
set_option maxRecDepth 100000 in
set_option maxHeartbeats 4000000 in
theorem gL_splices_174 {p : Program} {l : Launch} {e : Env} {s : State} {m : MethodId} {below : List Frame} {meth : Method} {c : Code} {G : rc_G} {a0 : Nat} {a1 : Nat} {a2 : Int} {a3 : Int} {a4 : Int} {I : rc_M} {post : Int → rc_M → Prop}  {x6 : Int} {y0 : Int} {y1 : Int} {y2 : Int} (X : rc_X p s m ([.ref a0, .ref a1, .int (rc_o a2), .int (rc_o a3), .int (rc_o a4)] : List Value).toArray meth c cL_splices 9 wsL_splices RL G (rc_A G)) (hr : meth.sig.returnType = some .boolean) (T0 : kX7 G a0) (T1 : rc_is G a1 (rc_sI G 56))   (h : wL_splices_174 G post a0 a1 a2 a3 a4  x6 y0 y1 y2 I) : rc_g p l e rmL_splices s m ([.ref a0, .ref a1, .int (rc_o a2), .int (rc_o a3), .int (rc_o a4)] : List Value).toArray below meth c 0 0 (MQ below (rc_QI G post) ([.ref a0, .ref a1, .int (rc_o a2), .int (rc_o a3), .int (rc_o a4)] : List Value).toArray s 0 0 (rc_A G)) 9 G (rc_A G) 174 [(0, .ref a0), (1, .ref a1), (2, .int (rc_o a2)), (3, .int (rc_o a3)), (4, .int (rc_o a4)), (6, .int (rc_o x6))] [.int (rc_o y0), .int (rc_o y1), .int (rc_o y2), .ref a1] I := by
  unfold wL_splices_174 at h
  refine rc_iadd X dL_splices_174 ?_
  obtain ⟨c16, h⟩ := h
  refine rc_iast X T1 (by decide) dL_splices_175 c16 (fun I17 e17 => ?_)
  have h := h I17 e17
  refine rc_aload_n X dL_splices_176 rfl 1 rfl ?_
  refine rc_bipush X dL_splices_177 (rc_b8 _ ⟨by decide, by decide⟩) ?_
  refine rc_iload_n X dL_splices_179 rfl 2 rfl ?_
  refine rc_imul X dL_splices_180 ?_
  refine rc_iconst X dL_splices_181 ?_
  refine rc_iadd X dL_splices_182 ?_
  refine rc_iconst X dL_splices_183 ?_
  refine rc_iload X dL_splices_184 5 rfl ?_
  refine rc_imul X dL_splices_186 ?_
  refine rc_iadd X dL_splices_187 ?_
  refine rc_iload_n X dL_splices_188 rfl 3 rfl ?_
  obtain ⟨c18, h⟩ := h
  refine rc_iast X T1 (by decide) dL_splices_189 c18 (fun I19 e19 => ?_)
  have h := h I19 e19
  refine rc_aload_n X dL_splices_190 rfl 1 rfl ?_
  refine rc_bipush X dL_splices_191 (rc_b8 _ ⟨by decide, by decide⟩) ?_
  refine rc_iload_n X dL_splices_193 rfl 2 rfl ?_
  refine rc_imul X dL_splices_194 ?_
  refine rc_iconst X dL_splices_195 ?_
  refine rc_iadd X dL_splices_196 ?_
  refine rc_iconst X dL_splices_197 ?_
  refine rc_iload X dL_splices_198 5 rfl ?_
  refine rc_imul X dL_splices_200 ?_
  refine rc_iadd X dL_splices_201 ?_
  refine rc_iload X dL_splices_202 4 rfl ?_
  obtain ⟨c20, h⟩ := h
  refine rc_iast X T1 (by decide) dL_splices_204 c20 (fun I21 e21 => ?_)
  have h := h I21 e21
  refine rc_aload_n X dL_splices_205 rfl 0 rfl ?_
  refine rc_iload_n X dL_splices_206 rfl 2 rfl ?_
  refine rc_iload_n X dL_splices_207 rfl 3 rfl ?_
  refine rc_iload X dL_splices_208 4 rfl ?_
  refine rc_cVI (rest := []) X (mX7_splice T0 h) gL_splices_X7_splice rfl ⟨rfl, rfl⟩ dyX7_splice ⟨Nat.le_of_ble_eq_true rfl, Nat.le_of_ble_eq_true rfl⟩ (rc_recv X T0.1 rfl) rfl rfl (Nat.le_of_ble_eq_true rfl) dL_splices_210 ⟨Nat.zero_le _, Nat.zero_le _⟩ (fun r23 I22 h => ?_)
  refine rc_aload_n X dL_splices_213 rfl 1 rfl ?_
  refine rc_bipush X dL_splices_214 (rc_b8 _ ⟨by decide, by decide⟩) ?_
  refine rc_iload_n X dL_splices_216 rfl 2 rfl ?_
  refine rc_imul X dL_splices_217 ?_
  refine rc_iconst X dL_splices_218 ?_
  refine rc_iadd X dL_splices_219 ?_
  obtain ⟨c24, h⟩ := h
  refine rc_iald X T1 (by decide) dL_splices_220 c24 ?_
  obtain ⟨c25, h⟩ := h
  obtain ⟨c26, h⟩ := h
  obtain ⟨c27, h⟩ := h
  refine rc_ic_ne X 228 dL_splices_221 (by decide) c25 c26 (fun q => absurd c27 q) (fun _ => ?_)
  refine rc_iconst X dL_splices_224 ?_
  refine rc_goto X 229 dL_splices_225 (by decide) ?_
  exact rc_zret X hr dL_splices_229 (Or.inr rfl) h
def wL_splices_155 (G : rc_G) (post : Int → rc_M → Prop) (a0 : Nat) (a1 : Nat) (a2 : Int) (a3 : Int) (a4 : Int)  (x6 : Int) (x7 : Int) (I : rc_M) : Prop :=
  (0 ≤ (14 * a2) + 1 ∧ (14 * a2) + 1 < 56) ∧ (rc_R x7 ∧ ((x7 = 0 → wL_splices_174 G post a0 a1 a2 a3 a4  x6 1 (I a1 ((14 * a2) + 1)) ((14 * a2) + 1) I) ∧ (¬ x7 = 0 → wL_splices_174 G post a0 a1 a2 a3 a4  x6 0 (I a1 ((14 * a2) + 1)) ((14 * a2) + 1) I)))
set_option maxRecDepth 100000 in
set_option maxHeartbeats 4000000 in
theorem gL_splices_155 {p : Program} {l : Launch} {e : Env} {s : State} {m : MethodId} {below : List Frame} {meth : Method} {c : Code} {G : rc_G} {a0 : Nat} {a1 : Nat} {a2 : Int} {a3 : Int} {a4 : Int} {I : rc_M} {post : Int → rc_M → Prop}  {x6 : Int} {x7 : Int} (X : rc_X p s m ([.ref a0, .ref a1, .int (rc_o a2), .int (rc_o a3), .int (rc_o a4)] : List Value).toArray meth c cL_splices 9 wsL_splices RL G (rc_A G)) (hr : meth.sig.returnType = some .boolean) (T0 : kX7 G a0) (T1 : rc_is G a1 (rc_sI G 56))   (h : wL_splices_155 G post a0 a1 a2 a3 a4  x6 x7 I) : rc_g p l e rmL_splices s m ([.ref a0, .ref a1, .int (rc_o a2), .int (rc_o a3), .int (rc_o a4)] : List Value).toArray below meth c 0 0 (MQ below (rc_QI G post) ([.ref a0, .ref a1, .int (rc_o a2), .int (rc_o a3), .int (rc_o a4)] : List Value).toArray s 0 0 (rc_A G)) 9 G (rc_A G) 155 [(0, .ref a0), (1, .ref a1), (2, .int (rc_o a2)), (3, .int (rc_o a3)), (4, .int (rc_o a4)), (6, .int (rc_o x6)), (7, .int (rc_o x7))] [] I := by
  unfold wL_splices_155 at h
  refine rc_aload_n X dL_splices_155 rfl 1 rfl ?_
  refine rc_bipush X dL_splices_156 (rc_b8 _ ⟨by decide, by decide⟩) ?_
  refine rc_iload_n X dL_splices_158 rfl 2 rfl ?_
  refine rc_imul X dL_splices_159 ?_
  refine rc_iconst X dL_splices_160 ?_
  refine rc_iadd X dL_splices_161 ?_
  refine rc_dup2 X dL_splices_162 rfl rfl ?_
  obtain ⟨c13, h⟩ := h
  refine rc_iald X T1 (by decide) dL_splices_163 c13 ?_
  refine rc_iload X dL_splices_164 6 rfl ?_
  obtain ⟨c14, h⟩ := h
  refine rc_if_eq X 173 dL_splices_166 (by decide) c14 (fun c15 => ?_) (fun c15 => ?_)
  · have h := h.1 c15
    refine rc_iconst X dL_splices_173 ?_
    refine rc_subl [(0, .ref a0), (1, .ref a1), (2, .int (rc_o a2)), (3, .int (rc_o a3)), (4, .int (rc_o a4)), (6, .int (rc_o x6))] [0, 1, 2, 3, 4, 5] rfl ?_
    exact gL_splices_174 X hr T0 T1   h
  · have h := h.2 c15
    refine rc_iconst X dL_splices_169 ?_
    refine rc_goto X 174 dL_splices_170 (by decide) ?_
    refine rc_subl [(0, .ref a0), (1, .ref a1), (2, .int (rc_o a2)), (3, .int (rc_o a3)), (4, .int (rc_o a4)), (6, .int (rc_o x6))] [0, 1, 2, 3, 4, 5] rfl ?_
    exact gL_splices_174 X hr T0 T1   h
def wL_splices_118 (G : rc_G) (post : Int → rc_M → Prop) (a0 : Nat) (a1 : Nat) (a2 : Int) (a3 : Int) (a4 : Int) (k118 : Int → Int → Int → rc_M → Prop) (x6 : Int) (x7 : Int) (x8 : Int) (I : rc_M) : Prop :=
  rc_R x8 ∧ (rc_R (((14 * a2) + 2) + (2 * x6)) ∧ ((x8 < (((14 * a2) + 2) + (2 * x6)) → wL_splices_155 G post a0 a1 a2 a3 a4  x6 x7 I) ∧ (¬ x8 < (((14 * a2) + 2) + (2 * x6)) → rc_R x7 ∧ ((¬ x7 = 0 → wL_splices_155 G post a0 a1 a2 a3 a4  x6 x7 I) ∧ (x7 = 0 → (0 ≤ x8 ∧ x8 < 56) ∧ ((0 ≤ x8 + 2 ∧ x8 + 2 < 56) ∧ (∀ I32, I32 = rc_s I a1 (x8 + 2) (I a1 x8) → k118 x6 x7 (x8 + (-1)) I32)))))))
set_option maxRecDepth 100000 in
set_option maxHeartbeats 4000000 in
theorem gL_splices_118 {p : Program} {l : Launch} {e : Env} {s : State} {m : MethodId} {below : List Frame} {meth : Method} {c : Code} {G : rc_G} {a0 : Nat} {a1 : Nat} {a2 : Int} {a3 : Int} {a4 : Int} {I : rc_M} {post : Int → rc_M → Prop} {k118 : Int → Int → Int → rc_M → Prop} {x6 : Int} {x7 : Int} {x8 : Int} (X : rc_X p s m ([.ref a0, .ref a1, .int (rc_o a2), .int (rc_o a3), .int (rc_o a4)] : List Value).toArray meth c cL_splices 9 wsL_splices RL G (rc_A G)) (hr : meth.sig.returnType = some .boolean) (T0 : kX7 G a0) (T1 : rc_is G a1 (rc_sI G 56)) (hk118 : ∀ (x6 : Int) (x7 : Int) (x8 : Int) (J : rc_M), k118 x6 x7 x8 J → rc_g p l e rmL_splices s m ([.ref a0, .ref a1, .int (rc_o a2), .int (rc_o a3), .int (rc_o a4)] : List Value).toArray below meth c 0 0 (MQ below (rc_QI G post) ([.ref a0, .ref a1, .int (rc_o a2), .int (rc_o a3), .int (rc_o a4)] : List Value).toArray s 0 0 (rc_A G)) 9 G (rc_A G) 118 [(0, .ref a0), (1, .ref a1), (2, .int (rc_o a2)), (3, .int (rc_o a3)), (4, .int (rc_o a4)), (6, .int (rc_o x6)), (7, .int (rc_o x7)), (8, .int (rc_o x8))] [] J)  (h : wL_splices_118 G post a0 a1 a2 a3 a4 k118 x6 x7 x8 I) : rc_g p l e rmL_splices s m ([.ref a0, .ref a1, .int (rc_o a2), .int (rc_o a3), .int (rc_o a4)] : List Value).toArray below meth c 0 0 (MQ below (rc_QI G post) ([.ref a0, .ref a1, .int (rc_o a2), .int (rc_o a3), .int (rc_o a4)] : List Value).toArray s 0 0 (rc_A G)) 9 G (rc_A G) 118 [(0, .ref a0), (1, .ref a1), (2, .int (rc_o a2)), (3, .int (rc_o a3)), (4, .int (rc_o a4)), (6, .int (rc_o x6)), (7, .int (rc_o x7)), (8, .int (rc_o x8))] [] I := by
  unfold wL_splices_118 at h
  refine rc_iload X dL_splices_118 7 rfl ?_
  refine rc_bipush X dL_splices_120 (rc_b8 _ ⟨by decide, by decide⟩) ?_
  refine rc_iload_n X dL_splices_122 rfl 2 rfl ?_
  refine rc_imul X dL_splices_123 ?_
  refine rc_iconst X dL_splices_124 ?_
  refine rc_iadd X dL_splices_125 ?_
  refine rc_iconst X dL_splices_126 ?_
  refine rc_iload X dL_splices_127 5 rfl ?_
  refine rc_imul X dL_splices_129 ?_
  refine rc_iadd X dL_splices_130 ?_
  obtain ⟨c10, h⟩ := h
  obtain ⟨c11, h⟩ := h
  refine rc_ic_lt X 155 dL_splices_131 (by decide) c10 c11 (fun c12 => ?_) (fun c12 => ?_)
  · have h := h.1 c12
    refine rc_subl [(0, .ref a0), (1, .ref a1), (2, .int (rc_o a2)), (3, .int (rc_o a3)), (4, .int (rc_o a4)), (6, .int (rc_o x6)), (7, .int (rc_o x7))] [0, 1, 2, 3, 4, 5, 6] rfl ?_
    exact gL_splices_155 X hr T0 T1   h
  · have h := h.2 c12
    refine rc_iload X dL_splices_134 6 rfl ?_
    obtain ⟨c28, h⟩ := h
    refine rc_if_ne X 155 dL_splices_136 (by decide) c28 (fun c29 => ?_) (fun c29 => ?_)
    · have h := h.1 c29
      refine rc_subl [(0, .ref a0), (1, .ref a1), (2, .int (rc_o a2)), (3, .int (rc_o a3)), (4, .int (rc_o a4)), (6, .int (rc_o x6)), (7, .int (rc_o x7))] [0, 1, 2, 3, 4, 5, 6] rfl ?_
      exact gL_splices_155 X hr T0 T1   h
    · have h := h.2 c29
      refine rc_aload_n X dL_splices_139 rfl 1 rfl ?_
      refine rc_iload X dL_splices_140 7 rfl ?_
      refine rc_iconst X dL_splices_142 ?_
      refine rc_iadd X dL_splices_143 ?_
      refine rc_aload_n X dL_splices_144 rfl 1 rfl ?_
      refine rc_iload X dL_splices_145 7 rfl ?_
      obtain ⟨c30, h⟩ := h
      refine rc_iald X T1 (by decide) dL_splices_147 c30 ?_
      obtain ⟨c31, h⟩ := h
      refine rc_iast X T1 (by decide) dL_splices_148 c31 (fun I32 e32 => ?_)
      have h := h I32 e32
      refine rc_iinc X [(8, .int (rc_o (x8 + (-1)))), (0, .ref a0), (1, .ref a1), (2, .int (rc_o a2)), (3, .int (rc_o a3)), (4, .int (rc_o a4)), (6, .int (rc_o x6)), (7, .int (rc_o x7))] dL_splices_149 7 rfl (by decide) rfl ?_
      refine rc_goto X 118 dL_splices_152 (by decide) ?_
      refine rc_subl [(0, .ref a0), (1, .ref a1), (2, .int (rc_o a2)), (3, .int (rc_o a3)), (4, .int (rc_o a4)), (6, .int (rc_o x6)), (7, .int (rc_o x7)), (8, .int (rc_o (x8 + (-1))))] [1, 2, 3, 4, 5, 6, 7, 0] rfl ?_
      exact hk118 _ _ _ _ h
noncomputable def rL_splices_118 (G : rc_G) (post : Int → rc_M → Prop) (a0 : Nat) (a1 : Nat) (a2 : Int) (a3 : Int) (a4 : Int)  (n : Nat) : Int → Int → Int → rc_M → Prop :=
  Nat.rec (motive := fun _ => Int → Int → Int → rc_M → Prop) (fun _ _ _ _ => False) (fun _ ih => wL_splices_118 G post a0 a1 a2 a3 a4  ih) n
set_option maxRecDepth 100000 in
set_option maxHeartbeats 4000000 in
theorem sL_splices_118 {p : Program} {l : Launch} {e : Env} {s : State} {m : MethodId} {below : List Frame} {meth : Method} {c : Code} {G : rc_G} {a0 : Nat} {a1 : Nat} {a2 : Int} {a3 : Int} {a4 : Int} {I : rc_M} {post : Int → rc_M → Prop}  {n : Nat} {x6 : Int} {x7 : Int} {x8 : Int} (X : rc_X p s m ([.ref a0, .ref a1, .int (rc_o a2), .int (rc_o a3), .int (rc_o a4)] : List Value).toArray meth c cL_splices 9 wsL_splices RL G (rc_A G)) (hr : meth.sig.returnType = some .boolean) (T0 : kX7 G a0) (T1 : rc_is G a1 (rc_sI G 56))  (h : rL_splices_118 G post a0 a1 a2 a3 a4  n x6 x7 x8 I) : rc_g p l e rmL_splices s m ([.ref a0, .ref a1, .int (rc_o a2), .int (rc_o a3), .int (rc_o a4)] : List Value).toArray below meth c 0 0 (MQ below (rc_QI G post) ([.ref a0, .ref a1, .int (rc_o a2), .int (rc_o a3), .int (rc_o a4)] : List Value).toArray s 0 0 (rc_A G)) 9 G (rc_A G) 118 [(0, .ref a0), (1, .ref a1), (2, .int (rc_o a2)), (3, .int (rc_o a3)), (4, .int (rc_o a4)), (6, .int (rc_o x6)), (7, .int (rc_o x7)), (8, .int (rc_o x8))] [] I := by
  induction n generalizing x6 x7 x8 I with
  | zero => exact h.elim
  | succ n ih => exact gL_splices_118 (k118 := rL_splices_118 G post a0 a1 a2 a3 a4  n) X hr T0 T1  (fun x6 x7 x8 J h2 => ih h2) h
def wL_splices_105 (G : rc_G) (post : Int → rc_M → Prop) (a0 : Nat) (a1 : Nat) (a2 : Int) (a3 : Int) (a4 : Int)  (x5 : Int) (x6 : Int) (x7 : Int) (I : rc_M) : Prop :=
  ∃ n, rL_splices_118 G post a0 a1 a2 a3 a4  n x6 x7 (((14 * a2) + 1) + (2 * x5)) I
set_option maxRecDepth 100000 in
set_option maxHeartbeats 4000000 in
theorem gL_splices_105 {p : Program} {l : Launch} {e : Env} {s : State} {m : MethodId} {below : List Frame} {meth : Method} {c : Code} {G : rc_G} {a0 : Nat} {a1 : Nat} {a2 : Int} {a3 : Int} {a4 : Int} {I : rc_M} {post : Int → rc_M → Prop}  {x5 : Int} {x6 : Int} {x7 : Int} (X : rc_X p s m ([.ref a0, .ref a1, .int (rc_o a2), .int (rc_o a3), .int (rc_o a4)] : List Value).toArray meth c cL_splices 9 wsL_splices RL G (rc_A G)) (hr : meth.sig.returnType = some .boolean) (T0 : kX7 G a0) (T1 : rc_is G a1 (rc_sI G 56))   (h : wL_splices_105 G post a0 a1 a2 a3 a4  x5 x6 x7 I) : rc_g p l e rmL_splices s m ([.ref a0, .ref a1, .int (rc_o a2), .int (rc_o a3), .int (rc_o a4)] : List Value).toArray below meth c 0 0 (MQ below (rc_QI G post) ([.ref a0, .ref a1, .int (rc_o a2), .int (rc_o a3), .int (rc_o a4)] : List Value).toArray s 0 0 (rc_A G)) 9 G (rc_A G) 105 [(0, .ref a0), (1, .ref a1), (2, .int (rc_o a2)), (3, .int (rc_o a3)), (4, .int (rc_o a4)), (5, .int (rc_o x5)), (6, .int (rc_o x6)), (7, .int (rc_o x7))] [] I := by
  unfold wL_splices_105 at h
  refine rc_bipush X dL_splices_105 (rc_b8 _ ⟨by decide, by decide⟩) ?_
  refine rc_iload_n X dL_splices_107 rfl 2 rfl ?_
  refine rc_imul X dL_splices_108 ?_
  refine rc_iconst X dL_splices_109 ?_
  refine rc_iadd X dL_splices_110 ?_
  refine rc_iconst X dL_splices_111 ?_
  refine rc_iload X dL_splices_112 5 rfl ?_
  refine rc_imul X dL_splices_114 ?_
  refine rc_iadd X dL_splices_115 ?_
  refine rc_istore X [(8, .int (rc_o (((14 * a2) + 1) + (2 * x5)))), (0, .ref a0), (1, .ref a1), (2, .int (rc_o a2)), (3, .int (rc_o a3)), (4, .int (rc_o a4)), (5, .int (rc_o x5)), (6, .int (rc_o x6)), (7, .int (rc_o x7))] dL_splices_116 (by decide) rfl ?_
  refine rc_subl [(0, .ref a0), (1, .ref a1), (2, .int (rc_o a2)), (3, .int (rc_o a3)), (4, .int (rc_o a4)), (6, .int (rc_o x6)), (7, .int (rc_o x7)), (8, .int (rc_o (((14 * a2) + 1) + (2 * x5))))] [1, 2, 3, 4, 5, 7, 8, 0] rfl ?_
  obtain ⟨n, h⟩ := h
  exact sL_splices_118 X hr T0 T1  h
def wL_splices_72 (G : rc_G) (post : Int → rc_M → Prop) (a0 : Nat) (a1 : Nat) (a2 : Int) (a3 : Int) (a4 : Int)  (x5 : Int) (x6 : Int) (y0 : Int) (I : rc_M) : Prop :=
  rc_R y0 ∧ ((¬ y0 = 0 → wL_splices_105 G post a0 a1 a2 a3 a4  x5 x6 y0 I) ∧ (y0 = 0 → rc_R x5 ∧ ((¬ x5 = 6) ∧ (wL_splices_105 G post a0 a1 a2 a3 a4  x5 x6 y0 I))))
set_option maxRecDepth 100000 in
set_option maxHeartbeats 4000000 in
theorem gL_splices_72 {p : Program} {l : Launch} {e : Env} {s : State} {m : MethodId} {below : List Frame} {meth : Method} {c : Code} {G : rc_G} {a0 : Nat} {a1 : Nat} {a2 : Int} {a3 : Int} {a4 : Int} {I : rc_M} {post : Int → rc_M → Prop}  {x5 : Int} {x6 : Int} {y0 : Int} (X : rc_X p s m ([.ref a0, .ref a1, .int (rc_o a2), .int (rc_o a3), .int (rc_o a4)] : List Value).toArray meth c cL_splices 9 wsL_splices RL G (rc_A G)) (hr : meth.sig.returnType = some .boolean) (T0 : kX7 G a0) (T1 : rc_is G a1 (rc_sI G 56))   (h : wL_splices_72 G post a0 a1 a2 a3 a4  x5 x6 y0 I) : rc_g p l e rmL_splices s m ([.ref a0, .ref a1, .int (rc_o a2), .int (rc_o a3), .int (rc_o a4)] : List Value).toArray below meth c 0 0 (MQ below (rc_QI G post) ([.ref a0, .ref a1, .int (rc_o a2), .int (rc_o a3), .int (rc_o a4)] : List Value).toArray s 0 0 (rc_A G)) 9 G (rc_A G) 72 [(0, .ref a0), (1, .ref a1), (2, .int (rc_o a2)), (3, .int (rc_o a3)), (4, .int (rc_o a4)), (5, .int (rc_o x5)), (6, .int (rc_o x6))] [.int (rc_o y0)] I := by
  unfold wL_splices_72 at h
  refine rc_istore X [(7, .int (rc_o y0)), (0, .ref a0), (1, .ref a1), (2, .int (rc_o a2)), (3, .int (rc_o a3)), (4, .int (rc_o a4)), (5, .int (rc_o x5)), (6, .int (rc_o x6))] dL_splices_72 (by decide) rfl ?_
  refine rc_iload X dL_splices_74 0 rfl ?_
  obtain ⟨c8, h⟩ := h
  refine rc_if_ne X 105 dL_splices_76 (by decide) c8 (fun c9 => ?_) (fun c9 => ?_)
  · have h := h.1 c9
    refine rc_subl [(0, .ref a0), (1, .ref a1), (2, .int (rc_o a2)), (3, .int (rc_o a3)), (4, .int (rc_o a4)), (5, .int (rc_o x5)), (6, .int (rc_o x6)), (7, .int (rc_o y0))] [1, 2, 3, 4, 5, 6, 7, 0] rfl ?_
    exact gL_splices_105 X hr T0 T1   h
  · have h := h.2 c9
    refine rc_iload X dL_splices_79 6 rfl ?_
    refine rc_bipush X dL_splices_81 (rc_b8 _ ⟨by decide, by decide⟩) ?_
    obtain ⟨c33, h⟩ := h
    obtain ⟨c34, h⟩ := h
    refine rc_ic_ne X 105 dL_splices_83 (by decide) c33 ⟨by decide, by decide⟩ (fun _ => ?_) (fun q => absurd q c34)
    refine rc_subl [(0, .ref a0), (1, .ref a1), (2, .int (rc_o a2)), (3, .int (rc_o a3)), (4, .int (rc_o a4)), (5, .int (rc_o x5)), (6, .int (rc_o x6)), (7, .int (rc_o y0))] [1, 2, 3, 4, 5, 6, 7, 0] rfl ?_
    exact gL_splices_105 X hr T0 T1   h
def wL_splices_71 (G : rc_G) (post : Int → rc_M → Prop) (a0 : Nat) (a1 : Nat) (a2 : Int) (a3 : Int) (a4 : Int)  (x5 : Int) (x6 : Int) (I : rc_M) : Prop :=
  wL_splices_72 G post a0 a1 a2 a3 a4  x5 x6 0 I
set_option maxRecDepth 100000 in
set_option maxHeartbeats 4000000 in
theorem gL_splices_71 {p : Program} {l : Launch} {e : Env} {s : State} {m : MethodId} {below : List Frame} {meth : Method} {c : Code} {G : rc_G} {a0 : Nat} {a1 : Nat} {a2 : Int} {a3 : Int} {a4 : Int} {I : rc_M} {post : Int → rc_M → Prop}  {x5 : Int} {x6 : Int} (X : rc_X p s m ([.ref a0, .ref a1, .int (rc_o a2), .int (rc_o a3), .int (rc_o a4)] : List Value).toArray meth c cL_splices 9 wsL_splices RL G (rc_A G)) (hr : meth.sig.returnType = some .boolean) (T0 : kX7 G a0) (T1 : rc_is G a1 (rc_sI G 56))   (h : wL_splices_71 G post a0 a1 a2 a3 a4  x5 x6 I) : rc_g p l e rmL_splices s m ([.ref a0, .ref a1, .int (rc_o a2), .int (rc_o a3), .int (rc_o a4)] : List Value).toArray below meth c 0 0 (MQ below (rc_QI G post) ([.ref a0, .ref a1, .int (rc_o a2), .int (rc_o a3), .int (rc_o a4)] : List Value).toArray s 0 0 (rc_A G)) 9 G (rc_A G) 71 [(0, .ref a0), (1, .ref a1), (2, .int (rc_o a2)), (3, .int (rc_o a3)), (4, .int (rc_o a4)), (5, .int (rc_o x5)), (6, .int (rc_o x6))] [] I := by
  unfold wL_splices_71 at h
  refine rc_iconst X dL_splices_71 ?_
  refine rc_subl [(0, .ref a0), (1, .ref a1), (2, .int (rc_o a2)), (3, .int (rc_o a3)), (4, .int (rc_o a4)), (5, .int (rc_o x5)), (6, .int (rc_o x6))] [0, 1, 2, 3, 4, 5, 6] rfl ?_
  exact gL_splices_72 X hr T0 T1   h
def wL_splices_43 (G : rc_G) (post : Int → rc_M → Prop) (a0 : Nat) (a1 : Nat) (a2 : Int) (a3 : Int) (a4 : Int)  (x5 : Int) (x6 : Int) (I : rc_M) : Prop :=
  rc_R x6 ∧ (rc_R x5 ∧ ((x5 ≤ x6 → wL_splices_71 G post a0 a1 a2 a3 a4  x5 x6 I) ∧ (¬ x5 ≤ x6 → (0 ≤ ((14 * a2) + 2) + (2 * x6) ∧ ((14 * a2) + 2) + (2 * x6) < 56) ∧ (rc_R (I a1 (((14 * a2) + 2) + (2 * x6))) ∧ (rc_R a3 ∧ ((¬ (I a1 (((14 * a2) + 2) + (2 * x6))) = a3 → wL_splices_71 G post a0 a1 a2 a3 a4  x5 x6 I) ∧ ((I a1 (((14 * a2) + 2) + (2 * x6))) = a3 → wL_splices_72 G post a0 a1 a2 a3 a4  x5 x6 1 I)))))))
set_option maxRecDepth 100000 in
set_option maxHeartbeats 4000000 in
theorem gL_splices_43 {p : Program} {l : Launch} {e : Env} {s : State} {m : MethodId} {below : List Frame} {meth : Method} {c : Code} {G : rc_G} {a0 : Nat} {a1 : Nat} {a2 : Int} {a3 : Int} {a4 : Int} {I : rc_M} {post : Int → rc_M → Prop}  {x5 : Int} {x6 : Int} (X : rc_X p s m ([.ref a0, .ref a1, .int (rc_o a2), .int (rc_o a3), .int (rc_o a4)] : List Value).toArray meth c cL_splices 9 wsL_splices RL G (rc_A G)) (hr : meth.sig.returnType = some .boolean) (T0 : kX7 G a0) (T1 : rc_is G a1 (rc_sI G 56))   (h : wL_splices_43 G post a0 a1 a2 a3 a4  x5 x6 I) : rc_g p l e rmL_splices s m ([.ref a0, .ref a1, .int (rc_o a2), .int (rc_o a3), .int (rc_o a4)] : List Value).toArray below meth c 0 0 (MQ below (rc_QI G post) ([.ref a0, .ref a1, .int (rc_o a2), .int (rc_o a3), .int (rc_o a4)] : List Value).toArray s 0 0 (rc_A G)) 9 G (rc_A G) 43 [(0, .ref a0), (1, .ref a1), (2, .int (rc_o a2)), (3, .int (rc_o a3)), (4, .int (rc_o a4)), (5, .int (rc_o x5)), (6, .int (rc_o x6))] [] I := by
  unfold wL_splices_43 at h
  refine rc_iload X dL_splices_43 6 rfl ?_
  refine rc_iload X dL_splices_45 5 rfl ?_
  obtain ⟨c5, h⟩ := h
  obtain ⟨c6, h⟩ := h
  refine rc_ic_ge X 71 dL_splices_47 (by decide) c5 c6 (fun c7 => ?_) (fun c7 => ?_)
  · have h := h.1 c7
    refine rc_subl [(0, .ref a0), (1, .ref a1), (2, .int (rc_o a2)), (3, .int (rc_o a3)), (4, .int (rc_o a4)), (5, .int (rc_o x5)), (6, .int (rc_o x6))] [0, 1, 2, 3, 4, 5, 6] rfl ?_
    exact gL_splices_71 X hr T0 T1   h
  · have h := h.2 c7
    refine rc_aload_n X dL_splices_50 rfl 1 rfl ?_
    refine rc_bipush X dL_splices_51 (rc_b8 _ ⟨by decide, by decide⟩) ?_
    refine rc_iload_n X dL_splices_53 rfl 2 rfl ?_
    refine rc_imul X dL_splices_54 ?_
    refine rc_iconst X dL_splices_55 ?_
    refine rc_iadd X dL_splices_56 ?_
    refine rc_iconst X dL_splices_57 ?_
    refine rc_iload X dL_splices_58 6 rfl ?_
    refine rc_imul X dL_splices_60 ?_
    refine rc_iadd X dL_splices_61 ?_
    obtain ⟨c35, h⟩ := h
    refine rc_iald X T1 (by decide) dL_splices_62 c35 ?_
    refine rc_iload_n X dL_splices_63 rfl 3 rfl ?_
    obtain ⟨c36, h⟩ := h
    obtain ⟨c37, h⟩ := h
    refine rc_ic_ne X 71 dL_splices_64 (by decide) c36 c37 (fun c38 => ?_) (fun c38 => ?_)
    · have h := h.1 c38
      refine rc_subl [(0, .ref a0), (1, .ref a1), (2, .int (rc_o a2)), (3, .int (rc_o a3)), (4, .int (rc_o a4)), (5, .int (rc_o x5)), (6, .int (rc_o x6))] [0, 1, 2, 3, 4, 5, 6] rfl ?_
      exact gL_splices_71 X hr T0 T1   h
    · have h := h.2 c38
      refine rc_iconst X dL_splices_67 ?_
      refine rc_goto X 72 dL_splices_68 (by decide) ?_
      refine rc_subl [(0, .ref a0), (1, .ref a1), (2, .int (rc_o a2)), (3, .int (rc_o a3)), (4, .int (rc_o a4)), (5, .int (rc_o x5)), (6, .int (rc_o x6))] [0, 1, 2, 3, 4, 5, 6] rfl ?_
      exact gL_splices_72 X hr T0 T1   h
def wL_splices_13 (G : rc_G) (post : Int → rc_M → Prop) (a0 : Nat) (a1 : Nat) (a2 : Int) (a3 : Int) (a4 : Int) (k13 : Int → Int → rc_M → Prop) (x5 : Int) (x6 : Int) (I : rc_M) : Prop :=
  rc_R x6 ∧ (rc_R x5 ∧ ((x5 ≤ x6 → wL_splices_43 G post a0 a1 a2 a3 a4  x5 x6 I) ∧ (¬ x5 ≤ x6 → (0 ≤ ((14 * a2) + 2) + (2 * x6) ∧ ((14 * a2) + 2) + (2 * x6) < 56) ∧ (rc_R (I a1 (((14 * a2) + 2) + (2 * x6))) ∧ (rc_R a3 ∧ ((a3 ≤ (I a1 (((14 * a2) + 2) + (2 * x6))) → wL_splices_43 G post a0 a1 a2 a3 a4  x5 x6 I) ∧ (¬ a3 ≤ (I a1 (((14 * a2) + 2) + (2 * x6))) → k13 x5 (x6 + 1) I)))))))
set_option maxRecDepth 100000 in
set_option maxHeartbeats 4000000 in
theorem gL_splices_13 {p : Program} {l : Launch} {e : Env} {s : State} {m : MethodId} {below : List Frame} {meth : Method} {c : Code} {G : rc_G} {a0 : Nat} {a1 : Nat} {a2 : Int} {a3 : Int} {a4 : Int} {I : rc_M} {post : Int → rc_M → Prop} {k13 : Int → Int → rc_M → Prop} {x5 : Int} {x6 : Int} (X : rc_X p s m ([.ref a0, .ref a1, .int (rc_o a2), .int (rc_o a3), .int (rc_o a4)] : List Value).toArray meth c cL_splices 9 wsL_splices RL G (rc_A G)) (hr : meth.sig.returnType = some .boolean) (T0 : kX7 G a0) (T1 : rc_is G a1 (rc_sI G 56)) (hk13 : ∀ (x5 : Int) (x6 : Int) (J : rc_M), k13 x5 x6 J → rc_g p l e rmL_splices s m ([.ref a0, .ref a1, .int (rc_o a2), .int (rc_o a3), .int (rc_o a4)] : List Value).toArray below meth c 0 0 (MQ below (rc_QI G post) ([.ref a0, .ref a1, .int (rc_o a2), .int (rc_o a3), .int (rc_o a4)] : List Value).toArray s 0 0 (rc_A G)) 9 G (rc_A G) 13 [(0, .ref a0), (1, .ref a1), (2, .int (rc_o a2)), (3, .int (rc_o a3)), (4, .int (rc_o a4)), (5, .int (rc_o x5)), (6, .int (rc_o x6))] [] J)  (h : wL_splices_13 G post a0 a1 a2 a3 a4 k13 x5 x6 I) : rc_g p l e rmL_splices s m ([.ref a0, .ref a1, .int (rc_o a2), .int (rc_o a3), .int (rc_o a4)] : List Value).toArray below meth c 0 0 (MQ below (rc_QI G post) ([.ref a0, .ref a1, .int (rc_o a2), .int (rc_o a3), .int (rc_o a4)] : List Value).toArray s 0 0 (rc_A G)) 9 G (rc_A G) 13 [(0, .ref a0), (1, .ref a1), (2, .int (rc_o a2)), (3, .int (rc_o a3)), (4, .int (rc_o a4)), (5, .int (rc_o x5)), (6, .int (rc_o x6))] [] I := by
  unfold wL_splices_13 at h
  refine rc_iload X dL_splices_13 6 rfl ?_
  refine rc_iload X dL_splices_15 5 rfl ?_
  obtain ⟨c2, h⟩ := h
  obtain ⟨c3, h⟩ := h
  refine rc_ic_ge X 43 dL_splices_17 (by decide) c2 c3 (fun c4 => ?_) (fun c4 => ?_)
  · have h := h.1 c4
    refine rc_subl [(0, .ref a0), (1, .ref a1), (2, .int (rc_o a2)), (3, .int (rc_o a3)), (4, .int (rc_o a4)), (5, .int (rc_o x5)), (6, .int (rc_o x6))] [0, 1, 2, 3, 4, 5, 6] rfl ?_
    exact gL_splices_43 X hr T0 T1   h
  · have h := h.2 c4
    refine rc_aload_n X dL_splices_20 rfl 1 rfl ?_
    refine rc_bipush X dL_splices_21 (rc_b8 _ ⟨by decide, by decide⟩) ?_
    refine rc_iload_n X dL_splices_23 rfl 2 rfl ?_
    refine rc_imul X dL_splices_24 ?_
    refine rc_iconst X dL_splices_25 ?_
    refine rc_iadd X dL_splices_26 ?_
    refine rc_iconst X dL_splices_27 ?_
    refine rc_iload X dL_splices_28 6 rfl ?_
    refine rc_imul X dL_splices_30 ?_
    refine rc_iadd X dL_splices_31 ?_
    obtain ⟨c39, h⟩ := h
    refine rc_iald X T1 (by decide) dL_splices_32 c39 ?_
    refine rc_iload_n X dL_splices_33 rfl 3 rfl ?_
    obtain ⟨c40, h⟩ := h
    obtain ⟨c41, h⟩ := h
    refine rc_ic_ge X 43 dL_splices_34 (by decide) c40 c41 (fun c42 => ?_) (fun c42 => ?_)
    · have h := h.1 c42
      refine rc_subl [(0, .ref a0), (1, .ref a1), (2, .int (rc_o a2)), (3, .int (rc_o a3)), (4, .int (rc_o a4)), (5, .int (rc_o x5)), (6, .int (rc_o x6))] [0, 1, 2, 3, 4, 5, 6] rfl ?_
      exact gL_splices_43 X hr T0 T1   h
    · have h := h.2 c42
      refine rc_iinc X [(6, .int (rc_o (x6 + 1))), (0, .ref a0), (1, .ref a1), (2, .int (rc_o a2)), (3, .int (rc_o a3)), (4, .int (rc_o a4)), (5, .int (rc_o x5))] dL_splices_37 6 rfl (by decide) rfl ?_
      refine rc_goto X 13 dL_splices_40 (by decide) ?_
      refine rc_subl [(0, .ref a0), (1, .ref a1), (2, .int (rc_o a2)), (3, .int (rc_o a3)), (4, .int (rc_o a4)), (5, .int (rc_o x5)), (6, .int (rc_o (x6 + 1)))] [1, 2, 3, 4, 5, 6, 0] rfl ?_
      exact hk13 _ _ _ h
noncomputable def rL_splices_13 (G : rc_G) (post : Int → rc_M → Prop) (a0 : Nat) (a1 : Nat) (a2 : Int) (a3 : Int) (a4 : Int)  (n : Nat) : Int → Int → rc_M → Prop :=
  Nat.rec (motive := fun _ => Int → Int → rc_M → Prop) (fun _ _ _ => False) (fun _ ih => wL_splices_13 G post a0 a1 a2 a3 a4  ih) n
set_option maxRecDepth 100000 in
set_option maxHeartbeats 4000000 in
theorem sL_splices_13 {p : Program} {l : Launch} {e : Env} {s : State} {m : MethodId} {below : List Frame} {meth : Method} {c : Code} {G : rc_G} {a0 : Nat} {a1 : Nat} {a2 : Int} {a3 : Int} {a4 : Int} {I : rc_M} {post : Int → rc_M → Prop}  {n : Nat} {x5 : Int} {x6 : Int} (X : rc_X p s m ([.ref a0, .ref a1, .int (rc_o a2), .int (rc_o a3), .int (rc_o a4)] : List Value).toArray meth c cL_splices 9 wsL_splices RL G (rc_A G)) (hr : meth.sig.returnType = some .boolean) (T0 : kX7 G a0) (T1 : rc_is G a1 (rc_sI G 56))  (h : rL_splices_13 G post a0 a1 a2 a3 a4  n x5 x6 I) : rc_g p l e rmL_splices s m ([.ref a0, .ref a1, .int (rc_o a2), .int (rc_o a3), .int (rc_o a4)] : List Value).toArray below meth c 0 0 (MQ below (rc_QI G post) ([.ref a0, .ref a1, .int (rc_o a2), .int (rc_o a3), .int (rc_o a4)] : List Value).toArray s 0 0 (rc_A G)) 9 G (rc_A G) 13 [(0, .ref a0), (1, .ref a1), (2, .int (rc_o a2)), (3, .int (rc_o a3)), (4, .int (rc_o a4)), (5, .int (rc_o x5)), (6, .int (rc_o x6))] [] I := by
  induction n generalizing x5 x6 I with
  | zero => exact h.elim
  | succ n ih => exact gL_splices_13 (k13 := rL_splices_13 G post a0 a1 a2 a3 a4  n) X hr T0 T1  (fun x5 x6 J h2 => ih h2) h
def wL_splices (G : rc_G) (a0 : Nat) (a1 : Nat) (a2 : Int) (a3 : Int) (a4 : Int) (I : rc_M) (post : Int → rc_M → Prop) : Prop :=
  (0 ≤ (14 * a2) + 1 ∧ (14 * a2) + 1 < 56) ∧ (∃ n, rL_splices_13 G post a0 a1 a2 a3 a4  n (I a1 ((14 * a2) + 1)) 0 I)
set_option maxRecDepth 100000 in
set_option maxHeartbeats 4000000 in
theorem gL_splices_0 {p : Program} {l : Launch} {e : Env} {s : State} {m : MethodId} {below : List Frame} {meth : Method} {c : Code} {G : rc_G} {a0 : Nat} {a1 : Nat} {a2 : Int} {a3 : Int} {a4 : Int} {I : rc_M} {post : Int → rc_M → Prop}  (X : rc_X p s m ([.ref a0, .ref a1, .int (rc_o a2), .int (rc_o a3), .int (rc_o a4)] : List Value).toArray meth c cL_splices 9 wsL_splices RL G (rc_A G)) (hr : meth.sig.returnType = some .boolean) (T0 : kX7 G a0) (T1 : rc_is G a1 (rc_sI G 56))  (h : wL_splices G a0 a1 a2 a3 a4 I post) : rc_g p l e rmL_splices s m ([.ref a0, .ref a1, .int (rc_o a2), .int (rc_o a3), .int (rc_o a4)] : List Value).toArray below meth c 0 0 (MQ below (rc_QI G post) ([.ref a0, .ref a1, .int (rc_o a2), .int (rc_o a3), .int (rc_o a4)] : List Value).toArray s 0 0 (rc_A G)) 9 G (rc_A G) 0 [(0, .ref a0), (1, .ref a1), (2, .int (rc_o a2)), (3, .int (rc_o a3)), (4, .int (rc_o a4))] [] I := by
  unfold wL_splices at h
  refine rc_aload_n X dL_splices_0 rfl 1 rfl ?_
  refine rc_bipush X dL_splices_1 (rc_b8 _ ⟨by decide, by decide⟩) ?_
  refine rc_iload_n X dL_splices_3 rfl 2 rfl ?_
  refine rc_imul X dL_splices_4 ?_
  refine rc_iconst X dL_splices_5 ?_
  refine rc_iadd X dL_splices_6 ?_
  obtain ⟨c1, h⟩ := h
  refine rc_iald X T1 (by decide) dL_splices_7 c1 ?_
  refine rc_istore X [(5, .int (rc_o (I a1 ((14 * a2) + 1)))), (0, .ref a0), (1, .ref a1), (2, .int (rc_o a2)), (3, .int (rc_o a3)), (4, .int (rc_o a4))] dL_splices_8 (by decide) rfl ?_
  refine rc_iconst X dL_splices_10 ?_
  refine rc_istore X [(6, .int (rc_o 0)), (5, .int (rc_o (I a1 ((14 * a2) + 1)))), (0, .ref a0), (1, .ref a1), (2, .int (rc_o a2)), (3, .int (rc_o a3)), (4, .int (rc_o a4))] dL_splices_11 (by decide) rfl ?_
  refine rc_subl [(0, .ref a0), (1, .ref a1), (2, .int (rc_o a2)), (3, .int (rc_o a3)), (4, .int (rc_o a4)), (5, .int (rc_o (I a1 ((14 * a2) + 1)))), (6, .int (rc_o 0))] [2, 3, 4, 5, 6, 1, 0] rfl ?_
  obtain ⟨n, h⟩ := h
  exact sL_splices_13 X hr T0 T1  h
theorem mL_splices {l : Launch} {G : rc_G} {a0 : Nat} {a1 : Nat} {a2 : Int} {a3 : Int} {a4 : Int} {I : rc_M} {post : Int → rc_M → Prop} (T0 : kX7 G a0) (T1 : rc_is G a1 (rc_sI G 56)) (h : wL_splices G a0 a1 a2 a3 a4 I post) : rc_CI l yL_splices wsL_splices rmL_splices G [.ref a0, .ref a1, .int (rc_o a2), .int (rc_o a3), .int (rc_o a4)] I post :=
  rc_body (by decide +kernel) rfl rfl (Nat.le_of_ble_eq_true rfl) rfl (fun p e s m below meth c X hr => gL_splices_0 X hr T0 T1 h)
/-! L_sets -/
abbrev rmL_sets : Room := { frames := 3, cells := 0, slots := 0, locals := 67 }
theorem dyL_sets : yL_sets.cls = RL ∧ yL_sets.cls ≠ "java/lang/invoke/MethodHandle" ∧ yL_sets.cls ≠ "java/lang/invoke/VarHandle" ∧ (parseMethodDescriptor yL_sets.desc).map (fun d => d.parameters.length) = some 4 := ⟨rfl, by decide +kernel, by decide +kernel, by decide +kernel⟩
theorem qL_sets_1 : Cond.constant RL 36 (-100002) ∈ wsL_sets := List.mem_of_getElem? (i := 1) (by decide +kernel)
theorem qL_sets_2 : Cond.constant RL 37 (-100001) ∈ wsL_sets := List.mem_of_getElem? (i := 2) (by decide +kernel)
def wL_sets (G : rc_G) (a0 : Nat) (a1 : Nat) (a2 : Int) (a3 : Int) (I : rc_M) (post : Int → rc_M → Prop) : Prop :=
  wL_low G a2 I (fun r2 I1 => wL_high G a2 I1 (fun r4 I3 => wL_low G a2 I3 (fun r6 I5 => (0 ≤ a3 ∧ a3 < 2147483648) ∧ ((0 < ((r4 - r6) + 1) ∧ ((r4 - r6) + 1) < 2147483648) ∧ ((0 ≤ a2 ∧ a2 < 8) ∧ ((0 ≤ a2 ∧ a2 < 8) ∧ (∀ I11, I11 = rc_s I5 a1 a2 (r2 + (a3 % ((r4 - r6) + 1))) → wX7_set G a0 a2 (r2 + (a3 % ((r4 - r6) + 1))) I11 (fun r13 I12 => rc_R r13 ∧ (rc_R (I5 a1 a2) ∧ ((r13 = (I5 a1 a2)) ∧ (wL_high G a2 I12 (fun r18 I17 => wX7_set G a0 a2 (r18 + 1) I17 (fun r20 I19 => rc_R r20 ∧ ((r20 = (-100002)) ∧ (wL_low G a2 I19 (fun r24 I23 => wX7_set G a0 a2 (r24 - 1) I23 (fun r26 I25 => rc_R r26 ∧ ((r26 = (-100002)) ∧ (wX7_set G a0 8 1 I25 (fun r30 I29 => rc_R r30 ∧ ((r30 = (-100001)) ∧ (post 1 I29))))))))))))))))))))))
set_option maxRecDepth 100000 in
set_option maxHeartbeats 4000000 in
theorem gL_sets_0 {p : Program} {l : Launch} {e : Env} {s : State} {m : MethodId} {below : List Frame} {meth : Method} {c : Code} {G : rc_G} {a0 : Nat} {a1 : Nat} {a2 : Int} {a3 : Int} {I : rc_M} {post : Int → rc_M → Prop}  (X : rc_X p s m ([.ref a0, .ref a1, .int (rc_o a2), .int (rc_o a3)] : List Value).toArray meth c cL_sets 6 wsL_sets RL G (rc_A G)) (hr : meth.sig.returnType = some .boolean) (T0 : kX7 G a0) (T1 : rc_is G a1 (rc_sI G 8))  (h : wL_sets G a0 a1 a2 a3 I post) : rc_g p l e rmL_sets s m ([.ref a0, .ref a1, .int (rc_o a2), .int (rc_o a3)] : List Value).toArray below meth c 0 0 (MQ below (rc_QI G post) ([.ref a0, .ref a1, .int (rc_o a2), .int (rc_o a3)] : List Value).toArray s 0 0 (rc_A G)) 6 G (rc_A G) 0 [(0, .ref a0), (1, .ref a1), (2, .int (rc_o a2)), (3, .int (rc_o a3))] [] I := by
  unfold wL_sets at h
  refine rc_iload_n X dL_sets_0 rfl 2 rfl ?_
  refine rc_cSI (rest := []) X (mL_low  h) gL_sets_L_low rfl ⟨rfl, rfl⟩ dyL_low ⟨Nat.le_of_ble_eq_true rfl, Nat.le_of_ble_eq_true rfl⟩ rfl rfl (Nat.le_of_ble_eq_true rfl) dL_sets_1 ⟨Nat.zero_le _, Nat.zero_le _⟩ (fun r2 I1 h => ?_)
  refine rc_iload_n X dL_sets_4 rfl 3 rfl ?_
  refine rc_iload_n X dL_sets_5 rfl 2 rfl ?_
  refine rc_cSI (rest := [.int (rc_o a3), .int (rc_o r2)]) X (mL_high  h) gL_sets_L_high rfl ⟨rfl, rfl⟩ dyL_high ⟨Nat.le_of_ble_eq_true rfl, Nat.le_of_ble_eq_true rfl⟩ rfl rfl (Nat.le_of_ble_eq_true rfl) dL_sets_6 ⟨Nat.zero_le _, Nat.zero_le _⟩ (fun r4 I3 h => ?_)
  refine rc_iload_n X dL_sets_9 rfl 2 rfl ?_
  refine rc_cSI (rest := [.int (rc_o r4), .int (rc_o a3), .int (rc_o r2)]) X (mL_low  h) gL_sets_L_low rfl ⟨rfl, rfl⟩ dyL_low ⟨Nat.le_of_ble_eq_true rfl, Nat.le_of_ble_eq_true rfl⟩ rfl rfl (Nat.le_of_ble_eq_true rfl) dL_sets_10 ⟨Nat.zero_le _, Nat.zero_le _⟩ (fun r6 I5 h => ?_)
  refine rc_isub X dL_sets_13 ?_
  refine rc_iconst X dL_sets_14 ?_
  refine rc_iadd X dL_sets_15 ?_
  obtain ⟨c7, h⟩ := h
  obtain ⟨c8, h⟩ := h
  refine rc_irem X dL_sets_16 c7 c8 ?_
  refine rc_iadd X dL_sets_17 ?_
  refine rc_istore X [(4, .int (rc_o (r2 + (a3 % ((r4 - r6) + 1))))), (0, .ref a0), (1, .ref a1), (2, .int (rc_o a2)), (3, .int (rc_o a3))] dL_sets_18 (by decide) rfl ?_
  refine rc_aload_n X dL_sets_20 rfl 2 rfl ?_
  refine rc_iload_n X dL_sets_21 rfl 3 rfl ?_
  obtain ⟨c9, h⟩ := h
  refine rc_iald X T1 (by decide) dL_sets_22 c9 ?_
  refine rc_istore X [(5, .int (rc_o (I5 a1 a2))), (4, .int (rc_o (r2 + (a3 % ((r4 - r6) + 1))))), (0, .ref a0), (1, .ref a1), (2, .int (rc_o a2)), (3, .int (rc_o a3))] dL_sets_23 (by decide) rfl ?_
  refine rc_aload_n X dL_sets_25 rfl 3 rfl ?_
  refine rc_iload_n X dL_sets_26 rfl 4 rfl ?_
  refine rc_iload X dL_sets_27 1 rfl ?_
  obtain ⟨c10, h⟩ := h
  refine rc_iast X T1 (by decide) dL_sets_29 c10 (fun I11 e11 => ?_)
  have h := h I11 e11
  refine rc_aload_n X dL_sets_30 rfl 2 rfl ?_
  refine rc_iload_n X dL_sets_31 rfl 4 rfl ?_
  refine rc_iload X dL_sets_32 1 rfl ?_
  refine rc_cVI (rest := []) X (mX7_set T0 h) gL_sets_X7_set rfl ⟨rfl, rfl⟩ dyX7_set ⟨Nat.le_of_ble_eq_true rfl, Nat.le_of_ble_eq_true rfl⟩ (rc_recv X T0.1 rfl) rfl rfl (Nat.le_of_ble_eq_true rfl) dL_sets_34 ⟨Nat.zero_le _, Nat.zero_le _⟩ (fun r13 I12 h => ?_)
  refine rc_iload X dL_sets_37 0 rfl ?_
  obtain ⟨c14, h⟩ := h
  obtain ⟨c15, h⟩ := h
  obtain ⟨c16, h⟩ := h
  refine rc_ic_ne X 90 dL_sets_39 (by decide) c14 c15 (fun q => absurd c16 q) (fun _ => ?_)
  refine rc_aload_n X dL_sets_42 rfl 2 rfl ?_
  refine rc_iload_n X dL_sets_43 rfl 4 rfl ?_
  refine rc_iload_n X dL_sets_44 rfl 4 rfl ?_
  refine rc_cSI (rest := [.int (rc_o a2), .ref a0]) X (mL_high  h) gL_sets_L_high rfl ⟨rfl, rfl⟩ dyL_high ⟨Nat.le_of_ble_eq_true rfl, Nat.le_of_ble_eq_true rfl⟩ rfl rfl (Nat.le_of_ble_eq_true rfl) dL_sets_45 ⟨Nat.zero_le _, Nat.zero_le _⟩ (fun r18 I17 h => ?_)
  refine rc_iconst X dL_sets_48 ?_
  refine rc_iadd X dL_sets_49 ?_
  refine rc_cVI (rest := []) X (mX7_set T0 h) gL_sets_X7_set rfl ⟨rfl, rfl⟩ dyX7_set ⟨Nat.le_of_ble_eq_true rfl, Nat.le_of_ble_eq_true rfl⟩ (rc_recv X T0.1 rfl) rfl rfl (Nat.le_of_ble_eq_true rfl) dL_sets_50 ⟨Nat.zero_le _, Nat.zero_le _⟩ (fun r20 I19 h => ?_)
  refine rc_ldc (n := (-100002)) X qL_sets_1 (by decide +kernel) dL_sets_53 ?_
  obtain ⟨c21, h⟩ := h
  obtain ⟨c22, h⟩ := h
  refine rc_ic_ne X 90 dL_sets_55 (by decide) c21 ⟨by decide, by decide⟩ (fun q => absurd c22 q) (fun _ => ?_)
  refine rc_aload_n X dL_sets_58 rfl 2 rfl ?_
  refine rc_iload_n X dL_sets_59 rfl 4 rfl ?_
  refine rc_iload_n X dL_sets_60 rfl 4 rfl ?_
  refine rc_cSI (rest := [.int (rc_o a2), .ref a0]) X (mL_low  h) gL_sets_L_low rfl ⟨rfl, rfl⟩ dyL_low ⟨Nat.le_of_ble_eq_true rfl, Nat.le_of_ble_eq_true rfl⟩ rfl rfl (Nat.le_of_ble_eq_true rfl) dL_sets_61 ⟨Nat.zero_le _, Nat.zero_le _⟩ (fun r24 I23 h => ?_)
  refine rc_iconst X dL_sets_64 ?_
  refine rc_isub X dL_sets_65 ?_
  refine rc_cVI (rest := []) X (mX7_set T0 h) gL_sets_X7_set rfl ⟨rfl, rfl⟩ dyX7_set ⟨Nat.le_of_ble_eq_true rfl, Nat.le_of_ble_eq_true rfl⟩ (rc_recv X T0.1 rfl) rfl rfl (Nat.le_of_ble_eq_true rfl) dL_sets_66 ⟨Nat.zero_le _, Nat.zero_le _⟩ (fun r26 I25 h => ?_)
  refine rc_ldc (n := (-100002)) X qL_sets_1 (by decide +kernel) dL_sets_69 ?_
  obtain ⟨c27, h⟩ := h
  obtain ⟨c28, h⟩ := h
  refine rc_ic_ne X 90 dL_sets_71 (by decide) c27 ⟨by decide, by decide⟩ (fun q => absurd c28 q) (fun _ => ?_)
  refine rc_aload_n X dL_sets_74 rfl 2 rfl ?_
  refine rc_bipush X dL_sets_75 (rc_b8 _ ⟨by decide, by decide⟩) ?_
  refine rc_iconst X dL_sets_77 ?_
  refine rc_cVI (rest := []) X (mX7_set T0 h) gL_sets_X7_set rfl ⟨rfl, rfl⟩ dyX7_set ⟨Nat.le_of_ble_eq_true rfl, Nat.le_of_ble_eq_true rfl⟩ (rc_recv X T0.1 rfl) rfl rfl (Nat.le_of_ble_eq_true rfl) dL_sets_78 ⟨Nat.zero_le _, Nat.zero_le _⟩ (fun r30 I29 h => ?_)
  refine rc_ldc (n := (-100001)) X qL_sets_2 (by decide +kernel) dL_sets_81 ?_
  obtain ⟨c31, h⟩ := h
  obtain ⟨c32, h⟩ := h
  refine rc_ic_ne X 90 dL_sets_83 (by decide) c31 ⟨by decide, by decide⟩ (fun q => absurd c32 q) (fun _ => ?_)
  refine rc_iconst X dL_sets_86 ?_
  refine rc_goto X 91 dL_sets_87 (by decide) ?_
  exact rc_zret X hr dL_sets_91 (Or.inr rfl) h
theorem mL_sets {l : Launch} {G : rc_G} {a0 : Nat} {a1 : Nat} {a2 : Int} {a3 : Int} {I : rc_M} {post : Int → rc_M → Prop} (T0 : kX7 G a0) (T1 : rc_is G a1 (rc_sI G 8)) (h : wL_sets G a0 a1 a2 a3 I post) : rc_CI l yL_sets wsL_sets rmL_sets G [.ref a0, .ref a1, .int (rc_o a2), .int (rc_o a3)] I post :=
  rc_body (by decide +kernel) rfl rfl (Nat.le_of_ble_eq_true rfl) rfl (fun p e s m below meth c X hr => gL_sets_0 X hr T0 T1 h)
