/-! L_refuses -/
abbrev rmL_refuses : Room := { frames := 7, cells := 0, slots := 0, locals := 158 }
theorem dyL_refuses : yL_refuses.cls = RL ∧ yL_refuses.cls ≠ "java/lang/invoke/MethodHandle" ∧ yL_refuses.cls ≠ "java/lang/invoke/VarHandle" ∧ (parseMethodDescriptor yL_refuses.desc).map (fun d => d.parameters.length) = some 2 := ⟨rfl, by decide +kernel, by decide +kernel, by decide +kernel⟩
theorem qL_refuses_1 : Cond.constant RL 36 (-100002) ∈ wsL_refuses := List.mem_of_getElem? (i := 1) (by decide +kernel)
theorem qL_refuses_2 : Cond.constant RL 37 (-100001) ∈ wsL_refuses := List.mem_of_getElem? (i := 2) (by decide +kernel)
def wL_refuses (G : rc_G) (a0 : Nat) (a1 : Int) (I : rc_M) (post : Int → rc_M → Prop) : Prop :=
  wX7_checksum G a0 I (fun r2 I1 => wX7_makeReel G a0 0 I1 (fun r4 I3 => rc_R r4 ∧ ((r4 = (-100002)) ∧ (wX7_splice G a0 a1 1 1 I3 (fun r8 I7 => rc_R r8 ∧ ((r8 = (-100001)) ∧ (wX7_splice G a0 0 0 1 I7 (fun r12 I11 => rc_R r12 ∧ ((r12 = (-100002)) ∧ (wX7_splice G a0 0 1 0 I11 (fun r16 I15 => rc_R r16 ∧ ((r16 = (-100002)) ∧ (wX7_mend G a0 0 0 I15 (fun r20 I19 => rc_R r20 ∧ ((r20 = (-100002)) ∧ (wX7_reel G a0 (-1) 0 I19 (fun r24 I23 => rc_R r24 ∧ ((r24 = (-100001)) ∧ (wX7_reel G a0 0 (-1) I23 (fun r28 I27 => rc_R r28 ∧ ((r28 = (-100002)) ∧ (wX7_spliceAt G a0 0 (-1) 1 I27 (fun r32 I31 => rc_R r32 ∧ ((r32 = (-100001)) ∧ (wX7_set G a0 (-1) 0 I31 (fun r36 I35 => rc_R r36 ∧ ((r36 = (-100001)) ∧ (wX7_append G a0 (-1) I35 (fun r40 I39 => rc_R r40 ∧ ((r40 = (-100002)) ∧ (wX7_program G a0 12 I39 (fun r44 I43 => rc_R r44 ∧ ((r44 = (-100001)) ∧ ((¬ (1 : Int) = 0) ∧ (wX7_pass G a0 (-1) I43 (fun r49 I48 => rc_R r49 ∧ ((r49 = (-100002)) ∧ (wX7_tell G a0 (-1) I48 (fun r53 I52 => rc_R r53 ∧ ((r53 = (-100001)) ∧ (wX7_projector G a0 (-1) 0 I52 (fun r57 I56 => rc_R r57 ∧ ((r57 = (-100001)) ∧ (wX7_projector G a0 0 (-1) I56 (fun r61 I60 => rc_R r61 ∧ ((r61 = (-100002)) ∧ (wX7_task G a0 (-1) 0 I60 (fun r65 I64 => rc_R r65 ∧ ((r65 = (-100001)) ∧ (wX7_forecast G a0 (-1) I64 (fun r69 I68 => rc_R r69 ∧ ((r69 = (-100001)) ∧ (wX7_darkWith G a0 (-1) 0 I68 (fun r73 I72 => rc_R r73 ∧ ((r73 = (-100001)) ∧ (wX7_darkWith G a0 0 0 I72 (fun r77 I76 => rc_R r77 ∧ ((r77 = (-100002)) ∧ (wX7_saveB G a0 2 I76 (fun r81 I80 => rc_R r81 ∧ ((r81 = (-100001)) ∧ (wX7_restore G a0 (-1) I80 (fun r85 I84 => rc_R r85 ∧ ((r85 = (-100001)) ∧ ((¬ (1 : Int) = 0) ∧ (wX7_checksum G a0 I84 (fun r90 I89 => (r90 = r2) ∧ (post 1 I89))))))))))))))))))))))))))))))))))))))))))))))))))))))))))))))))))))
set_option maxRecDepth 100000 in
set_option maxHeartbeats 4000000 in
theorem gL_refuses_0 {p : Program} {l : Launch} {e : Env} {s : State} {m : MethodId} {below : List Frame} {meth : Method} {c : Code} {G : rc_G} {a0 : Nat} {a1 : Int} {I : rc_M} {post : Int → rc_M → Prop}  (X : rc_X p s m ([.ref a0, .int (rc_o a1)] : List Value).toArray meth c cL_refuses 5 wsL_refuses RL G (rc_A G)) (hr : meth.sig.returnType = some .boolean) (T0 : kX7 G a0)  (h : wL_refuses G a0 a1 I post) : rc_g p l e rmL_refuses s m ([.ref a0, .int (rc_o a1)] : List Value).toArray below meth c 0 0 (MQ below (rc_QI G post) ([.ref a0, .int (rc_o a1)] : List Value).toArray s 0 0 (rc_A G)) 5 G (rc_A G) 0 [(0, .ref a0), (1, .int (rc_o a1))] [] I := by
  unfold wL_refuses at h
  refine rc_aload_n X dL_refuses_0 rfl 0 rfl ?_
  refine rc_cVL (rest := []) X (mX7_checksum T0 h) gL_refuses_X7_checksum rfl ⟨rfl, rfl⟩ dyX7_checksum ⟨Nat.le_of_ble_eq_true rfl, Nat.le_of_ble_eq_true rfl⟩ (rc_recv X T0.1 rfl) rfl rfl (Nat.le_of_ble_eq_true rfl) dL_refuses_1 ⟨Nat.zero_le _, Nat.zero_le _⟩ (fun r2 I1 h => ?_)
  refine rc_lstore_n X [(2, .long r2), (0, .ref a0), (1, .int (rc_o a1))] dL_refuses_4 rfl (by decide) rfl ?_
  refine rc_aload_n X dL_refuses_5 rfl 1 rfl ?_
  refine rc_iconst X dL_refuses_6 ?_
  refine rc_cVI (rest := []) X (mX7_makeReel T0 h) gL_refuses_X7_makeReel rfl ⟨rfl, rfl⟩ dyX7_makeReel ⟨Nat.le_of_ble_eq_true rfl, Nat.le_of_ble_eq_true rfl⟩ (rc_recv X T0.1 rfl) rfl rfl (Nat.le_of_ble_eq_true rfl) dL_refuses_7 ⟨Nat.zero_le _, Nat.zero_le _⟩ (fun r4 I3 h => ?_)
  refine rc_ldc (n := (-100002)) X qL_refuses_1 (by decide +kernel) dL_refuses_10 ?_
  obtain ⟨c5, h⟩ := h
  obtain ⟨c6, h⟩ := h
  refine rc_ic_ne X 132 dL_refuses_12 (by decide) c5 ⟨by decide, by decide⟩ (fun q => absurd c6 q) (fun _ => ?_)
  refine rc_aload_n X dL_refuses_15 rfl 1 rfl ?_
  refine rc_iload_n X dL_refuses_16 rfl 2 rfl ?_
  refine rc_iconst X dL_refuses_17 ?_
  refine rc_iconst X dL_refuses_18 ?_
  refine rc_cVI (rest := []) X (mX7_splice T0 h) gL_refuses_X7_splice rfl ⟨rfl, rfl⟩ dyX7_splice ⟨Nat.le_of_ble_eq_true rfl, Nat.le_of_ble_eq_true rfl⟩ (rc_recv X T0.1 rfl) rfl rfl (Nat.le_of_ble_eq_true rfl) dL_refuses_19 ⟨Nat.zero_le _, Nat.zero_le _⟩ (fun r8 I7 h => ?_)
  refine rc_ldc (n := (-100001)) X qL_refuses_2 (by decide +kernel) dL_refuses_22 ?_
  obtain ⟨c9, h⟩ := h
  obtain ⟨c10, h⟩ := h
  refine rc_ic_ne X 132 dL_refuses_24 (by decide) c9 ⟨by decide, by decide⟩ (fun q => absurd c10 q) (fun _ => ?_)
  refine rc_aload_n X dL_refuses_27 rfl 1 rfl ?_
  refine rc_iconst X dL_refuses_28 ?_
  refine rc_iconst X dL_refuses_29 ?_
  refine rc_iconst X dL_refuses_30 ?_
  refine rc_cVI (rest := []) X (mX7_splice T0 h) gL_refuses_X7_splice rfl ⟨rfl, rfl⟩ dyX7_splice ⟨Nat.le_of_ble_eq_true rfl, Nat.le_of_ble_eq_true rfl⟩ (rc_recv X T0.1 rfl) rfl rfl (Nat.le_of_ble_eq_true rfl) dL_refuses_31 ⟨Nat.zero_le _, Nat.zero_le _⟩ (fun r12 I11 h => ?_)
  refine rc_ldc (n := (-100002)) X qL_refuses_1 (by decide +kernel) dL_refuses_34 ?_
  obtain ⟨c13, h⟩ := h
  obtain ⟨c14, h⟩ := h
  refine rc_ic_ne X 132 dL_refuses_36 (by decide) c13 ⟨by decide, by decide⟩ (fun q => absurd c14 q) (fun _ => ?_)
  refine rc_aload_n X dL_refuses_39 rfl 1 rfl ?_
  refine rc_iconst X dL_refuses_40 ?_
  refine rc_iconst X dL_refuses_41 ?_
  refine rc_iconst X dL_refuses_42 ?_
  refine rc_cVI (rest := []) X (mX7_splice T0 h) gL_refuses_X7_splice rfl ⟨rfl, rfl⟩ dyX7_splice ⟨Nat.le_of_ble_eq_true rfl, Nat.le_of_ble_eq_true rfl⟩ (rc_recv X T0.1 rfl) rfl rfl (Nat.le_of_ble_eq_true rfl) dL_refuses_43 ⟨Nat.zero_le _, Nat.zero_le _⟩ (fun r16 I15 h => ?_)
  refine rc_ldc (n := (-100002)) X qL_refuses_1 (by decide +kernel) dL_refuses_46 ?_
  obtain ⟨c17, h⟩ := h
  obtain ⟨c18, h⟩ := h
  refine rc_ic_ne X 132 dL_refuses_48 (by decide) c17 ⟨by decide, by decide⟩ (fun q => absurd c18 q) (fun _ => ?_)
  refine rc_aload_n X dL_refuses_51 rfl 1 rfl ?_
  refine rc_iconst X dL_refuses_52 ?_
  refine rc_iconst X dL_refuses_53 ?_
  refine rc_cVI (rest := []) X (mX7_mend T0 h) gL_refuses_X7_mend rfl ⟨rfl, rfl⟩ dyX7_mend ⟨Nat.le_of_ble_eq_true rfl, Nat.le_of_ble_eq_true rfl⟩ (rc_recv X T0.1 rfl) rfl rfl (Nat.le_of_ble_eq_true rfl) dL_refuses_54 ⟨Nat.zero_le _, Nat.zero_le _⟩ (fun r20 I19 h => ?_)
  refine rc_ldc (n := (-100002)) X qL_refuses_1 (by decide +kernel) dL_refuses_57 ?_
  obtain ⟨c21, h⟩ := h
  obtain ⟨c22, h⟩ := h
  refine rc_ic_ne X 132 dL_refuses_59 (by decide) c21 ⟨by decide, by decide⟩ (fun q => absurd c22 q) (fun _ => ?_)
  refine rc_aload_n X dL_refuses_62 rfl 1 rfl ?_
  refine rc_iconst X dL_refuses_63 ?_
  refine rc_iconst X dL_refuses_64 ?_
  refine rc_cVI (rest := []) X (mX7_reel T0 h) gL_refuses_X7_reel rfl ⟨rfl, rfl⟩ dyX7_reel ⟨Nat.le_of_ble_eq_true rfl, Nat.le_of_ble_eq_true rfl⟩ (rc_recv X T0.1 rfl) rfl rfl (Nat.le_of_ble_eq_true rfl) dL_refuses_65 ⟨Nat.zero_le _, Nat.zero_le _⟩ (fun r24 I23 h => ?_)
  refine rc_ldc (n := (-100001)) X qL_refuses_2 (by decide +kernel) dL_refuses_68 ?_
  obtain ⟨c25, h⟩ := h
  obtain ⟨c26, h⟩ := h
  refine rc_ic_ne X 132 dL_refuses_70 (by decide) c25 ⟨by decide, by decide⟩ (fun q => absurd c26 q) (fun _ => ?_)
  refine rc_aload_n X dL_refuses_73 rfl 1 rfl ?_
  refine rc_iconst X dL_refuses_74 ?_
  refine rc_iconst X dL_refuses_75 ?_
  refine rc_cVI (rest := []) X (mX7_reel T0 h) gL_refuses_X7_reel rfl ⟨rfl, rfl⟩ dyX7_reel ⟨Nat.le_of_ble_eq_true rfl, Nat.le_of_ble_eq_true rfl⟩ (rc_recv X T0.1 rfl) rfl rfl (Nat.le_of_ble_eq_true rfl) dL_refuses_76 ⟨Nat.zero_le _, Nat.zero_le _⟩ (fun r28 I27 h => ?_)
  refine rc_ldc (n := (-100002)) X qL_refuses_1 (by decide +kernel) dL_refuses_79 ?_
  obtain ⟨c29, h⟩ := h
  obtain ⟨c30, h⟩ := h
  refine rc_ic_ne X 132 dL_refuses_81 (by decide) c29 ⟨by decide, by decide⟩ (fun q => absurd c30 q) (fun _ => ?_)
  refine rc_aload_n X dL_refuses_84 rfl 1 rfl ?_
  refine rc_iconst X dL_refuses_85 ?_
  refine rc_iconst X dL_refuses_86 ?_
  refine rc_iconst X dL_refuses_87 ?_
  refine rc_cVI (rest := []) X (mX7_spliceAt T0 h) gL_refuses_X7_spliceAt rfl ⟨rfl, rfl⟩ dyX7_spliceAt ⟨Nat.le_of_ble_eq_true rfl, Nat.le_of_ble_eq_true rfl⟩ (rc_recv X T0.1 rfl) rfl rfl (Nat.le_of_ble_eq_true rfl) dL_refuses_88 ⟨Nat.zero_le _, Nat.zero_le _⟩ (fun r32 I31 h => ?_)
  refine rc_ldc (n := (-100001)) X qL_refuses_2 (by decide +kernel) dL_refuses_91 ?_
  obtain ⟨c33, h⟩ := h
  obtain ⟨c34, h⟩ := h
  refine rc_ic_ne X 132 dL_refuses_93 (by decide) c33 ⟨by decide, by decide⟩ (fun q => absurd c34 q) (fun _ => ?_)
  refine rc_aload_n X dL_refuses_96 rfl 1 rfl ?_
  refine rc_iconst X dL_refuses_97 ?_
  refine rc_iconst X dL_refuses_98 ?_
  refine rc_cVI (rest := []) X (mX7_set T0 h) gL_refuses_X7_set rfl ⟨rfl, rfl⟩ dyX7_set ⟨Nat.le_of_ble_eq_true rfl, Nat.le_of_ble_eq_true rfl⟩ (rc_recv X T0.1 rfl) rfl rfl (Nat.le_of_ble_eq_true rfl) dL_refuses_99 ⟨Nat.zero_le _, Nat.zero_le _⟩ (fun r36 I35 h => ?_)
  refine rc_ldc (n := (-100001)) X qL_refuses_2 (by decide +kernel) dL_refuses_102 ?_
  obtain ⟨c37, h⟩ := h
  obtain ⟨c38, h⟩ := h
  refine rc_ic_ne X 132 dL_refuses_104 (by decide) c37 ⟨by decide, by decide⟩ (fun q => absurd c38 q) (fun _ => ?_)
  refine rc_aload_n X dL_refuses_107 rfl 1 rfl ?_
  refine rc_iconst X dL_refuses_108 ?_
  refine rc_cVI (rest := []) X (mX7_append T0 h) gL_refuses_X7_append rfl ⟨rfl, rfl⟩ dyX7_append ⟨Nat.le_of_ble_eq_true rfl, Nat.le_of_ble_eq_true rfl⟩ (rc_recv X T0.1 rfl) rfl rfl (Nat.le_of_ble_eq_true rfl) dL_refuses_109 ⟨Nat.zero_le _, Nat.zero_le _⟩ (fun r40 I39 h => ?_)
  refine rc_ldc (n := (-100002)) X qL_refuses_1 (by decide +kernel) dL_refuses_112 ?_
  obtain ⟨c41, h⟩ := h
  obtain ⟨c42, h⟩ := h
  refine rc_ic_ne X 132 dL_refuses_114 (by decide) c41 ⟨by decide, by decide⟩ (fun q => absurd c42 q) (fun _ => ?_)
  refine rc_aload_n X dL_refuses_117 rfl 1 rfl ?_
  refine rc_bipush X dL_refuses_118 (rc_b8 _ ⟨by decide, by decide⟩) ?_
  refine rc_cVI (rest := []) X (mX7_program T0 h) gL_refuses_X7_program rfl ⟨rfl, rfl⟩ dyX7_program ⟨Nat.le_of_ble_eq_true rfl, Nat.le_of_ble_eq_true rfl⟩ (rc_recv X T0.1 rfl) rfl rfl (Nat.le_of_ble_eq_true rfl) dL_refuses_120 ⟨Nat.zero_le _, Nat.zero_le _⟩ (fun r44 I43 h => ?_)
  refine rc_ldc (n := (-100001)) X qL_refuses_2 (by decide +kernel) dL_refuses_123 ?_
  obtain ⟨c45, h⟩ := h
  obtain ⟨c46, h⟩ := h
  refine rc_ic_ne X 132 dL_refuses_125 (by decide) c45 ⟨by decide, by decide⟩ (fun q => absurd c46 q) (fun _ => ?_)
  refine rc_iconst X dL_refuses_128 ?_
  refine rc_goto X 133 dL_refuses_129 (by decide) ?_
  refine rc_istore X [(4, .int (rc_o 1)), (2, .long r2), (0, .ref a0), (1, .int (rc_o a1))] dL_refuses_133 (by decide) rfl ?_
  refine rc_iload X dL_refuses_135 0 rfl ?_
  obtain ⟨c47, h⟩ := h
  refine rc_if_eq X 249 dL_refuses_137 (by decide) ⟨by decide, by decide⟩ (fun q => absurd q c47) (fun _ => ?_)
  refine rc_aload_n X dL_refuses_140 rfl 2 rfl ?_
  refine rc_iconst X dL_refuses_141 ?_
  refine rc_cVI (rest := []) X (mX7_pass T0 h) gL_refuses_X7_pass rfl ⟨rfl, rfl⟩ dyX7_pass ⟨Nat.le_of_ble_eq_true rfl, Nat.le_of_ble_eq_true rfl⟩ (rc_recv X T0.1 rfl) rfl rfl (Nat.le_of_ble_eq_true rfl) dL_refuses_142 ⟨Nat.zero_le _, Nat.zero_le _⟩ (fun r49 I48 h => ?_)
  refine rc_ldc (n := (-100002)) X qL_refuses_1 (by decide +kernel) dL_refuses_145 ?_
  obtain ⟨c50, h⟩ := h
  obtain ⟨c51, h⟩ := h
  refine rc_ic_ne X 249 dL_refuses_147 (by decide) c50 ⟨by decide, by decide⟩ (fun q => absurd c51 q) (fun _ => ?_)
  refine rc_aload_n X dL_refuses_150 rfl 2 rfl ?_
  refine rc_iconst X dL_refuses_151 ?_
  refine rc_cVI (rest := []) X (mX7_tell T0 h) gL_refuses_X7_tell rfl ⟨rfl, rfl⟩ dyX7_tell ⟨Nat.le_of_ble_eq_true rfl, Nat.le_of_ble_eq_true rfl⟩ (rc_recv X T0.1 rfl) rfl rfl (Nat.le_of_ble_eq_true rfl) dL_refuses_152 ⟨Nat.zero_le _, Nat.zero_le _⟩ (fun r53 I52 h => ?_)
  refine rc_ldc (n := (-100001)) X qL_refuses_2 (by decide +kernel) dL_refuses_155 ?_
  obtain ⟨c54, h⟩ := h
  obtain ⟨c55, h⟩ := h
  refine rc_ic_ne X 249 dL_refuses_157 (by decide) c54 ⟨by decide, by decide⟩ (fun q => absurd c55 q) (fun _ => ?_)
  refine rc_aload_n X dL_refuses_160 rfl 2 rfl ?_
  refine rc_iconst X dL_refuses_161 ?_
  refine rc_iconst X dL_refuses_162 ?_
  refine rc_cVI (rest := []) X (mX7_projector T0 h) gL_refuses_X7_projector rfl ⟨rfl, rfl⟩ dyX7_projector ⟨Nat.le_of_ble_eq_true rfl, Nat.le_of_ble_eq_true rfl⟩ (rc_recv X T0.1 rfl) rfl rfl (Nat.le_of_ble_eq_true rfl) dL_refuses_163 ⟨Nat.zero_le _, Nat.zero_le _⟩ (fun r57 I56 h => ?_)
  refine rc_ldc (n := (-100001)) X qL_refuses_2 (by decide +kernel) dL_refuses_166 ?_
  obtain ⟨c58, h⟩ := h
  obtain ⟨c59, h⟩ := h
  refine rc_ic_ne X 249 dL_refuses_168 (by decide) c58 ⟨by decide, by decide⟩ (fun q => absurd c59 q) (fun _ => ?_)
  refine rc_aload_n X dL_refuses_171 rfl 2 rfl ?_
  refine rc_iconst X dL_refuses_172 ?_
  refine rc_iconst X dL_refuses_173 ?_
  refine rc_cVI (rest := []) X (mX7_projector T0 h) gL_refuses_X7_projector rfl ⟨rfl, rfl⟩ dyX7_projector ⟨Nat.le_of_ble_eq_true rfl, Nat.le_of_ble_eq_true rfl⟩ (rc_recv X T0.1 rfl) rfl rfl (Nat.le_of_ble_eq_true rfl) dL_refuses_174 ⟨Nat.zero_le _, Nat.zero_le _⟩ (fun r61 I60 h => ?_)
  refine rc_ldc (n := (-100002)) X qL_refuses_1 (by decide +kernel) dL_refuses_177 ?_
  obtain ⟨c62, h⟩ := h
  obtain ⟨c63, h⟩ := h
  refine rc_ic_ne X 249 dL_refuses_179 (by decide) c62 ⟨by decide, by decide⟩ (fun q => absurd c63 q) (fun _ => ?_)
  refine rc_aload_n X dL_refuses_182 rfl 2 rfl ?_
  refine rc_iconst X dL_refuses_183 ?_
  refine rc_iconst X dL_refuses_184 ?_
  refine rc_cVI (rest := []) X (mX7_task T0 h) gL_refuses_X7_task rfl ⟨rfl, rfl⟩ dyX7_task ⟨Nat.le_of_ble_eq_true rfl, Nat.le_of_ble_eq_true rfl⟩ (rc_recv X T0.1 rfl) rfl rfl (Nat.le_of_ble_eq_true rfl) dL_refuses_185 ⟨Nat.zero_le _, Nat.zero_le _⟩ (fun r65 I64 h => ?_)
  refine rc_ldc (n := (-100001)) X qL_refuses_2 (by decide +kernel) dL_refuses_188 ?_
  obtain ⟨c66, h⟩ := h
  obtain ⟨c67, h⟩ := h
  refine rc_ic_ne X 249 dL_refuses_190 (by decide) c66 ⟨by decide, by decide⟩ (fun q => absurd c67 q) (fun _ => ?_)
  refine rc_aload_n X dL_refuses_193 rfl 2 rfl ?_
  refine rc_iconst X dL_refuses_194 ?_
  refine rc_cVI (rest := []) X (mX7_forecast T0 h) gL_refuses_X7_forecast rfl ⟨rfl, rfl⟩ dyX7_forecast ⟨Nat.le_of_ble_eq_true rfl, Nat.le_of_ble_eq_true rfl⟩ (rc_recv X T0.1 rfl) rfl rfl (Nat.le_of_ble_eq_true rfl) dL_refuses_195 ⟨Nat.zero_le _, Nat.zero_le _⟩ (fun r69 I68 h => ?_)
  refine rc_ldc (n := (-100001)) X qL_refuses_2 (by decide +kernel) dL_refuses_198 ?_
  obtain ⟨c70, h⟩ := h
  obtain ⟨c71, h⟩ := h
  refine rc_ic_ne X 249 dL_refuses_200 (by decide) c70 ⟨by decide, by decide⟩ (fun q => absurd c71 q) (fun _ => ?_)
  refine rc_aload_n X dL_refuses_203 rfl 2 rfl ?_
  refine rc_iconst X dL_refuses_204 ?_
  refine rc_iconst X dL_refuses_205 ?_
  refine rc_cVI (rest := []) X (mX7_darkWith T0 h) gL_refuses_X7_darkWith rfl ⟨rfl, rfl⟩ dyX7_darkWith ⟨Nat.le_of_ble_eq_true rfl, Nat.le_of_ble_eq_true rfl⟩ (rc_recv X T0.1 rfl) rfl rfl (Nat.le_of_ble_eq_true rfl) dL_refuses_206 ⟨Nat.zero_le _, Nat.zero_le _⟩ (fun r73 I72 h => ?_)
  refine rc_ldc (n := (-100001)) X qL_refuses_2 (by decide +kernel) dL_refuses_209 ?_
  obtain ⟨c74, h⟩ := h
  obtain ⟨c75, h⟩ := h
  refine rc_ic_ne X 249 dL_refuses_211 (by decide) c74 ⟨by decide, by decide⟩ (fun q => absurd c75 q) (fun _ => ?_)
  refine rc_aload_n X dL_refuses_214 rfl 2 rfl ?_
  refine rc_iconst X dL_refuses_215 ?_
  refine rc_iconst X dL_refuses_216 ?_
  refine rc_cVI (rest := []) X (mX7_darkWith T0 h) gL_refuses_X7_darkWith rfl ⟨rfl, rfl⟩ dyX7_darkWith ⟨Nat.le_of_ble_eq_true rfl, Nat.le_of_ble_eq_true rfl⟩ (rc_recv X T0.1 rfl) rfl rfl (Nat.le_of_ble_eq_true rfl) dL_refuses_217 ⟨Nat.zero_le _, Nat.zero_le _⟩ (fun r77 I76 h => ?_)
  refine rc_ldc (n := (-100002)) X qL_refuses_1 (by decide +kernel) dL_refuses_220 ?_
  obtain ⟨c78, h⟩ := h
  obtain ⟨c79, h⟩ := h
  refine rc_ic_ne X 249 dL_refuses_222 (by decide) c78 ⟨by decide, by decide⟩ (fun q => absurd c79 q) (fun _ => ?_)
  refine rc_aload_n X dL_refuses_225 rfl 2 rfl ?_
  refine rc_iconst X dL_refuses_226 ?_
  refine rc_cVI (rest := []) X (mX7_saveB T0 h) gL_refuses_X7_save rfl ⟨rfl, rfl⟩ dyX7_save ⟨Nat.le_of_ble_eq_true rfl, Nat.le_of_ble_eq_true rfl⟩ (rc_recv X T0.1 rfl) rfl rfl (Nat.le_of_ble_eq_true rfl) dL_refuses_227 ⟨Nat.zero_le _, Nat.zero_le _⟩ (fun r81 I80 h => ?_)
  refine rc_ldc (n := (-100001)) X qL_refuses_2 (by decide +kernel) dL_refuses_230 ?_
  obtain ⟨c82, h⟩ := h
  obtain ⟨c83, h⟩ := h
  refine rc_ic_ne X 249 dL_refuses_232 (by decide) c82 ⟨by decide, by decide⟩ (fun q => absurd c83 q) (fun _ => ?_)
  refine rc_aload_n X dL_refuses_235 rfl 2 rfl ?_
  refine rc_iconst X dL_refuses_236 ?_
  refine rc_cVI (rest := []) X (mX7_restore T0 h) gL_refuses_X7_restore rfl ⟨rfl, rfl⟩ dyX7_restore ⟨Nat.le_of_ble_eq_true rfl, Nat.le_of_ble_eq_true rfl⟩ (rc_recv X T0.1 rfl) rfl rfl (Nat.le_of_ble_eq_true rfl) dL_refuses_237 ⟨Nat.zero_le _, Nat.zero_le _⟩ (fun r85 I84 h => ?_)
  refine rc_ldc (n := (-100001)) X qL_refuses_2 (by decide +kernel) dL_refuses_240 ?_
  obtain ⟨c86, h⟩ := h
  obtain ⟨c87, h⟩ := h
  refine rc_ic_ne X 249 dL_refuses_242 (by decide) c86 ⟨by decide, by decide⟩ (fun q => absurd c87 q) (fun _ => ?_)
  refine rc_iconst X dL_refuses_245 ?_
  refine rc_goto X 250 dL_refuses_246 (by decide) ?_
  refine rc_istore X [(4, .int (rc_o 1)), (2, .long r2), (0, .ref a0), (1, .int (rc_o a1))] dL_refuses_250 (by decide) rfl ?_
  refine rc_iload X dL_refuses_252 0 rfl ?_
  obtain ⟨c88, h⟩ := h
  refine rc_if_eq X 270 dL_refuses_254 (by decide) ⟨by decide, by decide⟩ (fun q => absurd q c88) (fun _ => ?_)
  refine rc_aload_n X dL_refuses_257 rfl 2 rfl ?_
  refine rc_cVL (rest := []) X (mX7_checksum T0 h) gL_refuses_X7_checksum rfl ⟨rfl, rfl⟩ dyX7_checksum ⟨Nat.le_of_ble_eq_true rfl, Nat.le_of_ble_eq_true rfl⟩ (rc_recv X T0.1 rfl) rfl rfl (Nat.le_of_ble_eq_true rfl) dL_refuses_258 ⟨Nat.zero_le _, Nat.zero_le _⟩ (fun r90 I89 h => ?_)
  refine rc_lload_n X dL_refuses_261 rfl 1 rfl ?_
  obtain ⟨c91, h⟩ := h
  refine rc_lne X 270 dL_refuses_262 dL_refuses_263 (by decide) c91 ?_
  refine rc_iconst X dL_refuses_266 ?_
  refine rc_goto X 271 dL_refuses_267 (by decide) ?_
  exact rc_zret X hr dL_refuses_271 (Or.inr rfl) h
theorem mL_refuses {l : Launch} {G : rc_G} {a0 : Nat} {a1 : Int} {I : rc_M} {post : Int → rc_M → Prop} (T0 : kX7 G a0) (h : wL_refuses G a0 a1 I post) : rc_CI l yL_refuses wsL_refuses rmL_refuses G [.ref a0, .int (rc_o a1)] I post :=
  rc_body (by decide +kernel) rfl rfl (Nat.le_of_ble_eq_true rfl) rfl (fun p e s m below meth c X hr => gL_refuses_0 X hr T0 h)
