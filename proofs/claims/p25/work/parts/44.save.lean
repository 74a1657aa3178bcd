/-! ===== save ===== -/
def rs_room (G : rc_G) (z : Nat) : rc_G := rs_ext G z (rs_shR G z)
def rs_AA (G : rc_G) (sz : Nat) : Nat → Prop := fun q => q ∈ rc_L G ∨ sz ≤ q
def rs_B (G : rc_G) (I : rc_M) (sz : Nat) (U : State) : Prop := U.heap.size = sz ∧ rc_B G I U ∧ rk_O U
def rs_ok (G : rc_G) (sz : Nat) (G1 : rc_G) : Prop := rs_le G G1 ∧ (rc_L G1).Nodup ∧ ∀ a, a ∈ rc_L G1 → a ∈ rc_L G ∨ sz ≤ a
def rs_Q (G : rc_G) (sz : Nat) (post : Int → rc_G → rc_M → Prop) : Array Value → State → Outcome → State → Prop := va_Qi (fun (r : Int32) (u : rc_G × rc_M) => ∃ z : Int, r = rc_o z ∧ post z u.1 u.2) (fun u t => rc_P u.1 u.2 t.heap ∧ rs_ok G sz u.1) (rs_AA G sz)
theorem rc_S1.wide {n : String} {f : Int → Int} {A : Nat → Prop} {U : State} {H : Heap} (h : rc_S1 n f A U H) : rc_S1 n f (fun q => A q ∨ H.size ≤ q) U H := by
  obtain ⟨t, h1, h2⟩ := h
  obtain ⟨cf, kf, fi, fl, a, cell, b1, b2, b3, b4, b5, b6, b7, b8⟩ := h1
  obtain ⟨ce, c1, c2, c3, c4, c5, c6, c7⟩ := h2
  refine ⟨t, ⟨cf, kf, fi, fl, a, cell, b1, b2, b3, b4, b5, b6, b7, fun q => q.elim b8 (fun z => ?_)⟩, ⟨ce, c1, c2, c3, c4, c5, c6, fun q => q.elim c7 (fun z => ?_)⟩⟩
  · have := (Array.getElem?_eq_some_iff.mp b5).1
    omega
  · have := (Array.getElem?_eq_some_iff.mp c1).1
    omega
theorem rs_blind (G : rc_G) (I : rc_M) (sz : Nat) (av : List Value) : FrameBlind (va_Pc av (rs_B G I sz)) := by
  intro a U g mk q
  obtain ⟨q0, q1, q2, q3⟩ := q
  obtain ⟨-, q4⟩ := rc_blind G I av a U g mk ⟨q0, q2⟩
  exact ⟨q0, q1, q4, rk_O.same (s := U) (U := U.calling g mk a) rfl q3⟩
section RS
variable {p : Program} {l : Launch} {e : Env} {R : Room} {s : State} {m : MethodId} {args : Array Value} {below : List Frame} {meth : Method} {c : Code} {cells slots : Nat} {Q : State → Prop}
variable {cc : ByteArray} {nL : Nat} {Ts : List Cond} {own : String} {G G1 : rc_G} {A : Nat → Prop} {pc : Nat} {lv lv' : List (Nat × Value)} {st : List Value} {I : rc_M}
theorem rs_X (X : rc_X p s m args meth c cc nL Ts own G A) (hl : rs_le G G1) (hn : (rc_L G1).Nodup) (hA : ∀ a, a ∈ rc_L G1 → A a) : rc_X p s m args meth c cc nL Ts own G1 A := by
  have e1 : rc_D G1 = rc_D G := hl.1
  have e2 : rc_ty G1 = rc_ty G := by
    unfold rc_ty rc_cI rc_cZ rc_cE rc_cM
    rw [hl.2.1]
  exact ⟨X.1, by rw [e1, e2]; exact X.2.1, hn, hA, X.2.2.2.2.1, X.2.2.2.2.2⟩
theorem rc_sast (X : rc_X p s m args meth c cc nL Ts own G A) {a z : Nat} {i : Int} {fs : (Int → Int) → List Value} (T : rc_is G a (rc_sM G)) (Tz : rc_is G z (fun d => .inr (4, fs d))) (hz : 0 < z) (hd : decode cc pc = .ok (.aastore, 1)) (hi : 0 ≤ i ∧ i < 2)
    (kk : ∀ I1, I1 = rc_s I a i z → rc_g p l e R s m args below meth c cells slots Q nL G A (pc + 1) lv st I1) : rc_g p l e R s m args below meth c cells slots Q nL G A pc lv (.ref z :: .int (rc_o i) :: .ref a :: st) I := by
  intro H locs ls hl hP hS
  obtain ⟨k, hk⟩ := rc_get (f := rc_f G I) T.1
  have hk' : (va_pl (rc_L G) (rc_f G I))[k]? = some (a, rc_sM G (I a)) := hk.trans (congrArg (fun e => some (a, e)) (T.2 (I a)))
  obtain ⟨j, hj⟩ := rc_get (f := rc_f G I) Tz.1
  have hj' : (va_pl (rc_L G) (rc_f G I))[j]? = some (z, .inr (4, fs (I z))) := hj.trans (congrArg (fun e => some (z, e)) (Tz.2 (I z)))
  refine va_astq (r := (RX4, TX4, 2)) X.1.1 X.1.2.1 X.2.1 hP (rc_Dd X.2.2.1 X.2.2.2.1) hS k 3 j 4 hk' rfl hj' rfl (rc_in (by decide) hi) hd (fun H1 locs1 hP1 _ hS1 => kk _ rfl H1 locs1 ls hl ?_ hS1)
  have e1 : rc_h G a (rc_u (I a) i z) = .inl (rc_cM G, 2, .inr (.inr (.inr (.inr (va_up (fun j : Nat => rc_rd (I a j)) (rc_o i).toNatClampNeg (some z)))))) := by
    rw [T.2]
    have e0 : (fun j : Nat => rc_rd (rc_u (I a) i z j)) = va_up (fun j : Nat => rc_rd (I a j)) (rc_o i).toNatClampNeg (some z) := by
      funext j
      rw [rc_cl hi.1 (by omega)]
      unfold rc_u va_up
      by_cases h : j = i.toNat
      · rw [if_pos (by omega), if_pos h]
        unfold rc_rd
        rw [if_neg (by omega)]
        rfl
      · rw [if_neg (by omega), if_neg h]
    rw [← e0]
    rfl
  rw [rc_pset X.2.2.1 X.2.2.2.1 T.1 hk (rc_fw G I a (rc_u (I a) i z) _ e1)] at hP1
  exact hP1
theorem rs_iret {post : Int → rc_G → rc_M → Prop} {z : Int} (X : rc_X p s m args meth c cc nL Ts own G1 (rs_AA G s.heap.size)) (hr : meth.sig.returnType = some .int) (ok : rs_ok G s.heap.size G1) (hd : decode cc pc = .ok (.ireturn, 1)) (hc : cells ≤ 41) (hs : slots ≤ 237) (h : post z G1 I) :
    rc_g p l e R s m args below meth c cells slots (MQ below (rs_Q G s.heap.size post) args s 41 237 (rs_AA G s.heap.size)) nL G1 (rs_AA G s.heap.size) pc lv [.int (rc_o z)] I :=
  fun _ _ _ _ hP hS => W.widen hc hs (W.iret X.1.1 X.1.2.1 hr (fun t ht _ => ⟨⟨rc_o z, (G1, I), rfl, ⟨z, rfl, h⟩, by show rc_P G1 I t.heap; rw [ht]; exact hP, ok⟩, hS.F ht⟩) hS.2.2 hd X.2.2.2.2.2)
end RS
abbrev rmX7_save : Room := { frames := 4, cells := 41, slots := 237, locals := 130 }
theorem dyX7_save : yX7_save.cls = RX7 ∧ yX7_save.cls ≠ "java/lang/invoke/MethodHandle" ∧ yX7_save.cls ≠ "java/lang/invoke/VarHandle" ∧ (parseMethodDescriptor yX7_save.desc).map (fun d => d.parameters.length) = some 1 := ⟨rfl, by decide +kernel, by decide +kernel, by decide +kernel⟩
theorem qX7_save_3 : Cond.classLink RX7 7 RX4 ∈ wsX7_save := List.mem_of_getElem? (i := 3) (by decide +kernel)
theorem qX7_save_4 : Cond.instantiable RX4 2 ∈ wsX7_save := List.mem_of_getElem? (i := 4) (by decide +kernel)
theorem qX7_save_5 : Cond.initialized RX4 ∈ wsX7_save := List.mem_of_getElem? (i := 5) (by decide +kernel)
theorem qX7_save_13 : Cond.instanceMethod yX4_init ∈ wsX7_save := List.mem_of_getElem? (i := 13) (by decide +kernel)
theorem qX7_save_2 : Cond.fieldLink RX7 19 "ReelChanger" "slots" "[LReelChanger$Room;" ∈ wsX7_save := List.mem_of_getElem? (i := 2) (by decide +kernel)
theorem qX7_save_6 : Cond.fieldLink RX7 10 "ReelChanger" "room" "LReelChanger$Room;" ∈ wsX7_save := List.mem_of_getElem? (i := 6) (by decide +kernel)
theorem qX7_save_7 : Cond.fieldLink RX7 35 "ReelChanger$Room" "stock" "LReelChanger$Stock;" ∈ wsX7_save := List.mem_of_getElem? (i := 7) (by decide +kernel)
theorem qX7_save_8 : Cond.fieldLink RX7 93 "ReelChanger$Stock" "reelCount" "I" ∈ wsX7_save := List.mem_of_getElem? (i := 8) (by decide +kernel)
theorem qX7_save_1 : Cond.constant RX7 49 (-100001) ∈ wsX7_save := List.mem_of_getElem? (i := 1) (by decide +kernel)
theorem nX7_save_X7 : ∀ w ∈ wsX70, w ∈ wsX7_save := fun w h => List.mem_cons_of_mem _ (List.mem_append_left _ (List.mem_append_left _ (List.mem_append_left _ (List.mem_append_left _ (List.mem_append_left _ (List.mem_append_left _ (List.mem_append_right _ (h))))))))
theorem nX7_save_X4 : ∀ w ∈ wsX40, w ∈ wsX7_save := fun w h => List.mem_cons_of_mem _ (List.mem_append_left _ (List.mem_append_left _ (List.mem_append_left _ (List.mem_append_left _ (List.mem_append_left _ (List.mem_append_right _ (h)))))))
theorem nX7_save_X6 : ∀ w ∈ wsX60, w ∈ wsX7_save := fun w h => List.mem_cons_of_mem _ (List.mem_append_left _ (List.mem_append_left _ (List.mem_append_left _ (List.mem_append_left _ (List.mem_append_right _ (h))))))
section RS2
variable {p : Program} {l : Launch} {e : Env} {s : State} {m : MethodId} {args : Array Value} {below : List Frame} {meth : Method} {c : Code} {Q : State → Prop}
variable {G : rc_G} {A : Nat → Prop} {lv : List (Nat × Value)} {I : rc_M}
set_option maxHeartbeats 4000000 in
theorem rs_new (X : rc_X p s m args meth c cX7_save 3 wsX7_save RX7 G A) (hO : rk_O s) (hAA : ∀ q, s.heap.size ≤ q → A q) {b0 : Nat} (hb0 : b0 ∈ rc_L G)
    (kk : ∀ z : Nat, 0 < z → s.heap.size ≤ z → (∀ b, b ∈ rc_L G → b < z) → rc_g p l e rmX7_save s m args below meth c 41 237 Q 3 (rs_room G z) A 30 lv [.ref z] (rs_ini I z rs_gR)) :
    rc_g p l e rmX7_save s m args below meth c 0 0 Q 3 G A 23 lv [] I := by
  intro H locs ls hl hP hS
  have hKn := X.2.1.1 4 (RX4, TX4, 2) rfl
  have hf : ∀ b, b ∈ rc_L G → b < H.size := fun b hb => va_pl_lt (X := []) hP hb
  refine W.newcK X.1.1 X.1.2.1 X.1.2.2.2.1 (X.1.2.2.2.2 _ qX7_save_3) (X.1.2.2.2.2 _ qX7_save_4) (X.1.2.2.2.2 _ qX7_save_5) rfl dX7_save_23 (Nat.le_of_ble_eq_true rfl) (Nat.le_of_ble_eq_true rfl) hKn.2.1 rfl fun H1 kC hkC e1 z1 o1 => ?_
  have hP1 : rc_P G I H1 := hP.kept (fun k q hk => o1 q.1 ((hP k q hk).lt))
  have hB0 : va_P (rc_D G) vwCl (rk_ce H.size [.inr (4, [.null, .null])]) H1 := by
    intro k q hk
    have hz : k < 1 := (List.getElem?_eq_some_iff.mp hk).1
    rw [show k = 0 by omega] at hk
    cases hk
    exact ⟨_, rfl, (u_born tyX4 X.1.2.2.2.2 nX7_save_X4 hKn hkC e1 tyX4_ok).to (fun j hj => by rcases (show j = 0 ∨ j = 1 by omega) with rfl | rfl <;> rfl)⟩
  have hS1 : va_S A s.heap H1 locs := ⟨Nat.le_trans hS.1 (by omega), fun x h1 h2 => (o1 x (Nat.lt_of_lt_of_le h1 hS.1)).trans (hS.2.1 x h1 h2), hS.2.2⟩
  have hsz := hS.1
  refine lv_dup X.1.1 X.1.2.1 dX7_save_26 rfl ?_
  refine va_callv (va_runIN (As := []) (rest := [.ref H.size]) (b := H.size) X.1 (mX4_init l G H.size) ⟨va_cnB 0 X.1.2.2.2.2 ggX7_save_X4_init rfl rfl rfl hO.2.2.2.1 (X.1.2.2.2.2 _ qX7_save_5) dyX4_init.2 ⟨Nat.le_of_ble_eq_true rfl, Nat.le_of_ble_eq_true rfl⟩, rfl, X.1.2.2.2.2 _ qX7_save_13⟩
    ⟨rk_blind G _ _ _, fun U hU hW => ⟨rfl, by rw [hU, z1], by rw [hU]; exact hB0, va_K.moved hW.alike X.2.1, by rw [hU]; exact X.2.2.2.2.1.2.2.go hW.alike hS1.2.1 (fun q h => hAA q (by omega)), rk_O.warm hW hO⟩⟩ rfl rfl hl.1 rfl (lv_room (Nat.le_of_ble_eq_true rfl)) dX7_save_27 ⟨Nat.le_of_ble_eq_true rfl, Nat.le_of_ble_eq_true rfl⟩) hS1 (fun q _ h => hAA q (by omega)) (fun q h => hAA q (by omega)) (fun _ t H2 locs2 ht _ _ hB hz2 hk2 hS2 => ?_)
  have hP2 : rc_P G I H2 := hP1.kept (fun k q hk => hk2 q.1 ((hP1 k q hk).lt) (by have := (hP k q hk).lt; omega))
  exact kk H.size (by have := hf b0 hb0; omega) hsz hf H2 locs2 ls hl (rs_conv hP2 hf (by rw [← ht]; exact hB.2) rfl (rs_okR G H.size)) hS2
end RS2
def wX7_save (G : rc_G) (a0 : Nat) (a1 : Int) (I : rc_M) (post : Int → rc_G → rc_M → Prop) : Prop :=
  wX7_isWithin G a1 0 1 I (fun r2 I1 => rc_R r2 ∧ ((¬ r2 = 0 → (0 ≤ a1 ∧ a1 < 2) ∧ ((I1 (a0 + 83) a1 ≤ 0 → ∀ z : Nat, 0 < z → (∀ b, b ∈ rc_L G → b < z) → ∀ I2, I2 = rc_s (rs_ini I1 z rs_gR) (a0 + 83) a1 z → wX4_copyFrom (rs_room G z) z (a0 + 1) I2 (fun I3 => post (I3 (a0 + 1 + 1) 0) (rs_room G z) I3)) ∧ (0 < I1 (a0 + 83) a1 → kX4 G (I1 (a0 + 83) a1).toNat ∧ wX4_copyFrom G (I1 (a0 + 83) a1).toNat (a0 + 1) I1 (fun I3 => post (I3 (a0 + 1 + 1) 0) G I3)))) ∧ (r2 = 0 → post (-100001) G I1)))
set_option maxRecDepth 100000 in
set_option maxHeartbeats 4000000 in
theorem mX7_save {l : Launch} {G : rc_G} {a0 : Nat} {a1 : Int} {I : rc_M} {post : Int → rc_G → rc_M → Prop} (T0 : kX7 G a0) (h : wX7_save G a0 a1 I post) (sz : Nat) : Met l yX7_save wsX7_save rmX7_save (va_Pc [.ref a0, .int (rc_o a1)] (rs_B G I sz)) (rs_Q G sz post) 41 237 (rs_AA G sz) := by
  refine Met.ofW (cc := cX7_save) (maxL := 3) (ret := some .int) (by decide +kernel) rfl ?_
  intro p e s m args below meth c s₁ B hml hv
  obtain ⟨rfl, hsz, ⟨hP, hK, hn, hSt⟩, hO⟩ := hv
  subst hsz
  have X : rc_X p s m ([.ref a0, .int (rc_o a1)] : List Value).toArray meth c cX7_save 3 wsX7_save RX7 G (rs_AA G s.heap.size) := ⟨⟨B.exec, B.bytes, hml, findClass_of_methodNamed B.named, atoms_spec (ws := wsX7_save) B.pre⟩, hK, hn, fun _ h => Or.inl h, ⟨hSt.1.wide, hSt.2.1.wide, hSt.2.2.wide⟩, B.notSynchronized⟩
  have hr := B.returns
  have hl := lv_entry [.ref a0, .int (rc_o a1)] (n := 3) (Nat.le_of_ble_eq_true rfl)
  rw [lg_entry_eq]
  generalize (lg_sl [.ref a0, .int (rc_o a1)] ++ List.replicate (3 - (lg_sl [.ref a0, .int (rc_o a1)]).length) Slot.unset).toArray = ls at hl ⊢
  suffices K : rc_g p l e rmX7_save s m ([.ref a0, .int (rc_o a1)] : List Value).toArray below meth c 0 0 (MQ below (rs_Q G s.heap.size post) ([.ref a0, .int (rc_o a1)] : List Value).toArray s 41 237 (rs_AA G s.heap.size)) 3 G (rs_AA G s.heap.size) 0 [(0, .ref a0), (1, .int (rc_o a1))] [] I from K s.heap [] ls hl hP va_S.rf
  have ok0 : rs_ok G s.heap.size G := ⟨rs_le.rf G, hn, fun _ h => Or.inl h⟩
  unfold wX7_save at h
  refine rc_iload_n X dX7_save_0 rfl 1 rfl ?_
  refine rc_iconst X dX7_save_1 ?_
  refine rc_iconst X dX7_save_2 ?_
  refine rc_cSI (rest := []) X (mX7_isWithin h) gX7_save_X7_isWithin rfl ⟨rfl, rfl⟩ dyX7_isWithin ⟨Nat.le_of_ble_eq_true rfl, Nat.le_of_ble_eq_true rfl⟩ rfl rfl (Nat.le_of_ble_eq_true rfl) dX7_save_3 ⟨Nat.zero_le _, Nat.zero_le _⟩ (fun r2 I1 h => ?_)
  obtain ⟨c3, h⟩ := h
  refine rc_if_ne X 12 dX7_save_6 (by decide) c3 (fun c4 => ?_) (fun c4 => ?_)
  · have h := h.1 c4
    refine rc_aload_n X dX7_save_12 rfl 0 rfl ?_
    refine gfX7_slots X T0.1 nX7_save_X7 qX7_save_2 dX7_save_13 ?_
    refine rc_iload_n X dX7_save_16 rfl 1 rfl ?_
    obtain ⟨c5, h⟩ := h
    refine rc_sltd X T0.2.2.2.1 dX7_save_17 c5 (fun c6 => ?_) (fun c6 => ?_)
    · have h := h.1 c6
      refine rc_astore_nN X [(2, .null), (0, .ref a0), (1, .int (rc_o a1))] dX7_save_18 rfl (by decide) rfl ?_
      refine rc_aload_nN X dX7_save_19 rfl 0 rfl ?_
      refine rc_nnN X dX7_save_20 ?_
      refine rs_new X hO (fun q h => Or.inr h) T0.1.1 (fun z z0 z1 zf => ?_)
      have hle : rs_le G (rs_room G z) := rs_ext_le zf
      have hn1 : (rc_L (rs_room G z)).Nodup := rs_nd hn zf
      have ok1 : rs_ok G s.heap.size (rs_room G z) := ⟨hle, hn1, fun a ha => by
        rcases List.mem_append.mp ha with h1 | h1
        · exact Or.inl h1
        · exact Or.inr (by have := (rs_adr_mem.mp h1).1; omega)⟩
      have X1 := rs_X X hle hn1 (fun a ha => ok1.2.2 a ha)
      have T1 : kX7 (rs_room G z) a0 := kX7_le hle T0
      have Tz : kX4 (rs_room G z) z := rs_kR G z
      refine rc_astore_n X1 [(2, .ref z), (0, .ref a0), (1, .int (rc_o a1))] dX7_save_30 rfl (by decide) rfl ?_
      refine rc_aload_n X1 dX7_save_31 rfl 1 rfl ?_
      refine gfX7_slots X1 T1.1 nX7_save_X7 qX7_save_2 dX7_save_32 ?_
      refine rc_iload_n X1 dX7_save_35 rfl 2 rfl ?_
      refine rc_aload_n X1 dX7_save_36 rfl 0 rfl ?_
      refine rc_sast X1 T1.2.2.2.1 Tz.1 z0 dX7_save_37 c5 (fun I2 e2 => ?_)
      have h := h z z0 zf I2 e2
      refine rc_aload_n X1 dX7_save_38 rfl 0 rfl ?_
      refine rc_aload_n X1 dX7_save_39 rfl 1 rfl ?_
      refine gfX7_room X1 T1.1 nX7_save_X7 qX7_save_6 dX7_save_40 ?_
      refine rc_cVV (rest := []) X1 (mX4_copyFrom Tz T1.2.1 h) gX7_save_X4_copyFrom rfl ⟨rfl, rfl⟩ dyX4_copyFrom ⟨Nat.le_of_ble_eq_true rfl, Nat.le_of_ble_eq_true rfl⟩ (rc_recv X1 Tz.1 rfl) rfl rfl (Nat.le_of_ble_eq_true rfl) dX7_save_43 ⟨Nat.le_of_ble_eq_true rfl, Nat.le_of_ble_eq_true rfl⟩ (fun I3 h => ?_)
      refine rc_aload_n X1 dX7_save_46 rfl 1 rfl ?_
      refine gfX7_room X1 T1.1 nX7_save_X7 qX7_save_6 dX7_save_47 ?_
      refine gfX4_stock X1 T1.2.1.1 nX7_save_X4 qX7_save_7 dX7_save_50 ?_
      refine gfX6_reelCount X1 T1.2.1.2.1.1 nX7_save_X6 qX7_save_8 dX7_save_53 ?_
      exact rs_iret X1 hr ok1 dX7_save_56 (Nat.le_refl _) (Nat.le_refl _) h
    · obtain ⟨Tc6, h⟩ := h.2 c6
      refine rc_astore_n X [(2, .ref ((I1 (a0 + 83) a1).toNat)), (0, .ref a0), (1, .int (rc_o a1))] dX7_save_18 rfl (by decide) rfl ?_
      refine rc_aload_n X dX7_save_19 rfl 0 rfl ?_
      refine rc_nn X 38 dX7_save_20 (by decide) ?_
      refine rc_aload_n X dX7_save_38 rfl 0 rfl ?_
      refine rc_aload_n X dX7_save_39 rfl 1 rfl ?_
      refine gfX7_room X T0.1 nX7_save_X7 qX7_save_6 dX7_save_40 ?_
      refine rc_cVV (rest := []) X (mX4_copyFrom Tc6 T0.2.1 h) gX7_save_X4_copyFrom rfl ⟨rfl, rfl⟩ dyX4_copyFrom ⟨Nat.le_of_ble_eq_true rfl, Nat.le_of_ble_eq_true rfl⟩ (rc_recv X Tc6.1 rfl) rfl rfl (Nat.le_of_ble_eq_true rfl) dX7_save_43 ⟨Nat.zero_le _, Nat.zero_le _⟩ (fun I3 h => ?_)
      refine rc_aload_n X dX7_save_46 rfl 1 rfl ?_
      refine gfX7_room X T0.1 nX7_save_X7 qX7_save_6 dX7_save_47 ?_
      refine gfX4_stock X T0.2.1.1 nX7_save_X4 qX7_save_7 dX7_save_50 ?_
      refine gfX6_reelCount X T0.2.1.2.1.1 nX7_save_X6 qX7_save_8 dX7_save_53 ?_
      exact rs_iret X hr ok0 dX7_save_56 (Nat.zero_le _) (Nat.zero_le _) h
  · have h := h.2 c4
    refine rc_ldc (n := (-100001)) X qX7_save_1 (by decide +kernel) dX7_save_9 ?_
    exact rs_iret X hr ok0 dX7_save_11 (Nat.zero_le _) (Nat.zero_le _) h
