/-! ===== the law: rows of its own ===== -/
theorem rc_sl : ∀ n, n < 32 → ((nI n &&& 31).toBitVec.smod 32).toNat = n := by decide +kernel
theorem rc_shr {x k : Int} (hx : 0 ≤ x ∧ x < 2147483648) (hk : 0 ≤ k ∧ k < 32) : rc_o x >>> (rc_o k &&& 31) = rc_o (x / 2 ^ k.toNat) := by
  have e : rc_o k = nI k.toNat := by
    show Int32.ofInt k = Int32.ofNat k.toNat
    rw [← Int32.ofInt_eq_ofNat, Int.toNat_of_nonneg hk.1]
  have q0 : (0 : Int) ≤ 2 ^ k.toNat := Int.le_of_lt (Int.pow_pos (by decide))
  have r0 : 0 ≤ x / 2 ^ k.toNat := Int.ediv_nonneg hx.1 q0
  have r1 : x / 2 ^ k.toNat ≤ x := Int.ediv_le_self _ hx.1
  apply Int32.toInt_inj.mp
  rw [pk_shr _ _ k.toNat (by rw [e]; exact rc_sl _ (by omega)), rc_t ⟨by omega, by omega⟩, rc_t ⟨by omega, by omega⟩, Int.shiftRight_eq_div_pow, Int.natCast_pow]
  rfl
/-- shifted to the right -/
def tS (x k : Int) : Int := x / 2 ^ k.toNat
theorem tS_R {x : Int} (k : Int) (h : 0 ≤ x ∧ x < 2147483648) : 0 ≤ tS x k ∧ tS x k < 2147483648 := by
  have q0 : (0 : Int) ≤ 2 ^ k.toNat := Int.le_of_lt (Int.pow_pos (by decide))
  have r0 : 0 ≤ x / 2 ^ k.toNat := Int.ediv_nonneg h.1 q0
  have r1 : x / 2 ^ k.toNat ≤ x := Int.ediv_le_self _ h.1
  unfold tS
  omega
/-- a cell of the law's script -/
def tC (xs : Nat → Int32) (L : Nat) (k : Int) : Int := ((if k < L then xs k.toNat else rc_o (15565493 * k + 443)) &&& 2147483647).toInt
theorem tC_R (xs : Nat → Int32) (L : Nat) (k : Int) : 0 ≤ tC xs L k ∧ tC xs L k < 2147483648 := by
  unfold tC
  generalize (if k < L then xs k.toNat else rc_o (15565493 * k + 443)) = z
  rw [pk_and z (m := 2147483647) 31 (by decide)]
  have h : z.toBitVec.toNat % 2 ^ 31 < 2147483648 := Nat.mod_lt _ (by decide)
  generalize z.toBitVec.toNat % 2 ^ 31 = n at *
  have e : nI n = rc_o (n : Int) := by
    show Int32.ofNat n = Int32.ofInt n
    exact Int32.ofInt_eq_ofNat.symm
  rw [e, rc_t ⟨by omega, by omega⟩]
  omega
def rl_sx (xs : Nat → Int32) (j : Int) : Int := (xs j.toNat).toInt
theorem lw_cz {cl cells slots : Nat} (hc : cl ≤ 100 ∧ cells ≤ 1000 + 41 * cl ∧ slots ≤ 2000 + 237 * cl) : cells ≤ room_1.cells ∧ slots ≤ room_1.slots := ⟨Nat.le_trans (show cells ≤ 100000 by omega) (Nat.le_of_ble_eq_true rfl), Nat.le_trans (show slots ≤ 100000 by omega) (Nat.le_of_ble_eq_true rfl)⟩
theorem lw_cs {cl cells slots : Nat} (hc : cl ≤ 100 ∧ cells ≤ 1000 + 41 * cl ∧ slots ≤ 2000 + 237 * cl) : cells + 41 ≤ room_1.cells ∧ slots + 237 ≤ room_1.slots := ⟨Nat.le_trans (show cells + 41 ≤ 100000 by omega) (Nat.le_of_ble_eq_true rfl), Nat.le_trans (show slots + 237 ≤ 100000 by omega) (Nat.le_of_ble_eq_true rfl)⟩
theorem lw_up {cl cells slots : Nat} (hc : cl ≤ 100 ∧ cells ≤ 1000 + 41 * cl ∧ slots ≤ 2000 + 237 * cl) (h : cl + 1 ≤ 100) : cl + 1 ≤ 100 ∧ cells + 41 ≤ 1000 + 41 * (cl + 1) ∧ slots + 237 ≤ 2000 + 237 * (cl + 1) := by omega
/-- from the law's last instruction it ends -/
def lw_end (p : Program) (l : Launch) (e : Env) (s : State) (m : MethodId) (args : Array Value) (below : List Frame) (meth : Method) (c : Code) (Q : State → Prop) (A : Nat → Prop) : Prop :=
  ∀ (G : rc_G) (I : rc_M) (lv : List (Nat × Value)) (cl cells slots : Nat), rc_X p s m args meth c cL_law 10 wsL_law RL G A → (cl ≤ 100 ∧ cells ≤ 1000 + 41 * cl ∧ slots ≤ 2000 + 237 * cl) → (1 : Int) = 1 → rc_g p l e room_1 s m args below meth c cells slots Q 10 G A 683 lv [.int (rc_o 1)] I
section RL1
variable {p : Program} {l : Launch} {e : Env} {R : Room} {s : State} {m : MethodId} {args : Array Value} {below : List Frame} {meth : Method} {c : Code} {cells slots : Nat} {Q : State → Prop}
variable {cc : ByteArray} {nL : Nat} {Ts : List Cond} {own : String} {G G1 : rc_G} {A : Nat → Prop} {pc : Nat} {lv lv' : List (Nat × Value)} {st : List Value} {I : rc_M} {b L : Nat} {xs : Nat → Int32}
theorem rc_ishr (X : rc_X p s m args meth c cc nL Ts own G A) {x k : Int} (hd : decode cc pc = .ok (.ishr, 1)) (hx : 0 ≤ x ∧ x < 2147483648) (hk : 0 ≤ k ∧ k < 32)
    (kk : rc_g p l e R s m args below meth c cells slots Q nL G A (pc + 1) lv (.int (rc_o (tS x k)) :: st) I) : rc_g p l e R s m args below meth c cells slots Q nL G A pc lv (.int (rc_o k) :: .int (rc_o x) :: st) I := by
  intro H locs ls hl hP hS
  have h := kk H locs ls hl hP hS
  rw [show tS x k = x / 2 ^ k.toNat from rfl, ← rc_shr hx hk] at h
  exact lv_ishr X.1.1 X.1.2.1 hd h
theorem rc_lne (X : rc_X p s m args meth c cc nL Ts own G A) {x y : Int64} {off : Int} (tgt : Nat) (hd : decode cc pc = .ok (.lcmp, 1)) (hd2 : decode cc (pc + 1) = .ok (.ifCond .ne off, 3)) (ht : ((pc + 1 : Nat) : Int) + off = (tgt : Int)) (hxy : x = y)
    (kf : rc_g p l e R s m args below meth c cells slots Q nL G A (pc + 1 + 3) lv st I) : rc_g p l e R s m args below meth c cells slots Q nL G A pc lv (.long y :: .long x :: st) I := by
  intro H locs ls hl hP hS
  subst hxy
  refine W.lcmp X.1.1 X.1.2.1 hd ?_
  have e1 : lg_cmp x x = 0 := by simp [lg_cmp]
  rw [e1]
  exact lv_if_ne X.1.1 X.1.2.1 hd2 ht (fun h => absurd rfl h) (fun _ => kf H locs ls hl hP hS)
def rl_S (b L : Nat) (xs : Nat → Int32) (A : Nat → Prop) (s : State) : Prop := va_X b L xs s s.heap ∧ b < s.heap.size ∧ ¬ A b ∧ L ≤ 2048
theorem rl_sld (X : rc_X p s m args meth c cc nL Ts own G A) (S : rl_S b L xs A s) {i : Int} (hd : decode cc pc = .ok (.iaload, 1)) (hi : 0 ≤ i ∧ i < L)
    (kk : rc_g p l e R s m args below meth c cells slots Q nL G A (pc + 1) lv (.int (rc_o (rl_sx xs i)) :: st) I) : rc_g p l e R s m args below meth c cells slots Q nL G A pc lv (.int (rc_o i) :: .ref b :: st) I := by
  intro H locs ls hl hP hS
  have hL := S.2.2.2
  have h := kk H locs ls hl hP hS
  have e1 : xs (rc_o i).toNatClampNeg = rc_o (rl_sx xs i) := by rw [rc_cl hi.1 (by omega)]; exact (rc_sur _).symm
  rw [← e1] at h
  exact va_sld X.1.1 X.1.2.1 S.1 S.2.1 S.2.2.1 hS (rc_in (by omega) hi) hd h
theorem rl_slen (X : rc_X p s m args meth c cc nL Ts own G A) (S : rl_S b L xs A s) (hd : decode cc pc = .ok (.arraylength, 1))
    (kk : rc_g p l e R s m args below meth c cells slots Q nL G A (pc + 1) lv (.int (rc_o (L : Int)) :: st) I) : rc_g p l e R s m args below meth c cells slots Q nL G A pc lv (.ref b :: st) I := by
  intro H locs ls hl hP hS
  have h := kk H locs ls hl hP hS
  rw [show rc_o (L : Int) = Int32.ofNat L from Int32.ofInt_eq_ofNat] at h
  exact va_slen X.1.1 X.1.2.1 S.1 S.2.1 S.2.2.1 hS hd h
theorem rl_iand (X : rc_X p s m args meth c cc nL Ts own G A) {x y z : Int} (hd : decode cc pc = .ok (.iand, 1)) (hz : rc_o x &&& rc_o y = rc_o z)
    (kk : rc_g p l e R s m args below meth c cells slots Q nL G A (pc + 1) lv (.int (rc_o z) :: st) I) : rc_g p l e R s m args below meth c cells slots Q nL G A pc lv (.int (rc_o y) :: .int (rc_o x) :: st) I := by
  intro H locs ls hl hP hS
  have h := kk H locs ls hl hP hS
  rw [← hz] at h
  exact lv_iand X.1.1 X.1.2.1 hd h
theorem rl_cSave (X : rc_X p s m args meth c cc nL Ts own G A) (hO : rk_O s) (hAA : ∀ q, s.heap.size ≤ q → A q) {x : Nat} {a1 : Int} {idx : Nat} {rest : List Value} {post : Int → rc_G → rc_M → Prop}
    (hM : ∀ sz, Met l yX7_save wsX7_save rmX7_save (va_Pc [.ref x, .int (rc_o a1)] (rs_B G I sz)) (rs_Q G sz post) 41 237 (rs_AA G sz)) (gd : GoodIn Ts (wsV own idx RX7 yX7_save wsX7_save)) (hR : rmX7_save.frames + 1 ≤ R.frames ∧ 8 + (3 + 11) + rmX7_save.locals ≤ R.locals)
    (hrecv : ∀ H : Heap, rc_P G I H → ∃ cell : Cell, H[x]? = some cell ∧ cell.vm.isStatics = false ∧ s.vm.findClass RX7 = some cell.cls) (hW : (rest.map fun v => v.category).sum ≤ 8) (hd : decode cc pc = .ok (.invokevirtual idx, 3)) (hcs : cells + 41 ≤ R.cells ∧ slots + 237 ≤ R.slots)
    (kk : ∀ (z : Int) (G1 : rc_G) (I1 : rc_M), post z G1 I1 → rs_le G G1 → rc_X p s m args meth c cc nL Ts own G1 A → rc_g p l e R s m args below meth c (cells + 41) (slots + 237) Q nL G1 A (pc + 3) lv (.int (rc_o z) :: rest) I1) : rc_g p l e R s m args below meth c cells slots Q nL G A pc lv (.int (rc_o a1) :: .ref x :: rest) I := by
  intro H locs ls hl hP hS
  have hA1 : ∀ q, rs_AA G H.size q → A q := fun q h => h.elim (X.2.2.2.1 q) (fun z => hAA q (Nat.le_trans hS.1 z))
  refine va_calli (va_runV (As := [.int (rc_o a1)]) (rest := rest) X.1 (hM H.size) (cwV 1 X.1.2.2.2.2 gd rfl rfl rfl dyX7_save hR) ⟨rs_blind G I _ _, hrecv H hP, fun U hU hW => ⟨rfl, by rw [hU], (rc_pre X hS hP [] U hU hW).2, rk_O.warm hW hO⟩⟩ rfl rfl hl.1 rfl (lv_room hW) hd hcs) hS (fun q _ h => hA1 q h) hA1 (fun r u t H1 locs1 ht _ hw' hB _ _ hS1 => ?_)
  obtain ⟨z, rfl, hp⟩ := hw'
  exact kk z u.1 u.2 hp hB.2.1 (rs_X X hB.2.1 hB.2.2.1 (fun a ha => hA1 a (hB.2.2.2 a ha))) H1 locs1 ls hl (by rw [← ht]; exact hB.1) hS1
theorem rs_zret {post : Int → rc_G → rc_M → Prop} {z : Int} {G0 : rc_G} (X : rc_X p s m args meth c cc nL Ts own G (rs_AA G0 s.heap.size)) (hr : meth.sig.returnType = some .boolean) (ok : rs_ok G0 s.heap.size G) (hd : decode cc pc = .ok (.ireturn, 1)) (hc : cells ≤ 41) (hs : slots ≤ 237) (hz : z = 0 ∨ z = 1) (h : post z G I) :
    rc_g p l e R s m args below meth c cells slots (MQ below (rs_Q G0 s.heap.size post) args s 41 237 (rs_AA G0 s.heap.size)) nL G (rs_AA G0 s.heap.size) pc lv [.int (rc_o z)] I :=
  fun _ _ _ _ hP hS => W.widen hc hs (W.zret X.1.1 X.1.2.1 hr (rc_nz2 hz) (fun t ht _ => ⟨⟨rc_o z, (G, I), rfl, ⟨z, rfl, h⟩, by show rc_P G I t.heap; rw [ht]; exact hP, ok⟩, hS.F ht⟩) hS.2.2 hd X.2.2.2.2.2)
end RL1
/-! ===== save, a slot that there is not ===== -/
abbrev rmX7_saveB : Room := { frames := 1, cells := 0, slots := 0, locals := 40 }
def wX7_saveB (G : rc_G) (_ : Nat) (a1 : Int) (I : rc_M) (post : Int → rc_M → Prop) : Prop := wX7_isWithin G a1 0 1 I (fun r I1 => rc_R r ∧ r = 0 ∧ post (-100001) I1)
set_option maxRecDepth 100000 in
set_option maxHeartbeats 4000000 in
theorem mX7_saveB {l : Launch} {G : rc_G} {a0 : Nat} {a1 : Int} {I : rc_M} {post : Int → rc_M → Prop} (_ : kX7 G a0) (h : wX7_saveB G a0 a1 I post) : rc_CI l yX7_save wsX7_save rmX7_saveB G [.ref a0, .int (rc_o a1)] I post :=
  rc_body (by decide +kernel) rfl rfl (Nat.le_of_ble_eq_true rfl) rfl (fun p e s m below meth c X hr => by
    unfold wX7_saveB at h
    refine rc_iload_n X dX7_save_0 rfl 1 rfl ?_
    refine rc_iconst X dX7_save_1 ?_
    refine rc_iconst X dX7_save_2 ?_
    refine rc_cSI (rest := []) X (mX7_isWithin h) gX7_save_X7_isWithin rfl ⟨rfl, rfl⟩ dyX7_isWithin ⟨Nat.le_of_ble_eq_true rfl, Nat.le_of_ble_eq_true rfl⟩ rfl rfl (Nat.le_of_ble_eq_true rfl) dX7_save_3 ⟨Nat.zero_le _, Nat.zero_le _⟩ (fun r2 I1 h => ?_)
    obtain ⟨c3, c4, h⟩ := h
    refine rc_if_ne X 12 dX7_save_6 (by decide) c3 (fun q => absurd c4 q) (fun _ => ?_)
    refine rc_ldc (n := (-100001)) X qX7_save_1 (by decide +kernel) dX7_save_9 ?_
    exact rc_iret X hr dX7_save_11 h)
/-! ===== cell ===== -/
abbrev rmL_cell : Room := { frames := 0, cells := 0, slots := 0, locals := 0 }
theorem dyL_cell : yL_cell.cls = RL ∧ yL_cell.cls ≠ "java/lang/invoke/MethodHandle" ∧ yL_cell.cls ≠ "java/lang/invoke/VarHandle" ∧ (parseMethodDescriptor yL_cell.desc).map (fun d => d.parameters.length) = some 2 := ⟨rfl, by decide +kernel, by decide +kernel, by decide +kernel⟩
theorem qL_cell_1 : Cond.constant RL 7 15565493 ∈ wsL_cell := List.mem_of_getElem? (i := 1) (by decide +kernel)
theorem qL_cell_2 : Cond.constant RL 8 2147483647 ∈ wsL_cell := List.mem_of_getElem? (i := 2) (by decide +kernel)
def rl_B (G : rc_G) (I : rc_M) (b L : Nat) (xs : Nat → Int32) (U : State) : Prop := rc_B G I U ∧ va_X b L xs U U.heap ∧ b < U.heap.size
theorem rl_blind (G : rc_G) (I : rc_M) (b L : Nat) (xs : Nat → Int32) (av : List Value) : FrameBlind (va_Pc av (rl_B G I b L xs)) := by
  intro a U g mk q
  obtain ⟨q0, q1, q2, q3⟩ := q
  obtain ⟨-, q4⟩ := rc_blind G I av a U g mk ⟨q0, q1⟩
  exact ⟨q0, q4, va_X.moved (u := U) (U := U.calling g mk a) (Vm.Alike.refl U.vm) q2, q3⟩
set_option maxRecDepth 100000 in
set_option maxHeartbeats 4000000 in
theorem mL_cell {l : Launch} {G : rc_G} {I : rc_M} {b L : Nat} {xs : Nat → Int32} {k : Int} (hk : 0 ≤ k ∧ k ≤ 100) (hb : ¬ b ∈ rc_L G) (hL : L ≤ 2048) : Met l yL_cell wsL_cell rmL_cell (va_Pc [.ref b, .int (rc_o k)] (rl_B G I b L xs)) (rc_QI G (fun z J => z = tC xs L k ∧ J = I)) 0 0 (rc_A G) := by
  refine Met.ofW (cc := cL_cell) (maxL := 2) (ret := some .int) (by decide +kernel) rfl ?_
  intro p e s m args below meth c s₁ B hml hv
  obtain ⟨rfl, ⟨hP, hK, hn, hSt⟩, hX, hbl⟩ := hv
  have X : rc_X p s m ([.ref b, .int (rc_o k)] : List Value).toArray meth c cL_cell 2 wsL_cell RL G (rc_A G) := ⟨⟨B.exec, B.bytes, hml, findClass_of_methodNamed B.named, atoms_spec (ws := wsL_cell) B.pre⟩, hK, hn, fun _ h => h, hSt, B.notSynchronized⟩
  have S : rl_S b L xs (rc_A G) s := ⟨hX, hbl, hb, hL⟩
  have hr := B.returns
  have hl := lv_entry [.ref b, .int (rc_o k)] (n := 2) (Nat.le_of_ble_eq_true rfl)
  rw [lg_entry_eq]
  generalize (lg_sl [.ref b, .int (rc_o k)] ++ List.replicate (2 - (lg_sl [.ref b, .int (rc_o k)]).length) Slot.unset).toArray = ls at hl ⊢
  suffices K : rc_g p l e rmL_cell s m ([.ref b, .int (rc_o k)] : List Value).toArray below meth c 0 0 (MQ below (rc_QI G (fun z J => z = tC xs L k ∧ J = I)) ([.ref b, .int (rc_o k)] : List Value).toArray s 0 0 (rc_A G)) 2 G (rc_A G) 0 [(0, .ref b), (1, .int (rc_o k))] [] I from K s.heap [] ls hl hP va_S.rf
  have fin : ∀ (z : Int) (lv : List (Nat × Value)), rc_o z = (if k < L then xs k.toNat else rc_o (15565493 * k + 443)) → rc_g p l e rmL_cell s m ([.ref b, .int (rc_o k)] : List Value).toArray below meth c 0 0 (MQ below (rc_QI G (fun z J => z = tC xs L k ∧ J = I)) ([.ref b, .int (rc_o k)] : List Value).toArray s 0 0 (rc_A G)) 2 G (rc_A G) 20 lv [.int (rc_o z)] I := by
    intro z lv hz
    refine rc_ldc (n := 2147483647) X qL_cell_2 (by decide +kernel) dL_cell_20 ?_
    refine rl_iand (z := tC xs L k) X dL_cell_22 ?_ ?_
    · rw [hz]
      unfold tC
      rw [rc_sur]
      rfl
    · exact rc_iret X hr dL_cell_23 ⟨rfl, rfl⟩
  refine rc_iload_n X dL_cell_0 rfl 1 rfl ?_
  refine rc_aload_n X dL_cell_1 rfl 0 rfl ?_
  refine rl_slen X S dL_cell_2 ?_
  refine rc_ic_ge X 12 dL_cell_3 (by decide) ⟨by omega, by omega⟩ ⟨by omega, by omega⟩ (fun c1 => ?_) (fun c1 => ?_)
  · refine rc_ldc (n := 15565493) X qL_cell_1 (by decide +kernel) dL_cell_12 ?_
    refine rc_iload_n X dL_cell_14 rfl 1 rfl ?_
    refine rc_imul X dL_cell_15 ?_
    refine rc_sipush X dL_cell_16 (rc_b16 _ ⟨by decide, by decide⟩) ?_
    refine rc_iadd X dL_cell_19 ?_
    exact fin _ _ (by rw [if_neg (by omega)])
  · refine rc_aload_n X dL_cell_6 rfl 0 rfl ?_
    refine rc_iload_n X dL_cell_7 rfl 1 rfl ?_
    refine rl_sld X S dL_cell_8 ⟨hk.1, by omega⟩ ?_
    refine rc_goto X 20 dL_cell_9 (by decide) ?_
    exact fin _ _ (by rw [if_pos (by omega)]; exact rc_sur _)
theorem rl_cCell {p : Program} {l : Launch} {e : Env} {s : State} {m : MethodId} {args : Array Value} {below : List Frame} {meth : Method} {c : Code} {cells slots : Nat} {Q : State → Prop} {nL : Nat} {G : rc_G} {A : Nat → Prop} {pc : Nat} {lv : List (Nat × Value)} {I : rc_M} {b L : Nat} {xs : Nat → Int32} {k : Int} {rest : List Value} (X : rc_X p s m args meth c cL_law nL wsL_law RL G A) (S : rl_S b L xs A s) (hk : 0 ≤ k ∧ k ≤ 100)
    (hW : (rest.map fun v => v.category).sum ≤ 8) (hd : decode cL_law pc = .ok (.invokestatic 85, 3)) (hcs : cells ≤ room_1.cells ∧ slots ≤ room_1.slots)
    (kk : rc_g p l e room_1 s m args below meth c cells slots Q nL G A (pc + 3) lv (.int (rc_o (tC xs L k)) :: rest) I) : rc_g p l e room_1 s m args below meth c cells slots Q nL G A pc lv (.int (rc_o k) :: .ref b :: rest) I := by
  intro H locs ls hl hP hS
  have hbG : ¬ b ∈ rc_L G := fun q => S.2.2.1 (X.2.2.2.1 b q)
  refine va_calli (va_runS (As := [.ref b, .int (rc_o k)]) (rest := rest) X.1 (mL_cell (I := I) (xs := xs) hk hbG S.2.2.2) (va_cwS 2 X.1.2.2.2.2 gL_law_L_cell rfl rfl rfl dyL_cell.2 ⟨Nat.le_of_ble_eq_true rfl, Nat.le_of_ble_eq_true rfl⟩) ⟨rl_blind G I b L xs _, fun U hU hW => ⟨rfl, (rc_pre X hS hP [] U hU hW).2, by rw [hU]; exact va_X.kept (va_X.moved hW.alike S.1) (hS.2.1 b S.2.1 S.2.2.1), by rw [hU]; exact Nat.lt_of_lt_of_le S.2.1 hS.1⟩⟩ rfl rfl hl.1 rfl (lv_room hW) hd hcs) hS (fun q _ h => X.2.2.2.1 q h) X.2.2.2.1 (fun r u t H1 locs1 ht _ hw' hB _ _ hS1 => ?_)
  obtain ⟨z, rfl, rfl, rfl⟩ := hw'
  exact kk H1 locs1 ls hl (by rw [← ht]; exact hB) hS1
