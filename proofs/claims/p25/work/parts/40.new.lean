/-! ===== constructors: a world of cells one behind another, from the object's own address on ===== -/
def rk_ce : Nat → List va_E → va_W
  | _, [] => []
  | a, e :: es => (a, e) :: rk_ce (a + 1) es
theorem rk_ce_at : ∀ (es : List va_E) (a i : Nat), (rk_ce a es)[i]? = (es[i]?).map (fun e => (a + i, e))
  | [], a, i => by simp [rk_ce]
  | e :: es, a, 0 => by simp [rk_ce]
  | e :: es, a, i + 1 => by
    simp only [rk_ce, List.getElem?_cons_succ]
    rw [rk_ce_at es (a + 1) i]
    congr 1
    funext x
    rw [show a + 1 + i = a + (i + 1) by omega]
theorem rk_ce_app : ∀ (es fs : List va_E) (a : Nat), rk_ce a (es ++ fs) = rk_ce a es ++ rk_ce (a + es.length) fs
  | [], fs, a => by simp [rk_ce]
  | e :: es, fs, a => by
    simp only [rk_ce, List.cons_append, List.length_cons]
    rw [rk_ce_app es fs (a + 1), show a + 1 + es.length = a + (es.length + 1) by omega]
theorem rk_ce_set (es : List va_E) (a i : Nat) (e : va_E) : (rk_ce a es).set i (a + i, e) = rk_ce a (es.set i e) := by
  apply List.ext_getElem?
  intro j
  rw [rk_ce_at]
  by_cases h : i = j
  · subst h
    by_cases hl : i < es.length
    · rw [List.getElem?_set_self (by
        have := rk_ce_at es a i
        rw [List.getElem?_eq_getElem hl] at this
        exact (List.getElem?_eq_some_iff.mp this).1), List.getElem?_set_self hl]
      rfl
    · have h1 : es[i]? = none := List.getElem?_eq_none (by omega)
      have h2 : (rk_ce a es)[i]? = none := by rw [rk_ce_at, h1]; rfl
      rw [List.getElem?_eq_none_iff.mpr, List.getElem?_eq_none_iff.mpr]
      · rfl
      · rw [List.length_set]; omega
      · rw [List.length_set]; exact List.getElem?_eq_none_iff.mp h2
  · rw [List.getElem?_set_ne h, List.getElem?_set_ne h, rk_ce_at]
theorem rk_ceD {A : Nat → Prop} (es : List va_E) (a : Nat) (hA : ∀ q, a ≤ q → A q) : va_D A (rk_ce a es) := by
  have key : ∀ (k : Nat) (q : Nat × va_E), (rk_ce a es)[k]? = some q → q.1 = a + k := by
    intro k q hk
    rw [rk_ce_at] at hk
    cases h : es[k]? with
    | none => rw [h] at hk; cases hk
    | some e => rw [h] at hk; cases hk; rfl
  refine ⟨fun i j p q hi hj e => ?_, fun k q hk => hA _ (by rw [key k q hk]; omega)⟩
  have h1 := key i p hi
  have h2 := key j q hj
  omega
theorem rk_len {es : List va_E} {i : Nat} {e : va_E} (h : es[i]? = some e) : i < es.length := (List.getElem?_eq_some_iff.mp h).1
def rk_N (o : String) (i : Nat) (y : MethodName) (U : State) : Prop := va_Nw (.methodLinkNest o i y "ReelChanger") U
def rk_O (U : State) : Prop := va_AO "ReelChanger$Reel" U ∧ va_AO "ReelChanger$Room" U ∧ rk_N "ReelChanger" 25 yX1_init U ∧ rk_N "ReelChanger" 9 yX4_init U ∧ rk_N "ReelChanger$Room" 18 yX5_init U ∧ rk_N "ReelChanger$Show" 11 yX0_init U ∧ rk_N "ReelChanger$Show" 20 yX2_init U ∧ rk_N "ReelChanger$Stock" 24 yX3_init U
theorem rk_O.warm {s U : State} (hW : s.WarmedH U.vm) (h : rk_O s) : rk_O U :=
  ⟨va_AO.moved hW.alike h.1, va_AO.moved hW.alike h.2.1, va_Nw.warmM hW h.2.2.1, va_Nw.warmM hW h.2.2.2.1, va_Nw.warmM hW h.2.2.2.2.1, va_Nw.warmM hW h.2.2.2.2.2.1, va_Nw.warmM hW h.2.2.2.2.2.2.1, va_Nw.warmM hW h.2.2.2.2.2.2.2⟩
theorem rk_O.same {s U : State} (hv : s.vm = U.vm) (h : rk_O s) : rk_O U :=
  ⟨va_AO.moved (by rw [hv]; exact Vm.Alike.refl U.vm) h.1, va_AO.moved (by rw [hv]; exact Vm.Alike.refl U.vm) h.2.1, va_Nw.same rfl hv h.2.2.1, va_Nw.same rfl hv h.2.2.2.1, va_Nw.same rfl hv h.2.2.2.2.1, va_Nw.same rfl hv h.2.2.2.2.2.1, va_Nw.same rfl hv h.2.2.2.2.2.2.1, va_Nw.same rfl hv h.2.2.2.2.2.2.2⟩
def rk_X (p : Program) (s : State) (m : MethodId) (args : Array Value) (meth : Method) (c : Code) (cc : ByteArray) (nL : Nat) (Ts : List Cond) (own : String) (G : rc_G) (a : Nat) : Prop :=
  CallFix p m c cc nL s args Ts own ∧ va_K (rc_D G) vwCl (rc_ty G) s ∧ (∀ q, s.heap.size ≤ q → a ≤ q) ∧ rc_S1 "FIRST_VALUES" rc_fi (fun q => a ≤ q) s s.heap ∧ meth.locks = false ∧ (meth.name = "<init>" ∨ own = "ReelChangerLaw") ∧ rk_O s
def rk_g (p : Program) (l : Launch) (e : Env) (R : Room) (s : State) (m : MethodId) (args : Array Value) (below : List Frame) (meth : Method) (c : Code) (cells slots : Nat) (Q : State → Prop) (nL : Nat) (G : rc_G) (a : Nat) (pc : Nat) (lv : List (Nat × Value)) (st : List Value) (es : List va_E) : Prop :=
  ∀ (H : Heap) (locs : List Loc) (ls : Array Slot), lv_has ls nL lv → va_P (rc_D G) vwCl (rk_ce a es) H → H.size = a + es.length → va_S (fun q => a ≤ q) s.heap H locs → W p l e R s m args below meth c H locs cells slots Q (F0 m pc ls st)
def rk_Q (G : rc_G) (a : Nat) (es : List va_E) : Array Value → State → Outcome → State → Prop := va_Qv (fun _ : Unit => True) (fun _ t => t.heap.size = a + es.length ∧ va_P (rc_D G) vwCl (rk_ce a es) t.heap) (fun q => a ≤ q)
def rk_B (G : rc_G) (a : Nat) (e0 : va_E) (U : State) : Prop := U.heap.size = a + 1 ∧ va_P (rc_D G) vwCl (rk_ce a [e0]) U.heap ∧ va_K (rc_D G) vwCl (rc_ty G) U ∧ rc_S1 "FIRST_VALUES" rc_fi (fun q => a ≤ q) U U.heap ∧ rk_O U
def rk_C (l : Launch) (y : MethodName) (ws : List Cond) (rm : Room) (G : rc_G) (a : Nat) (e0 : va_E) (es : List va_E) (mc ms : Nat) : Prop := Met l y ws rm (va_Pc [.ref a] (rk_B G a e0)) (rk_Q G a es) mc ms (fun q => a ≤ q)
theorem rk_blind (G : rc_G) (a : Nat) (e0 : va_E) (av : List Value) : FrameBlind (va_Pc av (rk_B G a e0)) := by
  intro b U g mk q
  obtain ⟨q0, q1, q2, q3, q4, q5⟩ := q
  exact ⟨q0, q1, q2, va_K.moved (u := U) (U := U.calling g mk b) (Vm.Alike.refl U.vm) q3, q4.go (u := U) (U := U.calling g mk b) (Vm.Alike.refl U.vm) (fun _ _ _ => rfl) (fun _ h => h), rk_O.same (s := U) (U := U.calling g mk b) rfl q5⟩
section RK
variable {p : Program} {l : Launch} {e : Env} {R : Room} {s : State} {m : MethodId} {args : Array Value} {below : List Frame} {meth : Method} {c : Code} {cells slots : Nat} {Q : State → Prop}
variable {cc : ByteArray} {nL : Nat} {Ts : List Cond} {own : String} {G : rc_G} {a : Nat} {pc : Nat} {lv lv' : List (Nat × Value)} {st : List Value} {es : List va_E}
theorem rk_iconst (X : rk_X p s m args meth c cc nL Ts own G a) {n : Int} (hd : decode cc pc = .ok (.iconst n, 1))
    (kk : rk_g p l e R s m args below meth c cells slots Q nL G a (pc + 1) lv (.int (rc_o n) :: st) es) : rk_g p l e R s m args below meth c cells slots Q nL G a pc lv st es :=
  fun H locs ls hl hP hz hS => lv_iconst X.1.1 X.1.2.1 hd rfl (kk H locs ls hl hP hz hS)
theorem rk_bipush (X : rk_X p s m args meth c cc nL Ts own G a) {n : Int} (hd : decode cc pc = .ok (.bipush n, 2)) (hv : (Int8.ofInt n).toInt32 = rc_o n)
    (kk : rk_g p l e R s m args below meth c cells slots Q nL G a (pc + 2) lv (.int (rc_o n) :: st) es) : rk_g p l e R s m args below meth c cells slots Q nL G a pc lv st es :=
  fun H locs ls hl hP hz hS => lv_bipush X.1.1 X.1.2.1 hd hv (kk H locs ls hl hP hz hS)
theorem rk_sipush (X : rk_X p s m args meth c cc nL Ts own G a) {n : Int} (hd : decode cc pc = .ok (.sipush n, 3)) (hv : (Int16.ofInt n).toInt32 = rc_o n)
    (kk : rk_g p l e R s m args below meth c cells slots Q nL G a (pc + 3) lv (.int (rc_o n) :: st) es) : rk_g p l e R s m args below meth c cells slots Q nL G a pc lv st es :=
  fun H locs ls hl hP hz hS => lv_sipush X.1.1 X.1.2.1 hd hv (kk H locs ls hl hP hz hS)
theorem rk_iload_n (X : rk_X p s m args meth c cc nL Ts own G a) {k : Fin 4} {i : Nat} {x : Int32} (hd : decode cc pc = .ok (.iload_n k, 1)) (hi : (k : Nat) = i) (j : Nat) (hj : lv[j]? = some (i, .int x))
    (kk : rk_g p l e R s m args below meth c cells slots Q nL G a (pc + 1) lv (.int x :: st) es) : rk_g p l e R s m args below meth c cells slots Q nL G a pc lv st es :=
  fun H locs ls hl hP hz hS => lv_iload_n X.1.1 X.1.2.1 hd hi (lv_at hl j hj) (kk H locs ls hl hP hz hS)
theorem rk_aload_n (X : rk_X p s m args meth c cc nL Ts own G a) {k : Fin 4} {i x : Nat} (hd : decode cc pc = .ok (.aload_n k, 1)) (hi : (k : Nat) = i) (j : Nat) (hj : lv[j]? = some (i, .ref x))
    (kk : rk_g p l e R s m args below meth c cells slots Q nL G a (pc + 1) lv (.ref x :: st) es) : rk_g p l e R s m args below meth c cells slots Q nL G a pc lv st es :=
  fun H locs ls hl hP hz hS => lv_aload_n X.1.1 X.1.2.1 hd hi (lv_at hl j hj) (kk H locs ls hl hP hz hS)
theorem rk_istore_n (X : rk_X p s m args meth c cc nL Ts own G a) {k : Fin 4} {i : Nat} {x : Int32} (lv' : List (Nat × Value)) (hd : decode cc pc = .ok (.istore_n k, 1)) (hi : (k : Nat) = i) (hn : i < nL) (hl' : (i, Value.int x) :: lv.filter (fun q => !(q.1 == i) && !(q.1 + 1 == i && q.2.category == 2)) = lv')
    (kk : rk_g p l e R s m args below meth c cells slots Q nL G a (pc + 1) lv' st es) : rk_g p l e R s m args below meth c cells slots Q nL G a pc lv (.int x :: st) es :=
  fun H locs _ hl hP hz hS => lv_istore_n X.1.1 X.1.2.1 hd hi hl hn hl' (fun ls hl => kk H locs ls hl hP hz hS)
theorem rk_astore_n (X : rk_X p s m args meth c cc nL Ts own G a) {k : Fin 4} {i x : Nat} (lv' : List (Nat × Value)) (hd : decode cc pc = .ok (.astore_n k, 1)) (hi : (k : Nat) = i) (hn : i < nL) (hl' : (i, Value.ref x) :: lv.filter (fun q => !(q.1 == i) && !(q.1 + 1 == i && q.2.category == 2)) = lv')
    (kk : rk_g p l e R s m args below meth c cells slots Q nL G a (pc + 1) lv' st es) : rk_g p l e R s m args below meth c cells slots Q nL G a pc lv (.ref x :: st) es :=
  fun H locs _ hl hP hz hS => lv_astore_n X.1.1 X.1.2.1 hd hi hl hn hl' (fun ls hl => kk H locs ls hl hP hz hS)
theorem rk_iinc (X : rk_X p s m args meth c cc nL Ts own G a) {i : Nat} {n x y : Int} (lv' : List (Nat × Value)) (hd : decode cc pc = .ok (.iinc i n, 3)) (j : Nat) (hj : lv[j]? = some (i, .int (rc_o x))) (hy : x + n = y) (hn : i < nL) (hl' : (i, Value.int (rc_o y)) :: lv.filter (fun q => !(q.1 == i) && !(q.1 + 1 == i && q.2.category == 2)) = lv')
    (kk : rk_g p l e R s m args below meth c cells slots Q nL G a (pc + 3) lv' st es) : rk_g p l e R s m args below meth c cells slots Q nL G a pc lv st es :=
  fun H locs _ hl hP hz hS => lv_iinc X.1.1 X.1.2.1 hd hl hj ((rc_add x n).trans (congrArg rc_o hy)) hn hl' (fun ls hl => kk H locs ls hl hP hz hS)
theorem rk_iadd (X : rk_X p s m args meth c cc nL Ts own G a) {x y w : Int} (hd : decode cc pc = .ok (.iadd, 1)) (hw : x + y = w)
    (kk : rk_g p l e R s m args below meth c cells slots Q nL G a (pc + 1) lv (.int (rc_o w) :: st) es) : rk_g p l e R s m args below meth c cells slots Q nL G a pc lv (.int (rc_o y) :: .int (rc_o x) :: st) es :=
  fun H locs ls hl hP hz hS => lv_iadd X.1.1 X.1.2.1 hd (by rw [rc_add, hw]; exact kk H locs ls hl hP hz hS)
theorem rk_dup (X : rk_X p s m args meth c cc nL Ts own G a) {v : Value} (hd : decode cc pc = .ok (.dup, 1)) (hv : v.category = 1)
    (kk : rk_g p l e R s m args below meth c cells slots Q nL G a (pc + 1) lv (v :: v :: st) es) : rk_g p l e R s m args below meth c cells slots Q nL G a pc lv (v :: st) es :=
  fun H locs ls hl hP hz hS => lv_dup X.1.1 X.1.2.1 hd hv (kk H locs ls hl hP hz hS)
theorem rk_goto (X : rk_X p s m args meth c cc nL Ts own G a) {off : Int} (tgt : Nat) (hd : decode cc pc = .ok (.goto off, 3)) (ht : (pc : Int) + off = (tgt : Int))
    (kk : rk_g p l e R s m args below meth c cells slots Q nL G a tgt lv st es) : rk_g p l e R s m args below meth c cells slots Q nL G a pc lv st es :=
  fun H locs ls hl hP hz hS => lv_goto X.1.1 X.1.2.1 hd ht (kk H locs ls hl hP hz hS)
theorem rk_geT (X : rk_X p s m args meth c cc nL Ts own G a) {x y off : Int} (tgt : Nat) (hd : decode cc pc = .ok (.if_icmp .ge off, 3)) (ht : (pc : Int) + off = (tgt : Int)) (hx : rc_R x) (hy : rc_R y) (hc : y ≤ x)
    (kk : rk_g p l e R s m args below meth c cells slots Q nL G a tgt lv st es) : rk_g p l e R s m args below meth c cells slots Q nL G a pc lv (.int (rc_o y) :: .int (rc_o x) :: st) es :=
  fun H locs ls hl hP hz hS => lv_icmp_ge X.1.1 X.1.2.1 hd ht (fun _ => kk H locs ls hl hP hz hS) (fun h => absurd ((rc_le hy hx).mpr hc) h)
theorem rk_geF (X : rk_X p s m args meth c cc nL Ts own G a) {x y off : Int} (hd : decode cc pc = .ok (.if_icmp .ge off, 3)) {tgt : Nat} (ht : (pc : Int) + off = (tgt : Int)) (hx : rc_R x) (hy : rc_R y) (hc : ¬ y ≤ x)
    (kk : rk_g p l e R s m args below meth c cells slots Q nL G a (pc + 3) lv st es) : rk_g p l e R s m args below meth c cells slots Q nL G a pc lv (.int (rc_o y) :: .int (rc_o x) :: st) es :=
  fun H locs ls hl hP hz hS => lv_icmp_ge X.1.1 X.1.2.1 hd ht (fun h => absurd ((rc_le hy hx).mp h) hc) (fun _ => kk H locs ls hl hP hz hS)
theorem rk_obj (X : rk_X p s m args meth c cc nL Ts own G a) {x idx : Nat} (hw : Cond.methodLink own idx objectInit ∈ Ts) (hw2 : Cond.instanceMethod objectInit ∈ Ts) (hw3 : Cond.code objectInit ⟨#[0xb1]⟩ 1 none ∈ Ts) (hd : decode cc pc = .ok (.invokespecial idx, 3)) (hf : 1 ≤ R.frames) (hlo : (st.map fun v => v.category).sum + 12 ≤ R.locals)
    (kk : rk_g p l e R s m args below meth c cells slots Q nL G a (pc + 3) lv st es) : rk_g p l e R s m args below meth c cells slots Q nL G a pc lv (.ref x :: st) es :=
  fun H locs ls hl hP hz hS => W.objInit X.1.1 X.1.2.1 X.1.2.2.2.1 (X.1.2.2.2.2 _ hw) (X.1.2.2.2.2 _ hw2) (X.1.2.2.2.2 _ hw3) rfl (hl.1.trans X.1.2.2.1.symm) rfl hd hf (by show 2 * 0 + _ + 12 ≤ _; omega) (kk H locs ls hl hP hz hS)
theorem rk_put {D : va_G} {H H1 : Heap} {i : Nat} {e0 e1 : va_E} (hP : va_P D vwCl (rk_ce a es) H) (hi : es[i]? = some e0) (h1 : va_at D vwCl (a + i, e1) H1) (oq : ∀ q, q ≠ a + i → H1[q]? = H[q]?) : va_P D vwCl (rk_ce a (es.set i e1)) H1 := by
  have hk : (rk_ce a es)[i]? = some (a + i, e0) := by rw [rk_ce_at, hi]; rfl
  have h := hP.set (rk_ceD (A := fun _ => True) es a (fun _ _ => trivial)) hk h1 oq
  rwa [rk_ce_set] at h
theorem rk_putF (X : rk_X p s m args meth c cc nL Ts own G a) {i ci N k idx : Nat} {fs : List Value} {C : String} {T : u_T} {ty : FieldType} {v : Value} (es' : List va_E) (hi : es[i]? = some (.inr (ci, fs))) (hc : vwCl[ci]? = some (C, T, N)) (hin : ∀ w ∈ u_ws C T N, w ∈ Ts) (ty0 : Nat → FieldType) (hty : ∀ k, k < N → parseFieldDescriptor (T k).2.2.1 = some (ty0 k)) (hnm : ∀ a, a < N → ∀ b, b < N → a ≠ b → (T a).2.1 ≠ (T b).2.1) (hk : k < N)
    (hw : Cond.fieldLink own idx (T k).1 (T k).2.1 (T k).2.2.1 ∈ Ts) (hfin : (T k).2.2.2 = true) (hdecl : (T k).1 = own) (hno : ¬ own = "ReelChangerLaw") (hd0 : parseFieldDescriptor (T k).2.2.1 = some ty) (hn : narrow ty v = v) (hfit : fits ty v = true) (hl0 : k < fs.length) (hes : es.set i (.inr (ci, fs.set k v)) = es') (hd : decode cc pc = .ok (.putfield idx, 3))
    (kk : rk_g p l e R s m args below meth c cells slots Q nL G a (pc + 3) lv st es') : rk_g p l e R s m args below meth c cells slots Q nL G a pc lv (v :: .ref (a + i) :: st) es := by
  intro H locs ls hl hP hz hS
  have hK := X.2.1
  have hap := va_apart (own := own) X.1.2.2.2.2 hin ty0 hty hnm hK hc
  have he : (rk_ce a es)[i]? = some (a + i, .inr (ci, fs)) := by rw [rk_ce_at, hi]; rfl
  obtain ⟨r, h1, cell, q1, q2, q3, q4⟩ := hP i _ he
  have hr : r = (C, T, N) := Option.some.inj (h1.symm.trans hc)
  subst hr
  obtain ⟨hSl, hfc, kC, hkC, hkind⟩ := hK.1 ci _ hc
  obtain ⟨cf, kf, fi, f, hif, hsl⟩ := hSl k hk
  have hlay := X.1.2.2.2.2 _ (hin _ (u_in_lay hk))
  unfold u_lay at hlay
  rw [if_pos hfin] at hlay
  have hst := (u_facts hfc hkC (u_lays X.1.2.2.2.2 hin hk) hif).1
  have hcf : m.cls = cf := by
    obtain ⟨_, _, c', _, _, _, -, -, hf', -, -, -, hown2, -⟩ := Cond.laysFinal_spec hlay
    have e1 : c' = cf := by have := hif.symm.trans hf'; simp at this; exact this.1.symm
    rw [hdecl] at hown2
    rw [← e1]; exact Option.some.inj (X.1.2.2.2.1.symm.trans hown2)
  have h6 := u_fits hfc hkC hkind (Or.inr hlay) hif hd0 hn hfit
  refine W.putFinK X.1.1 X.1.2.1 X.1.2.2.2.1 (X.1.2.2.2.2 _ hw) hif hst hcf (X.2.2.2.2.2.1.resolve_right hno) (by rw [q2]; exact h6) q1 q3 (by rw [hsl]; exact k2_hasslot (q4 k hk)) rfl rfl hd fun H' e1 e2 e3 => ?_
  rw [hsl] at e1 ⊢
  subst hes
  refine kk H' _ ls hl (rk_put hP hi ⟨_, hc, t_OB.to (V := updV (vp_V fs) k v) ⟨_, e1, q2, q3, t_set q4 hap hk v⟩ (fun j _ => vp_updV_set hl0 v j)⟩ e3) (by rw [e2, hz, List.length_set]) (hS.put e2 e3 (Nat.le_add_right a i))
theorem rk_grow {D : va_G} {H H1 : Heap} {e1 : va_E} (hP : va_P D vwCl (rk_ce a es) H) (h1 : va_at D vwCl (a + es.length, e1) H1) (oq : ∀ q, q < H.size → H1[q]? = H[q]?) : va_P D vwCl (rk_ce a (es ++ [e1])) H1 := by
  rw [rk_ce_app]
  refine va_P.app (hP.kept (fun k q hk => oq q.1 ((hP k q hk).lt))) (fun k q hk => ?_)
  have hz : k < 1 := (List.getElem?_eq_some_iff.mp hk).1
  rw [show k = 0 by omega] at hk
  cases hk
  exact h1
theorem rk_newI (X : rk_X p s m args meth c cc nL Ts own G a) {n : Int} (N : Nat) (es' : List va_E) (z : Nat) (hlen : es.length = z) (hw : Cond.arrayClass .int ∈ Ts) (hn : n = (N : Int)) (hN : N < 1000) (hes : es ++ [.inl (rc_cI G, N, .inl (fun _ => 0))] = es') (hcells : cells + 1 ≤ R.cells) (hslots : slots + N ≤ R.slots) (hd : decode cc pc = .ok (.newarray .int, 2))
    (kk : rk_g p l e R s m args below meth c (cells + 1) (slots + N) Q nL G a (pc + 2) lv (.ref (a + z) :: st) es') : rk_g p l e R s m args below meth c cells slots Q nL G a pc lv (.int (rc_o n) :: st) es := by
  intro H locs ls hl hP hz hS
  subst hlen
  subst hn
  have hb : N * componentBytes (newarray.typeOf .int) ≤ 536870912 := by
    show N * 4 ≤ 536870912
    omega
  refine va_newaK (atype := .int) X.1.1 X.1.2.1 (X.1.2.2.2.2 _ hw) rfl hd rfl (by rw [rc_0, rc_lt ⟨by omega, by omega⟩ rc_R0]; omega) (by rw [rc_cl (by omega) (by omega)]; rfl) hb hcells hslots rfl fun H1 cA e1 z1 o1 _ hNm => ?_
  have hcA : cA = rc_cI G := Option.some.inj (hNm.symm.trans (X.2.1.2 0 (rc_cI G, .int) rfl).2)
  subst hes
  have h := kk H1 locs ls hl (rk_grow hP (show va_at _ _ _ _ from ?_) o1) (by rw [z1, hz, List.length_append]; rfl) ⟨Nat.le_trans hS.1 (by omega), fun x h1 h2 => (o1 x (Nat.lt_of_lt_of_le h1 hS.1)).trans (hS.2.1 x h1 h2), hS.2.2⟩
  · rw [← hz] at h
    exact h
  · show H1[a + es.length]? = some (vp_cell _ _)
    rw [← hz, e1, hcA]
    rfl
theorem rk_newQ (X : rk_X p s m args meth c cc nL Ts own G a) {n : Int} {C : String} {idx : Nat} {cA : ClassId} (N t0 : Nat) (es' : List va_E) (z : Nat) (hlen : es.length = z) (ht : (rc_ty G)[t0]? = some (cA, .object C)) (hw : Cond.classLink own idx C ∈ Ts) (hov : va_AO C s) (hn : n = (N : Int)) (hN : N < 1000) (hes : es ++ [.inl (cA, N, .inr (.inr (.inr (.inr (fun _ => none)))))] = es') (hcells : cells + 1 ≤ R.cells) (hslots : slots + N ≤ R.slots) (hd : decode cc pc = .ok (.anewarray idx, 3))
    (kk : rk_g p l e R s m args below meth c (cells + 1) (slots + N) Q nL G a (pc + 3) lv (.ref (a + z) :: st) es') : rk_g p l e R s m args below meth c cells slots Q nL G a pc lv (.int (rc_o n) :: st) es := by
  intro H locs ls hl hP hz hS
  subst hlen
  subst hn
  have hcl : (rc_o (N : Int)).toNatClampNeg = N := by rw [rc_cl (by omega) (by omega)]; rfl
  refine W.anew X.1.1 X.1.2.1 X.1.2.2.2.1 (X.1.2.2.2.2 _ hw) hov.use rfl hd rfl (by rw [rc_0, rc_lt ⟨by omega, by omega⟩ rc_R0]; omega) (by rw [hcl]; omega) hcells (by rw [hcl]; exact hslots) fun cA' kA comp f1 f2 f3 f4 => ?_
  rw [hcl]
  generalize hH1 : H.push ({ cls := cA', slots := Array.replicate N .null, vm := .none } : Cell) = H1
  have z1 : H1.size = H.size + 1 := by rw [← hH1, Array.size_push]
  have e1 : H1[H.size]? = some (arrV cA' N (fun _ => .null)) := by rw [← hH1, Array.getElem?_push_size, ← arrV_new]
  have o1 : ∀ q : Nat, q < H.size → H1[q]? = H[q]? := fun q hq => by rw [← hH1, Array.getElem?_push, if_neg (Nat.ne_of_lt hq)]
  obtain ⟨-, kB, comp2, -, -, -, hf⟩ := X.2.1.2 t0 _ ht
  have hcA : cA' = cA := Option.some.inj (f1.symm.trans hf)
  subst hes
  have h := kk H1 locs ls hl (rk_grow hP (show va_at _ _ _ _ from ?_) o1) (by rw [z1, hz, List.length_append]; rfl) ⟨Nat.le_trans hS.1 (by omega), fun x h1 h2 => (o1 x (Nat.lt_of_lt_of_le h1 hS.1)).trans (hS.2.1 x h1 h2), hS.2.2⟩
  · rw [← hz] at h
    exact h
  · show H1[a + es.length]? = some (vp_cell _ _)
    rw [← hz, e1, hcA]
    rfl
theorem rk_new (X : rk_X p s m args meth c cc nL Ts own G a) {C : String} {T : u_T} {N ci idx : Nat} {fs : List Value} (es' : List va_E) (z : Nat) (hlen : es.length = z) (hin : ∀ w ∈ u_ws C T N, w ∈ Ts) (ty0 : Nat → FieldType) (hty : ∀ k, k < N → parseFieldDescriptor (T k).2.2.1 = some (ty0 k)) (hw : Cond.classLink own idx C ∈ Ts) (hw2 : Cond.instantiable C N ∈ Ts) (hw3 : Cond.initialized C ∈ Ts) (hc : vwCl[ci]? = some (C, T, N)) (hfs : ∀ j, j < N → defaultValue (ty0 j) = vp_V fs j) (hes : es ++ [.inr (ci, fs)] = es') (hcells : cells + 1 ≤ R.cells) (hslots : slots + N ≤ R.slots) (hd : decode cc pc = .ok (.new idx, 3))
    (kk : rk_g p l e R s m args below meth c (cells + 1) (slots + N) Q nL G a (pc + 3) lv (.ref (a + z) :: st) es') : rk_g p l e R s m args below meth c cells slots Q nL G a pc lv st es := by
  intro H locs ls hl hP hz hS
  subst hlen
  have hKn := X.2.1.1 ci _ hc
  refine W.newcK X.1.1 X.1.2.1 X.1.2.2.2.1 (X.1.2.2.2.2 _ hw) (X.1.2.2.2.2 _ hw2) (X.1.2.2.2.2 _ hw3) rfl hd hcells hslots hKn.2.1 rfl fun H1 kC hkC e1 z1 o1 => ?_
  subst hes
  have h := kk H1 locs ls hl (rk_grow hP (show va_at _ _ _ _ from ?_) o1) (by rw [z1, hz, List.length_append]; rfl) ⟨Nat.le_trans hS.1 (by omega), fun x h1 h2 => (o1 x (Nat.lt_of_lt_of_le h1 hS.1)).trans (hS.2.1 x h1 h2), hS.2.2⟩
  · rw [← hz] at h
    exact h
  · rw [← hz]
    exact ⟨_, hc, (u_born ty0 X.1.2.2.2.2 hin hKn hkC e1 hty).to hfs⟩
theorem rk_fget (X : rk_X p s m args meth c cc nL Ts own G a) {i ci N k idx : Nat} {fs : List Value} {C : String} {T : u_T} {v : Value} (hi : es[i]? = some (.inr (ci, fs))) (hc : vwCl[ci]? = some (C, T, N)) (hin : ∀ w ∈ u_ws C T N, w ∈ Ts) (hk : k < N) (hw : Cond.fieldLink own idx (T k).1 (T k).2.1 (T k).2.2.1 ∈ Ts) (hv : fs[k]? = some v) (hd : decode cc pc = .ok (.getfield idx, 3))
    (kk : rk_g p l e R s m args below meth c cells slots Q nL G a (pc + 3) lv (v :: st) es) : rk_g p l e R s m args below meth c cells slots Q nL G a pc lv (.ref (a + i) :: st) es := by
  intro H locs ls hl hP hz hS
  have he : (rk_ce a es)[i]? = some (a + i, .inr (ci, fs)) := by rw [rk_ce_at, hi]; rfl
  exact va_get X.1.1 X.1.2.1 X.1.2.2.2.2 hin X.1.2.2.2.1 X.2.1 hP i he hc k hk (X.1.2.2.2.2 _ hw) (fun _ h => h) hv hd (kk H locs ls hl hP hz hS)
theorem rk_iald (X : rk_X p s m args meth c cc nL Ts own G a) {i n : Nat} {f : Nat → Int32} {x w : Int} (hi : es[i]? = some (.inl (rc_cI G, n, .inl f))) (hn : n < 1000) (hx : 0 ≤ x ∧ x < n) (hw : f x.toNat = rc_o w) (hd : decode cc pc = .ok (.iaload, 1))
    (kk : rk_g p l e R s m args below meth c cells slots Q nL G a (pc + 1) lv (.int (rc_o w) :: st) es) : rk_g p l e R s m args below meth c cells slots Q nL G a pc lv (.int (rc_o x) :: .ref (a + i) :: st) es := by
  intro H locs ls hl hP hz hS
  have he : (rk_ce a es)[i]? = some (a + i, .inl (rc_cI G, n, .inl f)) := by rw [rk_ce_at, hi]; rfl
  have h := kk H locs ls hl hP hz hS
  rw [← hw, show x.toNat = (rc_o x).toNatClampNeg by rw [rc_cl hx.1 (by omega)]] at h
  exact va_iald X.1.1 X.1.2.1 X.2.1 hP i 0 he rfl (rc_in (by omega) hx) hd h
theorem rk_iast (X : rk_X p s m args meth c cc nL Ts own G a) {i n : Nat} {f : Nat → Int32} {x w : Int} (es' : List va_E) (hi : es[i]? = some (.inl (rc_cI G, n, .inl f))) (hn : n < 1000) (hx : 0 ≤ x ∧ x < n) (hes : es.set i (.inl (rc_cI G, n, .inl (upd f x.toNat (rc_o w)))) = es') (hd : decode cc pc = .ok (.iastore, 1))
    (kk : rk_g p l e R s m args below meth c cells slots Q nL G a (pc + 1) lv st es') : rk_g p l e R s m args below meth c cells slots Q nL G a pc lv (.int (rc_o w) :: .int (rc_o x) :: .ref (a + i) :: st) es := by
  intro H locs ls hl hP hz hS
  have he : (rk_ce a es)[i]? = some (a + i, .inl (rc_cI G, n, .inl f)) := by rw [rk_ce_at, hi]; rfl
  have hin : vp_in (rc_o x) n := rc_in (by omega) hx
  refine W.iast X.1.1 X.1.2.1 (hP i _ he) ((X.2.1.2 0 (rc_cI G, .int) rfl).1 n (fun j => .int (f j))) (fun q => by cases q) (by show ¬ (rc_o x < 0 ∨ (arrV _ _ _).slots.size ≤ _); rw [arrV_size]; exact hin) rfl rfl hd fun H1 e1 z1 oq => ?_
  subst hes
  refine kk H1 _ ls hl (rk_put hP hi ?_ oq) (by rw [z1, hz, List.length_set]) (hS.put z1 oq (Nat.le_add_right a i))
  show H1[a + i]? = some (vp_cell _ _)
  rw [e1, vp_cell_i, vp_cell_i, arrV_store]
  congr 2
  funext q
  rw [rc_cl hx.1 (by omega)]
  by_cases hq : q = x.toNat
  · subst hq
    simp [updV, upd]
  · simp [updV, upd, hq]
theorem rk_aast (X : rk_X p s m args meth c cc nL Ts own G a) {i j n ci t0 : Nat} {cA : ClassId} {r : vw_C} {vs : List Value} {f : Nat → Option Nat} {x : Int} (es' : List va_E) (hi : es[i]? = some (.inl (cA, n, .inr (.inr (.inr (.inr f)))))) (hn : n < 1000) (ht : (rc_ty G)[t0]? = some (cA, .object r.1)) (hj : es[j]? = some (.inr (ci, vs))) (hc : vwCl[ci]? = some r) (hx : 0 ≤ x ∧ x < n) (hes : es.set i (.inl (cA, n, .inr (.inr (.inr (.inr (va_up f x.toNat (some (a + j)))))))) = es') (hd : decode cc pc = .ok (.aastore, 1))
    (kk : rk_g p l e R s m args below meth c cells slots Q nL G a (pc + 1) lv st es') : rk_g p l e R s m args below meth c cells slots Q nL G a pc lv (.ref (a + j) :: .int (rc_o x) :: .ref (a + i) :: st) es := by
  intro H locs ls hl hP hz hS
  have ha : (rk_ce a es)[i]? = some (a + i, .inl (cA, n, .inr (.inr (.inr (.inr f))))) := by rw [rk_ce_at, hi]; rfl
  have hv : (rk_ce a es)[j]? = some (a + j, .inr (ci, vs)) := by rw [rk_ce_at, hj]; rfl
  have hin : vp_in (rc_o x) n := rc_in (by omega) hx
  have hlt : (rc_o x).toNatClampNeg < n := Nat.not_le.mp fun q => hin (Or.inr q)
  have h0 : ¬ rc_o x < 0 := fun q => hin (Or.inl q)
  obtain ⟨r', hr', cellV, g1, g2, g3, -⟩ := hP j _ hv
  have hcls := (X.2.1.1 ci r hc).2
  obtain ⟨kA, comp, k1, k2, k3, -⟩ := (X.2.1.2 t0 _ ht).2
  have hcomp : comp = (rc_D G).1 ci := Option.some.inj (k3.symm.trans hcls.1)
  subst hcomp
  obtain ⟨kC, hkC, -⟩ := hcls.2
  refine W.aast X.1.1 X.1.2.1 (hP i _ ha) (fun q h => by cases h) (fun h => by cases h) k1 k2 rfl hkC ⟨h0, by show _ < (arrV _ _ _).slots.size; rw [arrV_size]; exact hlt⟩ g1 (fun q h => by rw [g3] at h; cases h) (by rw [g2]; exact hkC) (by rw [g2]; exact va_assign hcls) rfl rfl hd fun H1 e1 z1 oq => ?_
  subst hes
  refine kk H1 _ ls hl (rk_put hP hi ?_ oq) (by rw [z1, hz, List.length_set]) (hS.put z1 oq (Nat.le_add_right a i))
  show H1[a + i]? = some (vp_cell _ _)
  rw [e1, vp_cell_q, vp_cell_q, arrV_store]
  congr 2
  funext q
  rw [rc_cl hx.1 (by omega)]
  by_cases hq : q = x.toNat
  · subst hq
    simp [updV, va_up, va_rf]
  · simp [updV, va_up, hq]
theorem rk_cpS (X : rk_X p s m args meth c cc nL Ts own G a) {i t idx : Nat} {g : Nat → Int32} (es' : List va_E) (hT : va_T .int t 8 (fun j => .int (rc_o (rc_fi j))) (fun q => a ≤ q) s s.heap) (hi : es[i]? = some (.inl (rc_cI G, 8, .inl g)))
    (hw : Cond.methodLink own idx arraycopyName ∈ Ts) (hw2 : Cond.native arraycopyName ∈ Ts) (hw3 : Cond.static arraycopyName ∈ Ts) (hw4 : Cond.initialized "java/lang/System" ∈ Ts)
    (hfr : 1 ≤ R.frames) (hlo : (st.map fun v => v.category).sum + (nativeFrameWords "java/lang/System" "arraycopy" 5 + 11) ≤ R.locals) (hd : decode cc pc = .ok (.invokestatic idx, 3))
    (hes : es.set i (.inl (rc_cI G, 8, .inl (va_cpy (fun j : Nat => rc_o (rc_fi j)) g 0 0 8))) = es')
    (kk : rk_g p l e R s m args below meth c cells slots Q nL G a (pc + 3) lv st es') : rk_g p l e R s m args below meth c cells slots Q nL G a pc lv (.int (rc_o 8) :: .int (rc_o 0) :: .ref (a + i) :: .int (rc_o 0) :: .ref t :: st) es := by
  intro H locs ls hl hP hz hS T hT0 X0
  obtain ⟨scr, hs1, hs2, hs3, hs4, -, hs5, hs7⟩ := hT
  have ha1 : (rk_ce a es)[i]? = some (a + i, .inl (rc_cI G, 8, .inl g)) := by rw [rk_ce_at, hi]; rfl
  have hc0 : H[t]? = some scr := by rw [hS.2.1 t (Array.getElem?_eq_some_iff.mp hs1).1 hs7]; exact hs1
  have hc1 : H[a + i]? = some (vp_cell (rc_cI G) (8, .inl g)) := hP i _ ha1
  obtain ⟨hs6, k0, hk0, cm0, hkk0⟩ := hs2
  obtain ⟨-, k1, hk1, cm1, hkk1⟩ := (X.2.1.2 0 (rc_cI G, .int) rfl).1 8 (fun j => .int (g j))
  have c0 : (rc_o 0).toNatClampNeg = 0 := by decide +kernel
  have c8 : (rc_o 8).toNatClampNeg = 8 := by decide +kernel
  have i0 : (rc_o 0).toInt = 0 := by decide +kernel
  have i8 : (rc_o 8).toInt = 8 := by decide +kernel
  obtain ⟨vm', X', step⟩ := X0.arraycopy X.1.1 X.1.2.2.2.1 (X.1.2.2.2.2 _ hw) (X.1.2.2.2.2 _ hw2) (X.1.2.2.2.2 _ hw3) (X.1.2.2.2.2 _ hw4) (src := t) (dst := a + i) (cs := scr) (cd := vp_cell (rc_cI G) (8, .inl g)) (srcPos := rc_o 0) (destPos := rc_o 0) (n := rc_o 8) (by rw [hT0]; exact hc0) (by rw [hT0]; exact hc1)
    hs6 (fun _ h => by cases h) hs3 (fun h => by cases h) hk0 hk1 hkk0 hkk1 (by simp [refKind]) (by decide +kernel) (by decide +kernel) (by decide +kernel)
    (by rw [i0, i8]; omega)
    (by rw [i0, i8]; show ¬ _ > ((arrV (rc_cI G) 8 (fun j => .int (g j))).slots.size : Int); rw [arrV_size]; decide)
    (fun vm₁ _ j hj => by
      rw [c0, Nat.zero_add]
      rw [c8] at hj
      have e : scr.slots.getD j .null = .int (rc_o (rc_fi j)) := by
        rw [Array.getD_eq_getD_getElem?, hs5 _ hj]
        rfl
      refine ⟨?_, ?_⟩
      · rw [e]
        rfl
      · rw [e]
        exact trivial)
    (g := F0 m pc ls (.int (rc_o 8) :: .int (rc_o 0) :: .ref (a + i) :: .int (rc_o 0) :: .ref t :: st)) rfl (by rw [X.1.2.2.1]; exact hl.1) (rest := st) rfl (by rw [X.1.2.1]; exact hd) hfr (by show 2 * 0 + _ + _ ≤ _; omega)
  have e1 : copied scr (vp_cell (rc_cI G) (8, .inl g)) (rc_o 0) (rc_o 0) (rc_o 8) = vp_cell (rc_cI G) (8, .inl (va_cpy (fun j : Nat => rc_o (rc_fi j)) g 0 0 8)) := by
    have h := va_copiedX (fun z => .int z) scr (rc_cI G) (n1 := 8) (sp := (rc_o 0).toNatClampNeg) (dp := (rc_o 0).toNatClampNeg) (n := (rc_o 8).toNatClampNeg) (fun j : Nat => rc_o (rc_fi j)) g hs5 (by rw [c0, c8]; decide)
    rw [c0, c8] at h
    show (vp_cell (rc_cI G) (8, .inl g)).storeRun (rc_o 0).toNatClampNeg (scr.stretch (rc_o 0).toNatClampNeg (rc_o 8).toNatClampNeg) = _
    rw [c0, c8]
    exact h
  rw [e1] at X' step
  have hlt : a + i < H.size := (Array.getElem?_eq_some_iff.mp hc1).1
  have hheap : ((T.setVm vm').setCell (a + i) (vp_cell (rc_cI G) (8, .inl (va_cpy (fun j : Nat => rc_o (rc_fi j)) g 0 0 8)))).heap = H.setIfInBounds (a + i) (vp_cell (rc_cI G) (8, .inl (va_cpy (fun j : Nat => rc_o (rc_fi j)) g 0 0 8))) := by rw [← hT0]; rfl
  have oq : ∀ q : Nat, q ≠ a + i → (H.setIfInBounds (a + i) (vp_cell (rc_cI G) (8, .inl (va_cpy (fun j : Nat => rc_o (rc_fi j)) g 0 0 8))))[q]? = H[q]? := fun q hq => by simp [Array.getElem?_setIfInBounds, Ne.symm hq]
  subst hes
  obtain ⟨t2, a1, b1⟩ := kk _ _ ls hl (rk_put hP hi (show (H.setIfInBounds (a + i) _)[a + i]? = some _ by simp [Array.getElem?_setIfInBounds, hlt]) oq) (by rw [Array.size_setIfInBounds, hz, List.length_set]) ⟨by rw [Array.size_setIfInBounds]; exact hS.1, fun q g1 g2 => by
      rw [oq q (fun e => g2 (by rw [e]; omega))]
      exact hS.2.1 q g1 g2, fun q hq => by
      rcases List.mem_append.mp hq with h | h
      · exact hS.2.2 q h
      · obtain ⟨z, -, hz⟩ := List.mem_map.mp h
        rw [← hz]
        exact Nat.le_add_right a i⟩ _ hheap X'
  exact ⟨t2, step t2 a1, b1⟩
theorem rk_gst (X : rk_X p s m args meth c cc nL Ts own G a) {idx : Nat} (hw : Cond.fieldLink own idx "ReelChanger$Stock" "FIRST_VALUES" "[I" ∈ Ts) (hd : decode cc pc = .ok (.getstatic idx, 3))
    (kk : ∀ t : Nat, va_T .int t 8 (fun j => .int (rc_o (rc_fi j))) (fun q => a ≤ q) s s.heap → rk_g p l e R s m args below meth c cells slots Q nL G a (pc + 3) lv (.ref t :: st) es) : rk_g p l e R s m args below meth c cells slots Q nL G a pc lv st es := by
  intro H locs ls hl hP hz hS
  obtain ⟨t, hZ, hT⟩ := X.2.2.2.1
  exact va_gets X.1.1 X.1.2.1 hZ hS X.1.2.2.2.1 (X.1.2.2.2.2 _ hw) (fun _ h => h) hd (kk t hT H locs ls hl hP hz hS)
theorem rk_vret (X : rk_X p s m args meth c cc nL Ts own G a) (hr : meth.sig.returnType = none) (hd : decode cc pc = .ok (.return_, 1)) :
    rk_g p l e R s m args below meth c cells slots (MQ below (rk_Q G a es) args s cells slots (fun q => a ≤ q)) nL G a pc lv [] es :=
  fun _ _ _ _ hP hz hS => W.vret X.1.1 X.1.2.1 hr (fun t ht _ => ⟨⟨(), rfl, trivial, by rw [ht]; exact hz, by rw [ht]; exact hP⟩, hS.F ht⟩) hS.2.2 hd X.2.2.2.2.1
theorem rk_call (X : rk_X p s m args meth c cc nL Ts own G a) {y : MethodName} {ws ws' : List Cond} {bytes : ByteArray} {maxL idx mc ms : Nat} {rm : Room} {e0 : va_E} {es0 esn : List va_E} (es' : List va_E) (z : Nat) (hlen : es0.length = z) (hM : rk_C l y ws rm G (a + z) e0 esn mc ms) (gd : GoodIn Ts ws) (hw : ws = Cond.code y bytes maxL none :: ws') (hrm : rm.cells = mc ∧ rm.slots = ms)
    (hy : y.cls ≠ "java/lang/invoke/MethodHandle" ∧ y.cls ≠ "java/lang/invoke/VarHandle" ∧ (parseMethodDescriptor y.desc).map (fun d => d.parameters.length) = some 0) (hyn : y.name = "<init>") (hw1 : Cond.initialized y.cls ∈ Ts) (hw2 : Cond.methodLink own idx y ∈ Ts) (hw3 : Cond.instanceMethod y ∈ Ts)
    (hR : rm.frames + 1 ≤ R.frames ∧ 8 + (maxL + 11) + rm.locals ≤ R.locals) (hW : (st.map fun v => v.category).sum ≤ 8) (hes0 : es = es0 ++ [e0]) (hes : es0 ++ esn = es') (hd : decode cc pc = .ok (.invokespecial idx, 3)) (hcs : cells + mc ≤ R.cells ∧ slots + ms ≤ R.slots)
    (kk : rk_g p l e R s m args below meth c (cells + mc) (slots + ms) Q nL G a (pc + 3) lv st es') : rk_g p l e R s m args below meth c cells slots Q nL G a pc lv (.ref (a + z) :: st) es := by
  intro H locs ls hl hP hz hS
  subst hlen
  subst hes0
  have hP0 := hP
  rw [rk_ce_app] at hP0
  have hzz : H.size = a + es0.length + 1 := by rw [hz, List.length_append]; rfl
  have hPc : va_P (rc_D G) vwCl (rk_ce (a + es0.length) [e0]) H := fun k q hk => hP0 ((rk_ce a es0).length + k) q (by rw [List.getElem?_append_right (by omega), Nat.add_sub_cancel_left]; exact hk)
  have hPb : va_P (rc_D G) vwCl (rk_ce a es0) H := fun k q hk => hP0 k q (by rw [List.getElem?_append_left (List.getElem?_eq_some_iff.mp hk).1]; exact hk)
  refine va_callv (va_runI (As := []) (rest := st) (b := a + es0.length) X.1 hM (cwI 0 X.1.2.2.2.2 gd hw hrm.1 hrm.2 (X.1.2.2.2.2 _ hw1) (X.1.2.2.2.2 _ hw2) (X.1.2.2.2.2 _ hw3) hyn hy hR) ⟨rk_blind G _ _ _, fun U hU hW => ⟨rfl, by rw [hU]; exact hzz, by rw [hU]; exact hPc, va_K.moved hW.alike X.2.1, by rw [hU]; exact X.2.2.2.1.go hW.alike hS.2.1 (fun q h => by omega), rk_O.warm hW X.2.2.2.2.2.2⟩⟩ rfl rfl hl.1 rfl (lv_room hW) hd hcs) hS (fun q _ h => by omega) (fun q h => by omega) (fun _ t H1 locs1 ht _ _ hB hz1 hk1 hS1 => ?_)
  subst hes
  refine kk H1 locs1 ls hl ?_ (by rw [← ht, hB.1, List.length_append]; omega) hS1
  rw [rk_ce_app]
  refine va_P.app (hPb.kept (fun k q hk => hk1 q.1 ((hPb k q hk).lt) ?_)) (by rw [← ht]; exact hB.2)
  have hq := hk
  rw [rk_ce_at] at hq
  cases h : es0[k]? with
  | none => rw [h] at hq; cases hq
  | some e2 =>
    rw [h] at hq
    cases hq
    have := rk_len h
    show ¬ (a + es0.length ≤ a + k)
    omega
theorem rk_callN (X : rk_X p s m args meth c cc nL Ts own G a) {y : MethodName} {ws ws' : List Cond} {bytes : ByteArray} {maxL idx mc ms : Nat} {rm : Room} {e0 : va_E} {es0 esn : List va_E} (es' : List va_E) (z : Nat) (hlen : es0.length = z) (hM : rk_C l y ws rm G (a + z) e0 esn mc ms) (gd : GoodIn Ts ws) (hw : ws = Cond.code y bytes maxL none :: ws') (hrm : rm.cells = mc ∧ rm.slots = ms)
    (hy : y.cls ≠ "java/lang/invoke/MethodHandle" ∧ y.cls ≠ "java/lang/invoke/VarHandle" ∧ (parseMethodDescriptor y.desc).map (fun d => d.parameters.length) = some 0) (hyn : y.name = "<init>") (hw1 : Cond.initialized y.cls ∈ Ts) (hw2 : rk_N own idx y s) (hw3 : Cond.instanceMethod y ∈ Ts)
    (hR : rm.frames + 1 ≤ R.frames ∧ 8 + (maxL + 11) + rm.locals ≤ R.locals) (hW : (st.map fun v => v.category).sum ≤ 8) (hes0 : es = es0 ++ [e0]) (hes : es0 ++ esn = es') (hd : decode cc pc = .ok (.invokespecial idx, 3)) (hcs : cells + mc ≤ R.cells ∧ slots + ms ≤ R.slots)
    (kk : rk_g p l e R s m args below meth c (cells + mc) (slots + ms) Q nL G a (pc + 3) lv st es') : rk_g p l e R s m args below meth c cells slots Q nL G a pc lv (.ref (a + z) :: st) es := by
  intro H locs ls hl hP hz hS
  subst hlen
  subst hes0
  have hP0 := hP
  rw [rk_ce_app] at hP0
  have hzz : H.size = a + es0.length + 1 := by rw [hz, List.length_append]; rfl
  have hPc : va_P (rc_D G) vwCl (rk_ce (a + es0.length) [e0]) H := fun k q hk => hP0 ((rk_ce a es0).length + k) q (by rw [List.getElem?_append_right (by omega), Nat.add_sub_cancel_left]; exact hk)
  have hPb : va_P (rc_D G) vwCl (rk_ce a es0) H := fun k q hk => hP0 k q (by rw [List.getElem?_append_left (List.getElem?_eq_some_iff.mp hk).1]; exact hk)
  refine va_callv (va_runIN (As := []) (rest := st) (b := a + es0.length) X.1 hM ⟨va_cnB 0 X.1.2.2.2.2 gd hw hrm.1 hrm.2 hw2 (X.1.2.2.2.2 _ hw1) hy hR, hyn, X.1.2.2.2.2 _ hw3⟩ ⟨rk_blind G _ _ _, fun U hU hW => ⟨rfl, by rw [hU]; exact hzz, by rw [hU]; exact hPc, va_K.moved hW.alike X.2.1, by rw [hU]; exact X.2.2.2.1.go hW.alike hS.2.1 (fun q h => by omega), rk_O.warm hW X.2.2.2.2.2.2⟩⟩ rfl rfl hl.1 rfl (lv_room hW) hd hcs) hS (fun q _ h => by omega) (fun q h => by omega) (fun _ t H1 locs1 ht _ _ hB hz1 hk1 hS1 => ?_)
  subst hes
  refine kk H1 locs1 ls hl ?_ (by rw [← ht, hB.1, List.length_append]; omega) hS1
  rw [rk_ce_app]
  refine va_P.app (hPb.kept (fun k q hk => hk1 q.1 ((hPb k q hk).lt) ?_)) (by rw [← ht]; exact hB.2)
  have hq := hk
  rw [rk_ce_at] at hq
  cases h : es0[k]? with
  | none => rw [h] at hq; cases hq
  | some e2 =>
    rw [h] at hq
    cases hq
    have := rk_len h
    show ¬ (a + es0.length ≤ a + k)
    omega
end RK
section RK2
variable {l : Launch} {y : MethodName} {ws ws' : List Cond} {rm : Room} {cc : ByteArray} {maxL : Nat} {G : rc_G} {own : String} {a : Nat} {e0 : va_E} {es : List va_E} {mc ms : Nat}
theorem rk_body (hy : plainName y.cls = true) (hyn : y.name = "<init>") (hw : ws = Cond.code y cc maxL none :: ws') (hown : y.cls = own) (hlen : 1 ≤ maxL)
    (body : ∀ (p : Program) (e : Env) (s : State) (m : MethodId) (below : List Frame) (meth : Method) (c : Code), rk_X p s m ([.ref a] : List Value).toArray meth c cc maxL ws own G a → meth.sig.returnType = none →
      rk_g p l e rm s m ([.ref a] : List Value).toArray below meth c 0 0 (MQ below (rk_Q G a es) ([.ref a] : List Value).toArray s mc ms (fun q => a ≤ q)) maxL G a 0 [(0, .ref a)] [] [e0]) : rk_C l y ws rm G a e0 es mc ms := by
  refine Met.ofW (cc := cc) (maxL := maxL) (ret := none) hy hw ?_
  intro p e s m args below meth c s₁ B hml hv
  obtain ⟨rfl, hz, hP, hK, hSt, hO⟩ := hv
  have X : rk_X p s m ([.ref a] : List Value).toArray meth c cc maxL ws own G a := ⟨⟨B.exec, B.bytes, hml, by rw [← hown]; exact findClass_of_methodNamed B.named, atoms_spec (ws := ws) B.pre⟩, hK, fun q h => by omega, hSt, B.notSynchronized, Or.inl (by rw [← hyn]; exact (name_of_methodNamed B.named B.method).1), hO⟩
  have hl := lv_entry [.ref a] (n := maxL) hlen
  rw [lg_entry_eq]
  generalize (lg_sl [.ref a] ++ List.replicate (maxL - (lg_sl [.ref a]).length) Slot.unset).toArray = ls at hl ⊢
  exact body p e s m below meth c X B.returns s.heap [] ls hl hP hz va_S.rf
end RK2
