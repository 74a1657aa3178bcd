/-! ===== numbers: an int of the machine is rc_o of a whole number ===== -/
abbrev rc_M : Type := Nat → Int → Int
def rc_o (z : Int) : Int32 := Int32.ofInt z
def rc_R (z : Int) : Prop := -2147483648 ≤ z ∧ z < 2147483648
theorem rc_t {z : Int} (h : rc_R z) : (rc_o z).toInt = z := by
  obtain ⟨h1, h2⟩ := h
  exact Int32.toInt_ofInt_of_le (by omega) (by omega)
theorem rc_lt {a b : Int} (ha : rc_R a) (hb : rc_R b) : rc_o a < rc_o b ↔ a < b := by rw [Int32.lt_iff_toInt_lt, rc_t ha, rc_t hb]
theorem rc_le {a b : Int} (ha : rc_R a) (hb : rc_R b) : rc_o a ≤ rc_o b ↔ a ≤ b := by rw [Int32.le_iff_toInt_le, rc_t ha, rc_t hb]
theorem rc_eq {a b : Int} (ha : rc_R a) (hb : rc_R b) : rc_o a = rc_o b ↔ a = b := by rw [← Int32.toInt_inj, rc_t ha, rc_t hb]
theorem rc_R0 : rc_R 0 := ⟨by decide, by decide⟩
theorem rc_0 : (0 : Int32) = rc_o 0 := rfl
theorem rc_sur (x : Int32) : rc_o x.toInt = x := Int32.ofInt_toInt x
theorem rc_Rx (x : Int32) : rc_R x.toInt := by
  have h1 := x.le_toInt
  have h2 := x.toInt_lt
  exact ⟨by omega, by omega⟩
theorem rc_cl {z : Int} (h : 0 ≤ z) (h2 : z < 2147483648) : (rc_o z).toNatClampNeg = z.toNat := Int32.toNatClampNeg_ofInt_of_le (by omega) (by omega)
theorem rc_in {z : Int} {n : Nat} (hn : n < 2147483648) (h : 0 ≤ z ∧ z < n) : vp_in (rc_o z) n := by
  rw [vp_in_iff, rc_t ⟨by omega, by omega⟩]
  exact ⟨h.1, h.2⟩
theorem rc_add (a b : Int) : rc_o a + rc_o b = rc_o (a + b) := (Int32.ofInt_add a b).symm
theorem rc_sub (a b : Int) : rc_o a - rc_o b = rc_o (a - b) := (Int32.ofInt_sub a b).symm
theorem rc_mul (a b : Int) : rc_o a * rc_o b = rc_o (a * b) := (Int32.ofInt_mul a b).symm
theorem rc_neg (a : Int) : -(rc_o a) = rc_o (-a) := (Int32.ofInt_neg a).symm
theorem rc_div {a b : Int} (ha : 0 ≤ a ∧ a < 2147483648) (hb : 0 < b ∧ b < 2147483648) : rc_o a / rc_o b = rc_o (a / b) := by
  have h0 : 0 ≤ a / b := Int.ediv_nonneg ha.1 (by omega)
  have h1 : a / b ≤ a := Int.ediv_le_self b ha.1
  apply Int32.toInt_inj.mp
  rw [Int32.toInt_div_of_ne_left, rc_t ⟨by omega, by omega⟩, rc_t ⟨by omega, by omega⟩, rc_t ⟨by omega, by omega⟩, Int.tdiv_eq_ediv_of_nonneg ha.1]
  intro h
  have h2 := congrArg Int32.toInt h
  rw [rc_t ⟨by omega, by omega⟩] at h2
  have h3 : Int32.minValue.toInt = -2147483648 := by decide
  omega
theorem rc_rem {a b : Int} (ha : 0 ≤ a ∧ a < 2147483648) (hb : 0 < b ∧ b < 2147483648) : rc_o a - rc_o a / rc_o b * rc_o b = rc_o (a % b) := by
  rw [rc_div ha hb, rc_mul, rc_sub, Int.emod_def, Int.mul_comm]
theorem rc_nz {b : Int} (hb : 0 < b ∧ b < 2147483648) : ¬ rc_o b = 0 := by
  rw [rc_0, rc_eq ⟨by omega, by omega⟩ rc_R0]
  omega
theorem rc_max {x y : Int} (hx : rc_R x) (hy : rc_R y) : (if rc_o x < rc_o y then rc_o y else rc_o x) = rc_o (max x y) := by
  by_cases h : x < y
  · rw [if_pos ((rc_lt hx hy).mpr h), show max x y = y by omega]
  · rw [if_neg (fun q => h ((rc_lt hx hy).mp q)), show max x y = x by omega]
theorem rc_min {x y : Int} (hx : rc_R x) (hy : rc_R y) : (if rc_o y < rc_o x then rc_o y else rc_o x) = rc_o (min x y) := by
  by_cases h : y < x
  · rw [if_pos ((rc_lt hy hx).mpr h), show min x y = y by omega]
  · rw [if_neg (fun q => h ((rc_lt hy hx).mp q)), show min x y = x by omega]
/-! ===== memory ===== -/
def rc_u (f : Int → Int) (k x : Int) : Int → Int := fun j => if j = k then x else f j
def rc_w (I : rc_M) (a : Nat) (f : Int → Int) : rc_M := fun b => if b = a then f else I b
def rc_s (I : rc_M) (a : Nat) (k x : Int) : rc_M := rc_w I a (rc_u (I a) k x)
theorem rc_w_s (I : rc_M) (a : Nat) (f : Int → Int) : rc_w I a f a = f := by simp [rc_w]
theorem rc_w_n (I : rc_M) {a b : Nat} (f : Int → Int) (h : b ≠ a) : rc_w I a f b = I b := by simp [rc_w, h]
theorem rc_w_w (I : rc_M) (a : Nat) (f g : Int → Int) : rc_w (rc_w I a f) a g = rc_w I a g := by
  funext b
  by_cases h : b = a
  · simp [rc_w, h]
  · simp [rc_w, h]
theorem rc_w_id (I : rc_M) (a : Nat) : rc_w I a (I a) = I := by
  funext b
  by_cases h : b = a
  · simp [rc_w, h]
  · simp [rc_w, h]
theorem rc_u_s (f : Int → Int) (k x : Int) : rc_u f k x k = x := by simp [rc_u]
theorem rc_u_n (f : Int → Int) {k j : Int} (x : Int) (h : j ≠ k) : rc_u f k x j = f j := by simp [rc_u, h]
/-! ===== worlds: classes' numbers, array classes, addresses, what a cell of an address is ===== -/
def rc_G : Type := va_G × (ClassId × ClassId × ClassId × ClassId) × List Nat × (Nat → (Int → Int) → va_E)
def rc_D (G : rc_G) : va_G := G.1
def rc_cI (G : rc_G) : ClassId := G.2.1.1
def rc_cZ (G : rc_G) : ClassId := G.2.1.2.1
def rc_cE (G : rc_G) : ClassId := G.2.1.2.2.1
def rc_cM (G : rc_G) : ClassId := G.2.1.2.2.2
def rc_L (G : rc_G) : List Nat := G.2.2.1
def rc_h (G : rc_G) : Nat → (Int → Int) → va_E := G.2.2.2
def rc_ty (G : rc_G) : List (ClassId × FieldType) := [(rc_cI G, .int), (rc_cZ G, .int), (rc_cE G, .object "ReelChanger$Reel"), (rc_cM G, .object "ReelChanger$Room")]
def rc_f (G : rc_G) (I : rc_M) : Nat → va_E := fun a => rc_h G a (I a)
def rc_A (G : rc_G) : Nat → Prop := fun q => q ∈ rc_L G
def rc_P (G : rc_G) (I : rc_M) (H : Heap) : Prop := va_P (rc_D G) vwCl (va_pl (rc_L G) (rc_f G I)) H
def rc_is (G : rc_G) (a : Nat) (shp : (Int → Int) → va_E) : Prop := a ∈ rc_L G ∧ ∀ d, rc_h G a d = shp d
theorem rc_get {L : List Nat} {f : Nat → va_E} {a : Nat} (h : a ∈ L) : ∃ k : Nat, (va_pl L f)[k]? = some (a, f a) := va_pl_get (X := []) h
theorem rc_Dd {L : List Nat} {f : Nat → va_E} {A : Nat → Prop} (hn : L.Nodup) (hA : ∀ a ∈ L, A a) : va_D A (va_pl L f) := by
  have key : ∀ (k : Nat) (q : Nat × va_E), (va_pl L f)[k]? = some q → L[k]? = some q.1 := by
    intro k q hk
    simp only [va_pl, List.getElem?_map] at hk
    cases hb : L[k]? with
    | none => rw [hb] at hk; cases hk
    | some b => rw [hb] at hk; cases hk; rfl
  refine ⟨fun i j p q hi hj e => ?_, fun k q hk => hA _ (List.mem_of_getElem? (key k q hk))⟩
  have h1 := key i p hi
  have h2 := key j q hj
  rw [e] at h1
  obtain ⟨a1, a2⟩ := List.getElem?_eq_some_iff.mp h1
  obtain ⟨b1, b2⟩ := List.getElem?_eq_some_iff.mp h2
  have hp := List.pairwise_iff_getElem.mp hn
  rcases Nat.lt_trichotomy i j with h | h | h
  · exact absurd (a2.trans b2.symm) (hp i j a1 b1 h)
  · exact h
  · exact absurd (b2.trans a2.symm) (hp j i b1 a1 h)
theorem rc_pset {L : List Nat} {f g : Nat → va_E} {A : Nat → Prop} {a k : Nat} {e : va_E} (hn : L.Nodup) (hA : ∀ a ∈ L, A a) (h : a ∈ L) (hk : (va_pl L f)[k]? = some (a, f a)) (hg : ∀ b, b ∈ L → va_up f a e b = g b) : (va_pl L f).set k (a, e) = va_pl L g := by
  have h1 := va_pl_set (X := []) (e := e) (rc_Dd (f := f) hn hA) h hk
  refine h1.trans ?_
  show va_pl L _ = _
  exact List.map_congr_left (fun b hb => by rw [hg b hb])
theorem rc_fw (G : rc_G) (I : rc_M) (a : Nat) (d : Int → Int) (e : va_E) (h : rc_h G a d = e) : ∀ b, b ∈ rc_L G → va_up (rc_f G I) a e b = rc_f G (rc_w I a d) b := by
  intro b _
  by_cases hb : b = a
  · subst hb
    rw [va_up_self]
    show e = rc_h G b (rc_w I b d b)
    rw [rc_w_s, h]
  · rw [va_up_ne _ _ hb]
    show rc_h G b (I b) = rc_h G b (rc_w I a d b)
    rw [rc_w_n _ _ hb]
/-! ===== the static tables ===== -/
def rc_tab (l : List Int) (j : Int) : Int := l.getD j.toNat 0
def rc_lo : Int → Int := rc_tab [1, 1, 0, 1, 1, 1, 1, 0]
def rc_hi : Int → Int := rc_tab [90, 99, 50, 200, 50, 200, 500, 20]
def rc_fi : Int → Int := rc_tab [40, 60, 20, 20, 10, 30, 100, 4]
def rc_S1 (n : String) (f : Int → Int) (A : Nat → Prop) (U : State) (H : Heap) : Prop := ∃ t : Nat, va_Z "ReelChanger$Stock" n "[I" (.ref t) A U H ∧ va_T .int t 8 (fun j => .int (rc_o (f j))) A U H
def rc_St (A : Nat → Prop) (U : State) (H : Heap) : Prop := rc_S1 "LEAST_VALUES" rc_lo A U H ∧ rc_S1 "MOST_VALUES" rc_hi A U H ∧ rc_S1 "FIRST_VALUES" rc_fi A U H
theorem rc_S1.go {n : String} {f : Int → Int} {A B : Nat → Prop} {u U : State} {H H1 : Heap} (h : rc_S1 n f A u H) (hvm : u.vm.Alike U.vm) (hq : ∀ a : Nat, a < H.size → ¬ A a → H1[a]? = H[a]?) (hAB : ∀ q, B q → A q) : rc_S1 n f B U H1 := by
  obtain ⟨t, h1, h2⟩ := h
  exact ⟨t, ((va_Z.moved hvm h1).kept hq).narrow hAB, ((va_T.moved hvm h2).kept hq).narrow hAB⟩
theorem rc_St.go {A B : Nat → Prop} {u U : State} {H H1 : Heap} (h : rc_St A u H) (hvm : u.vm.Alike U.vm) (hq : ∀ a : Nat, a < H.size → ¬ A a → H1[a]? = H[a]?) (hAB : ∀ q, B q → A q) : rc_St B U H1 :=
  ⟨h.1.go hvm hq hAB, h.2.1.go hvm hq hAB, h.2.2.go hvm hq hAB⟩
/-! ===== contracts ===== -/
def rc_B (G : rc_G) (I : rc_M) (U : State) : Prop := rc_P G I U.heap ∧ va_K (rc_D G) vwCl (rc_ty G) U ∧ (rc_L G).Nodup ∧ rc_St (rc_A G) U U.heap
def rc_QI (G : rc_G) (post : Int → rc_M → Prop) : Array Value → State → Outcome → State → Prop := va_Qi (fun (r : Int32) (u : rc_M) => ∃ z : Int, r = rc_o z ∧ post z u) (fun u t => rc_P G u t.heap) (rc_A G)
def rc_QL (G : rc_G) (post : Int64 → rc_M → Prop) : Array Value → State → Outcome → State → Prop := va_Ql (fun (r : Int64) (u : rc_M) => post r u) (fun u t => rc_P G u t.heap) (rc_A G)
def rc_QV (G : rc_G) (post : rc_M → Prop) : Array Value → State → Outcome → State → Prop := va_Qv (fun (u : rc_M) => post u) (fun u t => rc_P G u t.heap) (rc_A G)
def rc_QQ (G : rc_G) (post : Option Nat → rc_M → Prop) : Array Value → State → Outcome → State → Prop := va_Qq (fun (r : Option Nat) (u : rc_M) => post r u) (fun u t => rc_P G u t.heap) (rc_A G)
def rc_CI (l : Launch) (y : MethodName) (ws : List Cond) (rm : Room) (G : rc_G) (av : List Value) (I : rc_M) (post : Int → rc_M → Prop) : Prop := Met l y ws rm (va_Pc av (rc_B G I)) (rc_QI G post) 0 0 (rc_A G)
def rc_CL (l : Launch) (y : MethodName) (ws : List Cond) (rm : Room) (G : rc_G) (av : List Value) (I : rc_M) (post : Int64 → rc_M → Prop) : Prop := Met l y ws rm (va_Pc av (rc_B G I)) (rc_QL G post) 0 0 (rc_A G)
def rc_CV (l : Launch) (y : MethodName) (ws : List Cond) (rm : Room) (G : rc_G) (av : List Value) (I : rc_M) (post : rc_M → Prop) : Prop := Met l y ws rm (va_Pc av (rc_B G I)) (rc_QV G post) 0 0 (rc_A G)
def rc_CQ (l : Launch) (y : MethodName) (ws : List Cond) (rm : Room) (G : rc_G) (av : List Value) (I : rc_M) (post : Option Nat → rc_M → Prop) : Prop := Met l y ws rm (va_Pc av (rc_B G I)) (rc_QQ G post) 0 0 (rc_A G)
theorem rc_blind (G : rc_G) (I : rc_M) (av : List Value) : FrameBlind (va_Pc av (rc_B G I)) := by
  intro a U g mk q
  obtain ⟨q0, q1, q2, q3, q4⟩ := q
  exact ⟨q0, q1, va_K.moved (u := U) (U := U.calling g mk a) (Vm.Alike.refl U.vm) q2, q3, q4.go (u := U) (U := U.calling g mk a) (Vm.Alike.refl U.vm) (fun _ _ _ => rfl) (fun _ h => h)⟩
/-- what is fixed in a method's body -/
def rc_X (p : Program) (s : State) (m : MethodId) (args : Array Value) (meth : Method) (c : Code) (cc : ByteArray) (nL : Nat) (Ts : List Cond) (own : String) (G : rc_G) (A : Nat → Prop) : Prop :=
  CallFix p m c cc nL s args Ts own ∧ va_K (rc_D G) vwCl (rc_ty G) s ∧ (rc_L G).Nodup ∧ (∀ a, a ∈ rc_L G → A a) ∧ rc_St A s s.heap ∧ meth.locks = false
/-- from here the machine comes to its goal: at pc, with these locals, this stack, this memory -/
def rc_g (p : Program) (l : Launch) (e : Env) (R : Room) (s : State) (m : MethodId) (args : Array Value) (below : List Frame) (meth : Method) (c : Code) (cells slots : Nat) (Q : State → Prop) (nL : Nat) (G : rc_G) (A : Nat → Prop) (pc : Nat) (lv : List (Nat × Value)) (st : List Value) (I : rc_M) : Prop :=
  ∀ (H : Heap) (locs : List Loc) (ls : Array Slot), lv_has ls nL lv → rc_P G I H → va_S A s.heap H locs → W p l e R s m args below meth c H locs cells slots Q (F0 m pc ls st)
section RC
variable {p : Program} {l : Launch} {e : Env} {R : Room} {s : State} {m : MethodId} {args : Array Value} {below : List Frame} {meth : Method} {c : Code} {cells slots : Nat} {Q : State → Prop}
variable {cc : ByteArray} {nL : Nat} {Ts : List Cond} {own : String} {G : rc_G} {A : Nat → Prop} {pc : Nat} {lv lv' : List (Nat × Value)} {st : List Value} {I : rc_M}
theorem rc_iconst (X : rc_X p s m args meth c cc nL Ts own G A) {n : Int} (hd : decode cc pc = .ok (.iconst n, 1))
    (kk : rc_g p l e R s m args below meth c cells slots Q nL G A (pc + 1) lv (.int (rc_o n) :: st) I) : rc_g p l e R s m args below meth c cells slots Q nL G A pc lv st I :=
  fun H locs ls hl hP hS => lv_iconst X.1.1 X.1.2.1 hd rfl (kk H locs ls hl hP hS)
theorem rc_bipush (X : rc_X p s m args meth c cc nL Ts own G A) {n : Int} (hd : decode cc pc = .ok (.bipush n, 2)) (hv : (Int8.ofInt n).toInt32 = rc_o n)
    (kk : rc_g p l e R s m args below meth c cells slots Q nL G A (pc + 2) lv (.int (rc_o n) :: st) I) : rc_g p l e R s m args below meth c cells slots Q nL G A pc lv st I :=
  fun H locs ls hl hP hS => lv_bipush X.1.1 X.1.2.1 hd hv (kk H locs ls hl hP hS)
theorem rc_sipush (X : rc_X p s m args meth c cc nL Ts own G A) {n : Int} (hd : decode cc pc = .ok (.sipush n, 3)) (hv : (Int16.ofInt n).toInt32 = rc_o n)
    (kk : rc_g p l e R s m args below meth c cells slots Q nL G A (pc + 3) lv (.int (rc_o n) :: st) I) : rc_g p l e R s m args below meth c cells slots Q nL G A pc lv st I :=
  fun H locs ls hl hP hS => lv_sipush X.1.1 X.1.2.1 hd hv (kk H locs ls hl hP hS)
theorem rc_ldc (X : rc_X p s m args meth c cc nL Ts own G A) {idx : Nat} {n : Int} {v : Int32} (hw : Cond.constant own idx v ∈ Ts) (hv : v = rc_o n) (hd : decode cc pc = .ok (.ldc idx, 2))
    (kk : rc_g p l e R s m args below meth c cells slots Q nL G A (pc + 2) lv (.int (rc_o n) :: st) I) : rc_g p l e R s m args below meth c cells slots Q nL G A pc lv st I :=
  fun H locs ls hl hP hS => by subst hv; exact lv_ldc X.1.1 X.1.2.1 X.1.2.2.2.1 (X.1.2.2.2.2 _ hw) hd (kk H locs ls hl hP hS)
theorem rc_ldc2 (X : rc_X p s m args meth c cc nL Ts own G A) {idx : Nat} {v : Int64} (hw : Cond.constantLong own idx v ∈ Ts) (hd : decode cc pc = .ok (.ldc2_w idx, 3))
    (kk : rc_g p l e R s m args below meth c cells slots Q nL G A (pc + 3) lv (.long v :: st) I) : rc_g p l e R s m args below meth c cells slots Q nL G A pc lv st I :=
  fun H locs ls hl hP hS => lv_ldc2 X.1.1 X.1.2.1 X.1.2.2.2.1 (X.1.2.2.2.2 _ hw) hd (kk H locs ls hl hP hS)
theorem rc_iload_n (X : rc_X p s m args meth c cc nL Ts own G A) {k : Fin 4} {i : Nat} {x : Int32} (hd : decode cc pc = .ok (.iload_n k, 1)) (hi : (k : Nat) = i) (j : Nat) (hj : lv[j]? = some (i, .int x))
    (kk : rc_g p l e R s m args below meth c cells slots Q nL G A (pc + 1) lv (.int x :: st) I) : rc_g p l e R s m args below meth c cells slots Q nL G A pc lv st I :=
  fun H locs ls hl hP hS => lv_iload_n X.1.1 X.1.2.1 hd hi (lv_at hl j hj) (kk H locs ls hl hP hS)
theorem rc_iload (X : rc_X p s m args meth c cc nL Ts own G A) {i : Nat} {x : Int32} (hd : decode cc pc = .ok (.iload i, 2)) (j : Nat) (hj : lv[j]? = some (i, .int x))
    (kk : rc_g p l e R s m args below meth c cells slots Q nL G A (pc + 2) lv (.int x :: st) I) : rc_g p l e R s m args below meth c cells slots Q nL G A pc lv st I :=
  fun H locs ls hl hP hS => lv_iload X.1.1 X.1.2.1 hd (lv_at hl j hj) (kk H locs ls hl hP hS)
theorem rc_lload_n (X : rc_X p s m args meth c cc nL Ts own G A) {k : Fin 4} {i : Nat} {x : Int64} (hd : decode cc pc = .ok (.lload_n k, 1)) (hi : (k : Nat) = i) (j : Nat) (hj : lv[j]? = some (i, .long x))
    (kk : rc_g p l e R s m args below meth c cells slots Q nL G A (pc + 1) lv (.long x :: st) I) : rc_g p l e R s m args below meth c cells slots Q nL G A pc lv st I :=
  fun H locs ls hl hP hS => lv_lload_n X.1.1 X.1.2.1 hd hi (lv_at hl j hj) (kk H locs ls hl hP hS)
theorem rc_lload (X : rc_X p s m args meth c cc nL Ts own G A) {i : Nat} {x : Int64} (hd : decode cc pc = .ok (.lload i, 2)) (j : Nat) (hj : lv[j]? = some (i, .long x))
    (kk : rc_g p l e R s m args below meth c cells slots Q nL G A (pc + 2) lv (.long x :: st) I) : rc_g p l e R s m args below meth c cells slots Q nL G A pc lv st I :=
  fun H locs ls hl hP hS => lv_lload X.1.1 X.1.2.1 hd (lv_at hl j hj) (kk H locs ls hl hP hS)
theorem rc_aload_n (X : rc_X p s m args meth c cc nL Ts own G A) {k : Fin 4} {i x : Nat} (hd : decode cc pc = .ok (.aload_n k, 1)) (hi : (k : Nat) = i) (j : Nat) (hj : lv[j]? = some (i, .ref x))
    (kk : rc_g p l e R s m args below meth c cells slots Q nL G A (pc + 1) lv (.ref x :: st) I) : rc_g p l e R s m args below meth c cells slots Q nL G A pc lv st I :=
  fun H locs ls hl hP hS => lv_aload_n X.1.1 X.1.2.1 hd hi (lv_at hl j hj) (kk H locs ls hl hP hS)
theorem rc_aload (X : rc_X p s m args meth c cc nL Ts own G A) {i x : Nat} (hd : decode cc pc = .ok (.aload i, 2)) (j : Nat) (hj : lv[j]? = some (i, .ref x))
    (kk : rc_g p l e R s m args below meth c cells slots Q nL G A (pc + 2) lv (.ref x :: st) I) : rc_g p l e R s m args below meth c cells slots Q nL G A pc lv st I :=
  fun H locs ls hl hP hS => lv_aload X.1.1 X.1.2.1 hd (lv_at hl j hj) (kk H locs ls hl hP hS)
theorem rc_aload_nN (X : rc_X p s m args meth c cc nL Ts own G A) {k : Fin 4} {i : Nat} (hd : decode cc pc = .ok (.aload_n k, 1)) (hi : (k : Nat) = i) (j : Nat) (hj : lv[j]? = some (i, .null))
    (kk : rc_g p l e R s m args below meth c cells slots Q nL G A (pc + 1) lv (.null :: st) I) : rc_g p l e R s m args below meth c cells slots Q nL G A pc lv st I :=
  fun H locs ls hl hP hS => lv_aload_nN X.1.1 X.1.2.1 hd hi (lv_at hl j hj) (kk H locs ls hl hP hS)
theorem rc_aloadN (X : rc_X p s m args meth c cc nL Ts own G A) {i : Nat} (hd : decode cc pc = .ok (.aload i, 2)) (j : Nat) (hj : lv[j]? = some (i, .null))
    (kk : rc_g p l e R s m args below meth c cells slots Q nL G A (pc + 2) lv (.null :: st) I) : rc_g p l e R s m args below meth c cells slots Q nL G A pc lv st I :=
  fun H locs ls hl hP hS => lv_aloadN X.1.1 X.1.2.1 hd (lv_at hl j hj) (kk H locs ls hl hP hS)
theorem rc_istore_n (X : rc_X p s m args meth c cc nL Ts own G A) {k : Fin 4} {i : Nat} {x : Int32} (lv' : List (Nat × Value)) (hd : decode cc pc = .ok (.istore_n k, 1)) (hi : (k : Nat) = i) (hn : i < nL) (hl' : (i, Value.int x) :: lv.filter (fun q => !(q.1 == i) && !(q.1 + 1 == i && q.2.category == 2)) = lv')
    (kk : rc_g p l e R s m args below meth c cells slots Q nL G A (pc + 1) lv' st I) : rc_g p l e R s m args below meth c cells slots Q nL G A pc lv (.int x :: st) I :=
  fun H locs _ hl hP hS => lv_istore_n X.1.1 X.1.2.1 hd hi hl hn hl' (fun ls hl => kk H locs ls hl hP hS)
theorem rc_istore (X : rc_X p s m args meth c cc nL Ts own G A) {i : Nat} {x : Int32} (lv' : List (Nat × Value)) (hd : decode cc pc = .ok (.istore i, 2)) (hn : i < nL) (hl' : (i, Value.int x) :: lv.filter (fun q => !(q.1 == i) && !(q.1 + 1 == i && q.2.category == 2)) = lv')
    (kk : rc_g p l e R s m args below meth c cells slots Q nL G A (pc + 2) lv' st I) : rc_g p l e R s m args below meth c cells slots Q nL G A pc lv (.int x :: st) I :=
  fun H locs _ hl hP hS => lv_istore X.1.1 X.1.2.1 hd hl hn hl' (fun ls hl => kk H locs ls hl hP hS)
theorem rc_lstore_n (X : rc_X p s m args meth c cc nL Ts own G A) {k : Fin 4} {i : Nat} {x : Int64} (lv' : List (Nat × Value)) (hd : decode cc pc = .ok (.lstore_n k, 1)) (hi : (k : Nat) = i) (hn : i + 1 < nL) (hl' : (i, Value.long x) :: lv.filter (fun q => !(q.1 == i) && (!(q.1 == i + 1) && !(q.1 + 1 == i && q.2.category == 2))) = lv')
    (kk : rc_g p l e R s m args below meth c cells slots Q nL G A (pc + 1) lv' st I) : rc_g p l e R s m args below meth c cells slots Q nL G A pc lv (.long x :: st) I :=
  fun H locs _ hl hP hS => lv_lstore_n X.1.1 X.1.2.1 hd hi hl hn hl' (fun ls hl => kk H locs ls hl hP hS)
theorem rc_lstore (X : rc_X p s m args meth c cc nL Ts own G A) {i : Nat} {x : Int64} (lv' : List (Nat × Value)) (hd : decode cc pc = .ok (.lstore i, 2)) (hn : i + 1 < nL) (hl' : (i, Value.long x) :: lv.filter (fun q => !(q.1 == i) && (!(q.1 == i + 1) && !(q.1 + 1 == i && q.2.category == 2))) = lv')
    (kk : rc_g p l e R s m args below meth c cells slots Q nL G A (pc + 2) lv' st I) : rc_g p l e R s m args below meth c cells slots Q nL G A pc lv (.long x :: st) I :=
  fun H locs _ hl hP hS => lv_lstore X.1.1 X.1.2.1 hd hl hn hl' (fun ls hl => kk H locs ls hl hP hS)
theorem rc_astore_n (X : rc_X p s m args meth c cc nL Ts own G A) {k : Fin 4} {i x : Nat} (lv' : List (Nat × Value)) (hd : decode cc pc = .ok (.astore_n k, 1)) (hi : (k : Nat) = i) (hn : i < nL) (hl' : (i, Value.ref x) :: lv.filter (fun q => !(q.1 == i) && !(q.1 + 1 == i && q.2.category == 2)) = lv')
    (kk : rc_g p l e R s m args below meth c cells slots Q nL G A (pc + 1) lv' st I) : rc_g p l e R s m args below meth c cells slots Q nL G A pc lv (.ref x :: st) I :=
  fun H locs _ hl hP hS => lv_astore_n X.1.1 X.1.2.1 hd hi hl hn hl' (fun ls hl => kk H locs ls hl hP hS)
theorem rc_astore (X : rc_X p s m args meth c cc nL Ts own G A) {i x : Nat} (lv' : List (Nat × Value)) (hd : decode cc pc = .ok (.astore i, 2)) (hn : i < nL) (hl' : (i, Value.ref x) :: lv.filter (fun q => !(q.1 == i) && !(q.1 + 1 == i && q.2.category == 2)) = lv')
    (kk : rc_g p l e R s m args below meth c cells slots Q nL G A (pc + 2) lv' st I) : rc_g p l e R s m args below meth c cells slots Q nL G A pc lv (.ref x :: st) I :=
  fun H locs _ hl hP hS => lv_astore X.1.1 X.1.2.1 hd hl hn hl' (fun ls hl => kk H locs ls hl hP hS)
theorem rc_astore_nN (X : rc_X p s m args meth c cc nL Ts own G A) {k : Fin 4} {i : Nat} (lv' : List (Nat × Value)) (hd : decode cc pc = .ok (.astore_n k, 1)) (hi : (k : Nat) = i) (hn : i < nL) (hl' : (i, Value.null) :: lv.filter (fun q => !(q.1 == i) && !(q.1 + 1 == i && q.2.category == 2)) = lv')
    (kk : rc_g p l e R s m args below meth c cells slots Q nL G A (pc + 1) lv' st I) : rc_g p l e R s m args below meth c cells slots Q nL G A pc lv (.null :: st) I :=
  fun H locs _ hl hP hS => lv_astore_nN X.1.1 X.1.2.1 hd hi hl hn hl' (fun ls hl => kk H locs ls hl hP hS)
theorem rc_astoreN (X : rc_X p s m args meth c cc nL Ts own G A) {i : Nat} (lv' : List (Nat × Value)) (hd : decode cc pc = .ok (.astore i, 2)) (hn : i < nL) (hl' : (i, Value.null) :: lv.filter (fun q => !(q.1 == i) && !(q.1 + 1 == i && q.2.category == 2)) = lv')
    (kk : rc_g p l e R s m args below meth c cells slots Q nL G A (pc + 2) lv' st I) : rc_g p l e R s m args below meth c cells slots Q nL G A pc lv (.null :: st) I :=
  fun H locs _ hl hP hS => lv_astoreN X.1.1 X.1.2.1 hd hl hn hl' (fun ls hl => kk H locs ls hl hP hS)
theorem rc_iinc (X : rc_X p s m args meth c cc nL Ts own G A) {i : Nat} {n x : Int} (lv' : List (Nat × Value)) (hd : decode cc pc = .ok (.iinc i n, 3)) (j : Nat) (hj : lv[j]? = some (i, .int (rc_o x))) (hn : i < nL) (hl' : (i, Value.int (rc_o (x + n))) :: lv.filter (fun q => !(q.1 == i) && !(q.1 + 1 == i && q.2.category == 2)) = lv')
    (kk : rc_g p l e R s m args below meth c cells slots Q nL G A (pc + 3) lv' st I) : rc_g p l e R s m args below meth c cells slots Q nL G A pc lv st I :=
  fun H locs _ hl hP hS => lv_iinc X.1.1 X.1.2.1 hd hl hj (rc_add x n) hn hl' (fun ls hl => kk H locs ls hl hP hS)
theorem rc_iadd (X : rc_X p s m args meth c cc nL Ts own G A) {x y : Int} (hd : decode cc pc = .ok (.iadd, 1))
    (kk : rc_g p l e R s m args below meth c cells slots Q nL G A (pc + 1) lv (.int (rc_o (x + y)) :: st) I) : rc_g p l e R s m args below meth c cells slots Q nL G A pc lv (.int (rc_o y) :: .int (rc_o x) :: st) I :=
  fun H locs ls hl hP hS => lv_iadd X.1.1 X.1.2.1 hd (by rw [rc_add]; exact kk H locs ls hl hP hS)
theorem rc_isub (X : rc_X p s m args meth c cc nL Ts own G A) {x y : Int} (hd : decode cc pc = .ok (.isub, 1))
    (kk : rc_g p l e R s m args below meth c cells slots Q nL G A (pc + 1) lv (.int (rc_o (x - y)) :: st) I) : rc_g p l e R s m args below meth c cells slots Q nL G A pc lv (.int (rc_o y) :: .int (rc_o x) :: st) I :=
  fun H locs ls hl hP hS => lv_isub X.1.1 X.1.2.1 hd (by rw [rc_sub]; exact kk H locs ls hl hP hS)
theorem rc_imul (X : rc_X p s m args meth c cc nL Ts own G A) {x y : Int} (hd : decode cc pc = .ok (.imul, 1))
    (kk : rc_g p l e R s m args below meth c cells slots Q nL G A (pc + 1) lv (.int (rc_o (x * y)) :: st) I) : rc_g p l e R s m args below meth c cells slots Q nL G A pc lv (.int (rc_o y) :: .int (rc_o x) :: st) I :=
  fun H locs ls hl hP hS => lv_imul X.1.1 X.1.2.1 hd (by rw [rc_mul]; exact kk H locs ls hl hP hS)
theorem rc_ineg (X : rc_X p s m args meth c cc nL Ts own G A) {x : Int} (hd : decode cc pc = .ok (.ineg, 1))
    (kk : rc_g p l e R s m args below meth c cells slots Q nL G A (pc + 1) lv (.int (rc_o (-x)) :: st) I) : rc_g p l e R s m args below meth c cells slots Q nL G A pc lv (.int (rc_o x) :: st) I :=
  fun H locs ls hl hP hS => lv_ineg X.1.1 X.1.2.1 hd (by
    have h := kk H locs ls hl hP hS
    rw [← rc_neg] at h
    first | exact h | (rw [show (0 : Int32) - rc_o x = -(rc_o x) by simp]; exact h))
theorem rc_idiv (X : rc_X p s m args meth c cc nL Ts own G A) {x y : Int} (hd : decode cc pc = .ok (.idiv, 1)) (hx : 0 ≤ x ∧ x < 2147483648) (hy : 0 < y ∧ y < 2147483648)
    (kk : rc_g p l e R s m args below meth c cells slots Q nL G A (pc + 1) lv (.int (rc_o (x / y)) :: st) I) : rc_g p l e R s m args below meth c cells slots Q nL G A pc lv (.int (rc_o y) :: .int (rc_o x) :: st) I :=
  fun H locs ls hl hP hS => lv_idiv X.1.1 X.1.2.1 hd (rc_nz hy) (by rw [rc_div hx hy]; exact kk H locs ls hl hP hS)
theorem rc_irem (X : rc_X p s m args meth c cc nL Ts own G A) {x y : Int} (hd : decode cc pc = .ok (.irem, 1)) (hx : 0 ≤ x ∧ x < 2147483648) (hy : 0 < y ∧ y < 2147483648)
    (kk : rc_g p l e R s m args below meth c cells slots Q nL G A (pc + 1) lv (.int (rc_o (x % y)) :: st) I) : rc_g p l e R s m args below meth c cells slots Q nL G A pc lv (.int (rc_o y) :: .int (rc_o x) :: st) I :=
  fun H locs ls hl hP hS => lv_irem X.1.1 X.1.2.1 hd (rc_nz hy) (by rw [rc_rem hx hy]; exact kk H locs ls hl hP hS)
theorem rc_i2l (X : rc_X p s m args meth c cc nL Ts own G A) {x : Int} (hd : decode cc pc = .ok (.i2l, 1))
    (kk : rc_g p l e R s m args below meth c cells slots Q nL G A (pc + 1) lv (.long (rc_o x).toInt64 :: st) I) : rc_g p l e R s m args below meth c cells slots Q nL G A pc lv (.int (rc_o x) :: st) I :=
  fun H locs ls hl hP hS => lv_i2l X.1.1 X.1.2.1 hd rfl (kk H locs ls hl hP hS)
theorem rc_ladd (X : rc_X p s m args meth c cc nL Ts own G A) {x y : Int64} (hd : decode cc pc = .ok (.ladd, 1))
    (kk : rc_g p l e R s m args below meth c cells slots Q nL G A (pc + 1) lv (.long (x + y) :: st) I) : rc_g p l e R s m args below meth c cells slots Q nL G A pc lv (.long y :: .long x :: st) I :=
  fun H locs ls hl hP hS => lv_ladd X.1.1 X.1.2.1 hd (kk H locs ls hl hP hS)
theorem rc_lmul (X : rc_X p s m args meth c cc nL Ts own G A) {x y : Int64} (hd : decode cc pc = .ok (.lmul, 1))
    (kk : rc_g p l e R s m args below meth c cells slots Q nL G A (pc + 1) lv (.long (x * y) :: st) I) : rc_g p l e R s m args below meth c cells slots Q nL G A pc lv (.long y :: .long x :: st) I :=
  fun H locs ls hl hP hS => lv_lmul X.1.1 X.1.2.1 hd (kk H locs ls hl hP hS)
theorem rc_dup (X : rc_X p s m args meth c cc nL Ts own G A) {v : Value} (hd : decode cc pc = .ok (.dup, 1)) (hv : v.category = 1)
    (kk : rc_g p l e R s m args below meth c cells slots Q nL G A (pc + 1) lv (v :: v :: st) I) : rc_g p l e R s m args below meth c cells slots Q nL G A pc lv (v :: st) I :=
  fun H locs ls hl hP hS => lv_dup X.1.1 X.1.2.1 hd hv (kk H locs ls hl hP hS)
theorem rc_dup2 (X : rc_X p s m args meth c cc nL Ts own G A) {v w : Value} (hd : decode cc pc = .ok (.dup2, 1)) (hv : v.category = 1) (hw : w.category = 1)
    (kk : rc_g p l e R s m args below meth c cells slots Q nL G A (pc + 1) lv (v :: w :: v :: w :: st) I) : rc_g p l e R s m args below meth c cells slots Q nL G A pc lv (v :: w :: st) I :=
  fun H locs ls hl hP hS => lv_dup2_11 X.1.1 X.1.2.1 hd hv hw (kk H locs ls hl hP hS)
theorem rc_pop (X : rc_X p s m args meth c cc nL Ts own G A) {v : Value} (hd : decode cc pc = .ok (.pop, 1)) (hv : v.category = 1)
    (kk : rc_g p l e R s m args below meth c cells slots Q nL G A (pc + 1) lv st I) : rc_g p l e R s m args below meth c cells slots Q nL G A pc lv (v :: st) I :=
  fun H locs ls hl hP hS => lv_pop X.1.1 X.1.2.1 hd hv (kk H locs ls hl hP hS)
theorem rc_goto (X : rc_X p s m args meth c cc nL Ts own G A) {off : Int} (tgt : Nat) (hd : decode cc pc = .ok (.goto off, 3)) (ht : (pc : Int) + off = (tgt : Int))
    (kk : rc_g p l e R s m args below meth c cells slots Q nL G A tgt lv st I) : rc_g p l e R s m args below meth c cells slots Q nL G A pc lv st I :=
  fun H locs ls hl hP hS => lv_goto X.1.1 X.1.2.1 hd ht (kk H locs ls hl hP hS)
theorem rc_subl (lv' : List (Nat × Value)) (ks : List Nat) (hk : lv_pick lv ks = lv') (kk : rc_g p l e R s m args below meth c cells slots Q nL G A pc lv' st I) : rc_g p l e R s m args below meth c cells slots Q nL G A pc lv st I :=
  fun H locs ls hl hP hS => kk H locs ls (lv_sub hl ks hk) hP hS
theorem rc_null (X : rc_X p s m args meth c cc nL Ts own G A) (hd : decode cc pc = .ok (.aconst_null, 1))
    (kk : rc_g p l e R s m args below meth c cells slots Q nL G A (pc + 1) lv (.null :: st) I) : rc_g p l e R s m args below meth c cells slots Q nL G A pc lv st I :=
  fun H locs ls hl hP hS => lv_null X.1.1 X.1.2.1 hd (kk H locs ls hl hP hS)
theorem rc_nn (X : rc_X p s m args meth c cc nL Ts own G A) {x : Nat} {off : Int} (tgt : Nat) (hd : decode cc pc = .ok (.ifnonnull off, 3)) (ht : (pc : Int) + off = (tgt : Int))
    (kk : rc_g p l e R s m args below meth c cells slots Q nL G A tgt lv st I) : rc_g p l e R s m args below meth c cells slots Q nL G A pc lv (.ref x :: st) I :=
  fun H locs ls hl hP hS => lv_ifnonnull X.1.1 X.1.2.1 hd ht (kk H locs ls hl hP hS)
theorem rc_nnN (X : rc_X p s m args meth c cc nL Ts own G A) {off : Int} (hd : decode cc pc = .ok (.ifnonnull off, 3))
    (kk : rc_g p l e R s m args below meth c cells slots Q nL G A (pc + 3) lv st I) : rc_g p l e R s m args below meth c cells slots Q nL G A pc lv (.null :: st) I :=
  fun H locs ls hl hP hS => lv_ifnonnullN X.1.1 X.1.2.1 hd (kk H locs ls hl hP hS)
theorem rc_nu (X : rc_X p s m args meth c cc nL Ts own G A) {x : Nat} {off : Int} (hd : decode cc pc = .ok (.ifnull off, 3))
    (kk : rc_g p l e R s m args below meth c cells slots Q nL G A (pc + 3) lv st I) : rc_g p l e R s m args below meth c cells slots Q nL G A pc lv (.ref x :: st) I :=
  fun H locs ls hl hP hS => lv_ifnull X.1.1 X.1.2.1 hd (kk H locs ls hl hP hS)
theorem rc_nuN (X : rc_X p s m args meth c cc nL Ts own G A) {off : Int} (tgt : Nat) (hd : decode cc pc = .ok (.ifnull off, 3)) (ht : (pc : Int) + off = (tgt : Int))
    (kk : rc_g p l e R s m args below meth c cells slots Q nL G A tgt lv st I) : rc_g p l e R s m args below meth c cells slots Q nL G A pc lv (.null :: st) I :=
  fun H locs ls hl hP hS => lv_ifnullN X.1.1 X.1.2.1 hd ht (kk H locs ls hl hP hS)
theorem rc_if_eq (X : rc_X p s m args meth c cc nL Ts own G A) {x off : Int} (tgt : Nat) (hd : decode cc pc = .ok (.ifCond .eq off, 3)) (ht : (pc : Int) + off = (tgt : Int)) (hx : rc_R x)
    (kt : x = 0 → rc_g p l e R s m args below meth c cells slots Q nL G A tgt lv st I) (kf : ¬ x = 0 → rc_g p l e R s m args below meth c cells slots Q nL G A (pc + 3) lv st I) : rc_g p l e R s m args below meth c cells slots Q nL G A pc lv (.int (rc_o x) :: st) I :=
  fun H locs ls hl hP hS => lv_if_eq X.1.1 X.1.2.1 hd ht (fun h => kt ((rc_eq hx rc_R0).mp h) H locs ls hl hP hS) (fun h => kf (fun q => h ((rc_eq hx rc_R0).mpr q)) H locs ls hl hP hS)
theorem rc_if_ne (X : rc_X p s m args meth c cc nL Ts own G A) {x off : Int} (tgt : Nat) (hd : decode cc pc = .ok (.ifCond .ne off, 3)) (ht : (pc : Int) + off = (tgt : Int)) (hx : rc_R x)
    (kt : ¬ x = 0 → rc_g p l e R s m args below meth c cells slots Q nL G A tgt lv st I) (kf : x = 0 → rc_g p l e R s m args below meth c cells slots Q nL G A (pc + 3) lv st I) : rc_g p l e R s m args below meth c cells slots Q nL G A pc lv (.int (rc_o x) :: st) I :=
  fun H locs ls hl hP hS => lv_if_ne X.1.1 X.1.2.1 hd ht (fun h => kt (fun q => h ((rc_eq hx rc_R0).mpr q)) H locs ls hl hP hS) (fun h => kf ((rc_eq hx rc_R0).mp h) H locs ls hl hP hS)
theorem rc_if_lt (X : rc_X p s m args meth c cc nL Ts own G A) {x off : Int} (tgt : Nat) (hd : decode cc pc = .ok (.ifCond .lt off, 3)) (ht : (pc : Int) + off = (tgt : Int)) (hx : rc_R x)
    (kt : x < 0 → rc_g p l e R s m args below meth c cells slots Q nL G A tgt lv st I) (kf : ¬ x < 0 → rc_g p l e R s m args below meth c cells slots Q nL G A (pc + 3) lv st I) : rc_g p l e R s m args below meth c cells slots Q nL G A pc lv (.int (rc_o x) :: st) I :=
  fun H locs ls hl hP hS => lv_if_lt X.1.1 X.1.2.1 hd ht (fun h => kt ((rc_lt hx rc_R0).mp h) H locs ls hl hP hS) (fun h => kf (fun q => h ((rc_lt hx rc_R0).mpr q)) H locs ls hl hP hS)
theorem rc_if_ge (X : rc_X p s m args meth c cc nL Ts own G A) {x off : Int} (tgt : Nat) (hd : decode cc pc = .ok (.ifCond .ge off, 3)) (ht : (pc : Int) + off = (tgt : Int)) (hx : rc_R x)
    (kt : 0 ≤ x → rc_g p l e R s m args below meth c cells slots Q nL G A tgt lv st I) (kf : ¬ 0 ≤ x → rc_g p l e R s m args below meth c cells slots Q nL G A (pc + 3) lv st I) : rc_g p l e R s m args below meth c cells slots Q nL G A pc lv (.int (rc_o x) :: st) I :=
  fun H locs ls hl hP hS => lv_if_ge X.1.1 X.1.2.1 hd ht (fun h => kt ((rc_le rc_R0 hx).mp h) H locs ls hl hP hS) (fun h => kf (fun q => h ((rc_le rc_R0 hx).mpr q)) H locs ls hl hP hS)
theorem rc_if_gt (X : rc_X p s m args meth c cc nL Ts own G A) {x off : Int} (tgt : Nat) (hd : decode cc pc = .ok (.ifCond .gt off, 3)) (ht : (pc : Int) + off = (tgt : Int)) (hx : rc_R x)
    (kt : 0 < x → rc_g p l e R s m args below meth c cells slots Q nL G A tgt lv st I) (kf : ¬ 0 < x → rc_g p l e R s m args below meth c cells slots Q nL G A (pc + 3) lv st I) : rc_g p l e R s m args below meth c cells slots Q nL G A pc lv (.int (rc_o x) :: st) I :=
  fun H locs ls hl hP hS => lv_if_gt X.1.1 X.1.2.1 hd ht (fun h => kt ((rc_lt rc_R0 hx).mp h) H locs ls hl hP hS) (fun h => kf (fun q => h ((rc_lt rc_R0 hx).mpr q)) H locs ls hl hP hS)
theorem rc_if_le (X : rc_X p s m args meth c cc nL Ts own G A) {x off : Int} (tgt : Nat) (hd : decode cc pc = .ok (.ifCond .le off, 3)) (ht : (pc : Int) + off = (tgt : Int)) (hx : rc_R x)
    (kt : x ≤ 0 → rc_g p l e R s m args below meth c cells slots Q nL G A tgt lv st I) (kf : ¬ x ≤ 0 → rc_g p l e R s m args below meth c cells slots Q nL G A (pc + 3) lv st I) : rc_g p l e R s m args below meth c cells slots Q nL G A pc lv (.int (rc_o x) :: st) I :=
  fun H locs ls hl hP hS => lv_if_le X.1.1 X.1.2.1 hd ht (fun h => kt ((rc_le hx rc_R0).mp h) H locs ls hl hP hS) (fun h => kf (fun q => h ((rc_le hx rc_R0).mpr q)) H locs ls hl hP hS)
theorem rc_ic_eq (X : rc_X p s m args meth c cc nL Ts own G A) {x y off : Int} (tgt : Nat) (hd : decode cc pc = .ok (.if_icmp .eq off, 3)) (ht : (pc : Int) + off = (tgt : Int)) (hx : rc_R x) (hy : rc_R y)
    (kt : x = y → rc_g p l e R s m args below meth c cells slots Q nL G A tgt lv st I) (kf : ¬ x = y → rc_g p l e R s m args below meth c cells slots Q nL G A (pc + 3) lv st I) : rc_g p l e R s m args below meth c cells slots Q nL G A pc lv (.int (rc_o y) :: .int (rc_o x) :: st) I :=
  fun H locs ls hl hP hS => lv_icmp_eq X.1.1 X.1.2.1 hd ht (fun h => kt ((rc_eq hx hy).mp h) H locs ls hl hP hS) (fun h => kf (fun q => h ((rc_eq hx hy).mpr q)) H locs ls hl hP hS)
theorem rc_ic_ne (X : rc_X p s m args meth c cc nL Ts own G A) {x y off : Int} (tgt : Nat) (hd : decode cc pc = .ok (.if_icmp .ne off, 3)) (ht : (pc : Int) + off = (tgt : Int)) (hx : rc_R x) (hy : rc_R y)
    (kt : ¬ x = y → rc_g p l e R s m args below meth c cells slots Q nL G A tgt lv st I) (kf : x = y → rc_g p l e R s m args below meth c cells slots Q nL G A (pc + 3) lv st I) : rc_g p l e R s m args below meth c cells slots Q nL G A pc lv (.int (rc_o y) :: .int (rc_o x) :: st) I :=
  fun H locs ls hl hP hS => lv_icmp_ne X.1.1 X.1.2.1 hd ht (fun h => kt (fun q => h ((rc_eq hx hy).mpr q)) H locs ls hl hP hS) (fun h => kf ((rc_eq hx hy).mp h) H locs ls hl hP hS)
theorem rc_ic_lt (X : rc_X p s m args meth c cc nL Ts own G A) {x y off : Int} (tgt : Nat) (hd : decode cc pc = .ok (.if_icmp .lt off, 3)) (ht : (pc : Int) + off = (tgt : Int)) (hx : rc_R x) (hy : rc_R y)
    (kt : x < y → rc_g p l e R s m args below meth c cells slots Q nL G A tgt lv st I) (kf : ¬ x < y → rc_g p l e R s m args below meth c cells slots Q nL G A (pc + 3) lv st I) : rc_g p l e R s m args below meth c cells slots Q nL G A pc lv (.int (rc_o y) :: .int (rc_o x) :: st) I :=
  fun H locs ls hl hP hS => lv_icmp_lt X.1.1 X.1.2.1 hd ht (fun h => kt ((rc_lt hx hy).mp h) H locs ls hl hP hS) (fun h => kf (fun q => h ((rc_lt hx hy).mpr q)) H locs ls hl hP hS)
theorem rc_ic_ge (X : rc_X p s m args meth c cc nL Ts own G A) {x y off : Int} (tgt : Nat) (hd : decode cc pc = .ok (.if_icmp .ge off, 3)) (ht : (pc : Int) + off = (tgt : Int)) (hx : rc_R x) (hy : rc_R y)
    (kt : y ≤ x → rc_g p l e R s m args below meth c cells slots Q nL G A tgt lv st I) (kf : ¬ y ≤ x → rc_g p l e R s m args below meth c cells slots Q nL G A (pc + 3) lv st I) : rc_g p l e R s m args below meth c cells slots Q nL G A pc lv (.int (rc_o y) :: .int (rc_o x) :: st) I :=
  fun H locs ls hl hP hS => lv_icmp_ge X.1.1 X.1.2.1 hd ht (fun h => kt ((rc_le hy hx).mp h) H locs ls hl hP hS) (fun h => kf (fun q => h ((rc_le hy hx).mpr q)) H locs ls hl hP hS)
theorem rc_ic_gt (X : rc_X p s m args meth c cc nL Ts own G A) {x y off : Int} (tgt : Nat) (hd : decode cc pc = .ok (.if_icmp .gt off, 3)) (ht : (pc : Int) + off = (tgt : Int)) (hx : rc_R x) (hy : rc_R y)
    (kt : y < x → rc_g p l e R s m args below meth c cells slots Q nL G A tgt lv st I) (kf : ¬ y < x → rc_g p l e R s m args below meth c cells slots Q nL G A (pc + 3) lv st I) : rc_g p l e R s m args below meth c cells slots Q nL G A pc lv (.int (rc_o y) :: .int (rc_o x) :: st) I :=
  fun H locs ls hl hP hS => lv_icmp_gt X.1.1 X.1.2.1 hd ht (fun h => kt ((rc_lt hy hx).mp h) H locs ls hl hP hS) (fun h => kf (fun q => h ((rc_lt hy hx).mpr q)) H locs ls hl hP hS)
theorem rc_ic_le (X : rc_X p s m args meth c cc nL Ts own G A) {x y off : Int} (tgt : Nat) (hd : decode cc pc = .ok (.if_icmp .le off, 3)) (ht : (pc : Int) + off = (tgt : Int)) (hx : rc_R x) (hy : rc_R y)
    (kt : x ≤ y → rc_g p l e R s m args below meth c cells slots Q nL G A tgt lv st I) (kf : ¬ x ≤ y → rc_g p l e R s m args below meth c cells slots Q nL G A (pc + 3) lv st I) : rc_g p l e R s m args below meth c cells slots Q nL G A pc lv (.int (rc_o y) :: .int (rc_o x) :: st) I :=
  fun H locs ls hl hP hS => lv_icmp_le X.1.1 X.1.2.1 hd ht (fun h => kt ((rc_le hx hy).mp h) H locs ls hl hP hS) (fun h => kf (fun q => h ((rc_le hx hy).mpr q)) H locs ls hl hP hS)
theorem rc_tsAt (X : rc_X p s m args meth c cc nL Ts own G A) {dflt lo hi off x : Int} {offs : Array Int} {len : Nat} (tgt : Nat) (v : Int) (hd : decode cc pc = .ok (.tableswitch dflt lo hi offs, len)) (hx : rc_R x) (hv : x = v) (h1 : ¬ v < lo) (h2 : ¬ hi < v) (ho : offs[(v - lo).toNat]? = some off) (ht : (pc : Int) + off = (tgt : Int))
    (kk : rc_g p l e R s m args below meth c cells slots Q nL G A tgt lv st I) : rc_g p l e R s m args below meth c cells slots Q nL G A pc lv (.int (rc_o x) :: st) I :=
  fun H locs ls hl hP hS => by
    subst hv
    exact lv_tableIn X.1.1 X.1.2.1 hd (by rw [rc_t hx]; exact h1) (by rw [rc_t hx]; exact h2) (by rw [rc_t hx]; exact ho) ht (kk H locs ls hl hP hS)
theorem rc_tsOut (X : rc_X p s m args meth c cc nL Ts own G A) {dflt lo hi x : Int} {offs : Array Int} {len : Nat} (tgt : Nat) (hd : decode cc pc = .ok (.tableswitch dflt lo hi offs, len)) (hx : rc_R x) (h : x < lo ∨ hi < x) (ht : (pc : Int) + dflt = (tgt : Int))
    (kk : rc_g p l e R s m args below meth c cells slots Q nL G A tgt lv st I) : rc_g p l e R s m args below meth c cells slots Q nL G A pc lv (.int (rc_o x) :: st) I :=
  fun H locs ls hl hP hS => lv_tableOut X.1.1 X.1.2.1 hd (by rw [rc_t hx]; exact h) ht (kk H locs ls hl hP hS)
theorem rc_look (X : rc_X p s m args meth c cc nL Ts own G A) {dflt off x : Int} {ps : Array (Int × Int)} {len : Nat} (tgt : Nat) (hd : decode cc pc = .ok (.lookupswitch dflt ps, len)) (hp : (ps.toList.zip (ps.toList.drop 1)).all (fun (a, next) => a.1 < next.1) = true) (hx : rc_R x) (ho : Op.lookupswitch.offset ps.toList dflt x = off) (ht : (pc : Int) + off = (tgt : Int))
    (kk : rc_g p l e R s m args below meth c cells slots Q nL G A tgt lv st I) : rc_g p l e R s m args below meth c cells slots Q nL G A pc lv (.int (rc_o x) :: st) I :=
  fun H locs ls hl hP hS => lv_lookup X.1.1 X.1.2.1 hd hp (by rw [rc_t hx]; exact ho) ht (kk H locs ls hl hP hS)
end RC
