/-! ===== shapes of arrays ===== -/
def rc_sI (G : rc_G) (n : Nat) : (Int → Int) → va_E := fun d => .inl (rc_cI G, n, .inl (fun j : Nat => rc_o (d j)))
def rc_sZ (G : rc_G) (n : Nat) : (Int → Int) → va_E := fun d => .inl (rc_cZ G, n, .inl (fun j : Nat => rc_o (d j)))
def rc_sE (G : rc_G) (a : Nat) : (Int → Int) → va_E := fun _ => .inl (rc_cE G, 10, .inr (.inr (.inr (.inr (fun j : Nat => some (a + 3 + 3 * j))))))
def rc_rd (z : Int) : Option Nat := if z ≤ 0 then none else some z.toNat
def rc_sM (G : rc_G) : (Int → Int) → va_E := fun d => .inl (rc_cM G, 2, .inr (.inr (.inr (.inr (fun j : Nat => rc_rd (d j))))))
theorem rc_row {d : Int → Int} {i x : Int} {n : Nat} (hi : 0 ≤ i ∧ i < n) (hn : n < 2147483648) : (fun j : Nat => rc_o (rc_u d i x j)) = upd (fun j : Nat => rc_o (d j)) (rc_o i).toNatClampNeg (rc_o x) := by
  funext j
  rw [rc_cl hi.1 (by omega)]
  unfold upd rc_u
  by_cases h : j = i.toNat
  · rw [if_pos (by omega), if_pos h]
  · rw [if_neg (by omega), if_neg h]
theorem rc_nz1 {x : Int} (h : x = 0 ∨ x = 1) : vp_nar .boolean (rc_o x) = rc_o x := by
  rcases h with rfl | rfl <;> decide +kernel
theorem rc_nz2 {x : Int} (h : x = 0 ∨ x = 1) : narrow .boolean (.int (rc_o x)) = .int (rc_o x) := by
  rcases h with rfl | rfl <;> decide +kernel
theorem rc_nz3 {x : Int} (h : x = 0 ∨ x = 1) : fits .boolean (.int (rc_o x)) = true := by
  rcases h with rfl | rfl <;> decide +kernel
def rc_cpy (I : rc_M) (a b : Nat) (sp dp n : Int) : rc_M := rc_w I b (fun j => if dp ≤ j ∧ j < dp + n then I a (sp + (j - dp)) else I b j)
theorem rc_cpyrow {f g : Int → Int} {sp dp n : Int} (h1 : 0 ≤ sp ∧ sp < 2147483648) (h2 : 0 ≤ dp ∧ dp < 2147483648) (h3 : 0 ≤ n ∧ n < 2147483648) :
    (fun j : Nat => rc_o (if dp ≤ (j : Int) ∧ (j : Int) < dp + n then f (sp + (j - dp)) else g j)) = va_cpy (fun j : Nat => rc_o (f j)) (fun j : Nat => rc_o (g j)) (rc_o sp).toNatClampNeg (rc_o dp).toNatClampNeg (rc_o n).toNatClampNeg := by
  funext j
  rw [rc_cl h1.1 h1.2, rc_cl h2.1 h2.2, rc_cl h3.1 h3.2]
  unfold va_cpy
  by_cases h : dp ≤ (j : Int) ∧ (j : Int) < dp + n
  · rw [if_pos h, if_pos (by omega), show sp + ((j : Int) - dp) = ((sp.toNat + (j - dp.toNat) : Nat) : Int) by omega]
  · rw [if_neg h, if_neg (by omega)]
section RC2
variable {p : Program} {l : Launch} {e : Env} {R : Room} {s : State} {m : MethodId} {args : Array Value} {below : List Frame} {meth : Method} {c : Code} {cells slots : Nat} {Q : State → Prop}
variable {cc : ByteArray} {nL : Nat} {Ts : List Cond} {own : String} {G : rc_G} {A : Nat → Prop} {pc : Nat} {lv lv' : List (Nat × Value)} {st : List Value} {I : rc_M}
theorem rc_iald (X : rc_X p s m args meth c cc nL Ts own G A) {a n : Nat} {i : Int} (T : rc_is G a (rc_sI G n)) (hn : n < 2147483648) (hd : decode cc pc = .ok (.iaload, 1)) (hi : 0 ≤ i ∧ i < n)
    (kk : rc_g p l e R s m args below meth c cells slots Q nL G A (pc + 1) lv (.int (rc_o (I a i)) :: st) I) : rc_g p l e R s m args below meth c cells slots Q nL G A pc lv (.int (rc_o i) :: .ref a :: st) I := by
  intro H locs ls hl hP hS
  obtain ⟨k, hk⟩ := rc_get (f := rc_f G I) T.1
  have hk' : (va_pl (rc_L G) (rc_f G I))[k]? = some (a, rc_sI G n (I a)) := hk.trans (congrArg (fun e => some (a, e)) (T.2 (I a)))
  have h := kk H locs ls hl hP hS
  have e1 : rc_o (I a (((rc_o i).toNatClampNeg : Nat) : Int)) = rc_o (I a i) := by rw [rc_cl hi.1 (by omega), Int.toNat_of_nonneg hi.1]
  rw [← e1] at h
  exact va_iald X.1.1 X.1.2.1 X.2.1 hP k 0 hk' rfl (rc_in hn hi) hd h
theorem rc_iast (X : rc_X p s m args meth c cc nL Ts own G A) {a n : Nat} {i x : Int} (T : rc_is G a (rc_sI G n)) (hn : n < 2147483648) (hd : decode cc pc = .ok (.iastore, 1)) (hi : 0 ≤ i ∧ i < n)
    (kk : ∀ I1, I1 = rc_s I a i x → rc_g p l e R s m args below meth c cells slots Q nL G A (pc + 1) lv st I1) : rc_g p l e R s m args below meth c cells slots Q nL G A pc lv (.int (rc_o x) :: .int (rc_o i) :: .ref a :: st) I := by
  intro H locs ls hl hP hS
  obtain ⟨k, hk⟩ := rc_get (f := rc_f G I) T.1
  have hk' : (va_pl (rc_L G) (rc_f G I))[k]? = some (a, rc_sI G n (I a)) := hk.trans (congrArg (fun e => some (a, e)) (T.2 (I a)))
  refine va_iast X.1.1 X.1.2.1 X.2.1 hP (rc_Dd X.2.2.1 X.2.2.2.1) hS k 0 hk' rfl (rc_in hn hi) hd (fun H1 locs1 hP1 _ hS1 => kk _ rfl H1 locs1 ls hl ?_ hS1)
  have e1 : rc_h G a (rc_u (I a) i x) = .inl (rc_cI G, n, .inl (upd (fun j : Nat => rc_o (I a j)) (rc_o i).toNatClampNeg (rc_o x))) := by
    rw [T.2, ← rc_row hi hn]; rfl
  rw [rc_pset X.2.2.1 X.2.2.2.1 T.1 hk (rc_fw G I a (rc_u (I a) i x) _ e1)] at hP1
  exact hP1
theorem rc_alen (X : rc_X p s m args meth c cc nL Ts own G A) {a n : Nat} (T : rc_is G a (rc_sI G n)) (hd : decode cc pc = .ok (.arraylength, 1))
    (kk : rc_g p l e R s m args below meth c cells slots Q nL G A (pc + 1) lv (.int (rc_o (n : Int)) :: st) I) : rc_g p l e R s m args below meth c cells slots Q nL G A pc lv (.ref a :: st) I := by
  intro H locs ls hl hP hS
  obtain ⟨k, hk⟩ := rc_get (f := rc_f G I) T.1
  have hk' : (va_pl (rc_L G) (rc_f G I))[k]? = some (a, rc_sI G n (I a)) := hk.trans (congrArg (fun e => some (a, e)) (T.2 (I a)))
  exact va_alen X.1.1 X.1.2.1 X.2.1 hP k 0 hk' rfl (show Int32.ofNat n = rc_o (n : Int) from (Int32.ofInt_eq_ofNat).symm) hd (kk H locs ls hl hP hS)
theorem rc_reld (X : rc_X p s m args meth c cc nL Ts own G A) {a : Nat} {i : Int} (T : rc_is G a (rc_sE G a)) (hd : decode cc pc = .ok (.aaload, 1)) (hi : 0 ≤ i ∧ i < 10)
    (kk : rc_g p l e R s m args below meth c cells slots Q nL G A (pc + 1) lv (.ref (a + 3 + 3 * i.toNat) :: st) I) : rc_g p l e R s m args below meth c cells slots Q nL G A pc lv (.int (rc_o i) :: .ref a :: st) I := by
  intro H locs ls hl hP hS
  obtain ⟨k, hk⟩ := rc_get (f := rc_f G I) T.1
  have hk' : (va_pl (rc_L G) (rc_f G I))[k]? = some (a, rc_sE G a (I a)) := hk.trans (congrArg (fun e => some (a, e)) (T.2 (I a)))
  have h := kk H locs ls hl hP hS
  rw [show i.toNat = (rc_o i).toNatClampNeg by rw [rc_cl hi.1 (by omega)]] at h
  exact va_aldq X.1.1 X.1.2.1 X.2.1 hP k 2 hk' rfl (rc_in (by decide) hi) hd h
theorem rc_sltd (X : rc_X p s m args meth c cc nL Ts own G A) {a : Nat} {i : Int} (T : rc_is G a (rc_sM G)) (hd : decode cc pc = .ok (.aaload, 1)) (hi : 0 ≤ i ∧ i < 2)
    (k0 : I a i ≤ 0 → rc_g p l e R s m args below meth c cells slots Q nL G A (pc + 1) lv (.null :: st) I) (k1 : 0 < I a i → rc_g p l e R s m args below meth c cells slots Q nL G A (pc + 1) lv (.ref (I a i).toNat :: st) I) : rc_g p l e R s m args below meth c cells slots Q nL G A pc lv (.int (rc_o i) :: .ref a :: st) I := by
  intro H locs ls hl hP hS
  obtain ⟨k, hk⟩ := rc_get (f := rc_f G I) T.1
  have hk' : (va_pl (rc_L G) (rc_f G I))[k]? = some (a, rc_sM G (I a)) := hk.trans (congrArg (fun e => some (a, e)) (T.2 (I a)))
  refine va_aldq X.1.1 X.1.2.1 X.2.1 hP k 3 hk' rfl (rc_in (by decide) hi) hd ?_
  rw [rc_cl hi.1 (by omega), Int.toNat_of_nonneg hi.1]
  by_cases h : I a i ≤ 0
  · rw [show rc_rd (I a i) = none from if_pos h]
    exact k0 h H locs ls hl hP hS
  · rw [show rc_rd (I a i) = some (I a i).toNat from if_neg h]
    exact k1 (by omega) H locs ls hl hP hS
theorem rc_acopy (X : rc_X p s m args meth c cc nL Ts own G A) {a b na nb idx : Nat} {sp dp n : Int} (Ta : rc_is G a (rc_sI G na)) (Tb : rc_is G b (rc_sI G nb)) (hna : na < 2147483648) (hnb : nb < 2147483648)
    (hw : Cond.methodLink own idx arraycopyName ∈ Ts) (hw2 : Cond.native arraycopyName ∈ Ts) (hw3 : Cond.static arraycopyName ∈ Ts) (hw4 : Cond.initialized "java/lang/System" ∈ Ts)
    (hfr : 1 ≤ R.frames) (hlo : (st.map fun v => v.category).sum + (nativeFrameWords "java/lang/System" "arraycopy" 5 + 11) ≤ R.locals) (hd : decode cc pc = .ok (.invokestatic idx, 3))
    (h1 : 0 ≤ sp) (h2 : 0 ≤ dp) (h3 : 0 ≤ n) (h4 : sp + n ≤ na) (h5 : dp + n ≤ nb)
    (kk : ∀ I1, I1 = rc_cpy I a b sp dp n → rc_g p l e R s m args below meth c cells slots Q nL G A (pc + 3) lv st I1) : rc_g p l e R s m args below meth c cells slots Q nL G A pc lv (.int (rc_o n) :: .int (rc_o dp) :: .ref b :: .int (rc_o sp) :: .ref a :: st) I := by
  intro H locs ls hl hP hS
  obtain ⟨k, hk⟩ := rc_get (f := rc_f G I) Ta.1
  have hk' : (va_pl (rc_L G) (rc_f G I))[k]? = some (a, rc_sI G na (I a)) := hk.trans (congrArg (fun e => some (a, e)) (Ta.2 (I a)))
  obtain ⟨j, hj⟩ := rc_get (f := rc_f G I) Tb.1
  have hj' : (va_pl (rc_L G) (rc_f G I))[j]? = some (b, rc_sI G nb (I b)) := hj.trans (congrArg (fun e => some (b, e)) (Tb.2 (I b)))
  have ng : ∀ {z : Int}, 0 ≤ z → z < 2147483648 → ¬ rc_o z < 0 := fun {z} q1 q2 => by
    rw [rc_0, rc_lt ⟨by omega, by omega⟩ rc_R0]; omega
  refine va_copyi X.1.1 X.1.2.1 (X.1.2.2.1.trans hl.1.symm) X.1.2.2.2.1 (X.1.2.2.2.2 _ hw) (X.1.2.2.2.2 _ hw2) (X.1.2.2.2.2 _ hw3) (X.1.2.2.2.2 _ hw4) X.2.1 hP (rc_Dd X.2.2.1 X.2.2.2.1) hS k j 0 0 hk' hj' rfl rfl rfl
    (ng h1 (by omega)) (ng h2 (by omega)) (ng h3 (by omega)) (by rw [rc_cl h1 (by omega), rc_cl h3 (by omega)]; omega) (by rw [rc_cl h2 (by omega), rc_cl h3 (by omega)]; omega) (fun _ _ => rfl) hfr hlo hd
    (fun H1 locs1 hP1 _ hS1 => kk _ rfl H1 locs1 ls hl ?_ hS1)
  have e1 : rc_h G b (fun j => if dp ≤ j ∧ j < dp + n then I a (sp + (j - dp)) else I b j) = .inl (rc_cI G, nb, .inl (va_cpy (fun j : Nat => rc_o (I a j)) (fun j : Nat => rc_o (I b j)) (rc_o sp).toNatClampNeg (rc_o dp).toNatClampNeg (rc_o n).toNatClampNeg)) := by
    rw [Tb.2, ← rc_cpyrow ⟨h1, by omega⟩ ⟨h2, by omega⟩ ⟨h3, by omega⟩]; rfl
  rw [rc_pset X.2.2.1 X.2.2.2.1 Tb.1 hj (rc_fw G I b _ _ e1)] at hP1
  exact hP1
theorem rc_gst (X : rc_X p s m args meth c cc nL Ts own G A) {n : String} {f : Int → Int} {idx : Nat} (hs : rc_S1 n f A s s.heap) (hw : Cond.fieldLink own idx "ReelChanger$Stock" n "[I" ∈ Ts) (hd : decode cc pc = .ok (.getstatic idx, 3))
    (kk : ∀ t : Nat, va_T .int t 8 (fun j => .int (rc_o (f j))) A s s.heap → rc_g p l e R s m args below meth c cells slots Q nL G A (pc + 3) lv (.ref t :: st) I) : rc_g p l e R s m args below meth c cells slots Q nL G A pc lv st I := by
  intro H locs ls hl hP hS
  obtain ⟨t, hZ, hT⟩ := hs
  exact va_gets X.1.1 X.1.2.1 hZ hS X.1.2.2.2.1 (X.1.2.2.2.2 _ hw) (fun _ h => h) hd (kk t hT H locs ls hl hP hS)
theorem rc_tld (X : rc_X p s m args meth c cc nL Ts own G A) {t : Nat} {f : Int → Int} {i : Int} (hT : va_T .int t 8 (fun j => .int (rc_o (f j))) A s s.heap) (hd : decode cc pc = .ok (.iaload, 1)) (hi : 0 ≤ i ∧ i < 8)
    (kk : rc_g p l e R s m args below meth c cells slots Q nL G A (pc + 1) lv (.int (rc_o (f i)) :: st) I) : rc_g p l e R s m args below meth c cells slots Q nL G A pc lv (.int (rc_o i) :: .ref t :: st) I := by
  intro H locs ls hl hP hS
  exact va_ti X.1.1 X.1.2.1 hT hS (rc_in (by decide) hi) (by
    show Value.int (rc_o (f (((rc_o i).toNatClampNeg : Nat) : Int))) = _
    rw [rc_cl hi.1 (by omega), Int.toNat_of_nonneg hi.1]) hd (kk H locs ls hl hP hS)
theorem rc_mmax (X : rc_X p s m args meth c cc nL Ts own G A) {idx : Nat} {x y : Int} (hw : Cond.methodLink own idx Lib.Math.max.name ∈ Ts) (hw2 : Cond.static Lib.Math.max.name ∈ Ts) (hw3 : Cond.initialized "java/lang/Math" ∈ Ts) (hw4 : Cond.code Lib.Math.max.name Lib.Math.max.code 2 (some .int) ∈ Ts)
    (hfr : 1 ≤ R.frames) (hlo : (st.map fun v => v.category).sum + 13 ≤ R.locals) (hc : cells ≤ R.cells) (hs : slots ≤ R.slots) (hd : decode cc pc = .ok (.invokestatic idx, 3)) (hx : rc_R x) (hy : rc_R y)
    (kk : rc_g p l e R s m args below meth c cells slots Q nL G A (pc + 3) lv (.int (rc_o (max x y)) :: st) I) : rc_g p l e R s m args below meth c cells slots Q nL G A pc lv (.int (rc_o y) :: .int (rc_o x) :: st) I := by
  intro H locs ls hl hP hS
  have h := kk H locs ls hl hP hS
  rw [← rc_max hx hy] at h
  exact va_mmax X.1.1 X.1.2.1 (X.1.2.2.1.trans hl.1.symm) X.1.2.2.2.1 (X.1.2.2.2.2 _ hw) (X.1.2.2.2.2 _ hw2) (X.1.2.2.2.2 _ hw3) (X.1.2.2.2.2 _ hw4) hfr hlo hc hs hd h
theorem rc_mmin (X : rc_X p s m args meth c cc nL Ts own G A) {idx : Nat} {x y : Int} (hw : Cond.methodLink own idx Lib.Math.min.name ∈ Ts) (hw2 : Cond.static Lib.Math.min.name ∈ Ts) (hw3 : Cond.initialized "java/lang/Math" ∈ Ts) (hw4 : Cond.code Lib.Math.min.name Lib.Math.min.code 2 (some .int) ∈ Ts)
    (hfr : 1 ≤ R.frames) (hlo : (st.map fun v => v.category).sum + 13 ≤ R.locals) (hc : cells ≤ R.cells) (hs : slots ≤ R.slots) (hd : decode cc pc = .ok (.invokestatic idx, 3)) (hx : rc_R x) (hy : rc_R y)
    (kk : rc_g p l e R s m args below meth c cells slots Q nL G A (pc + 3) lv (.int (rc_o (min x y)) :: st) I) : rc_g p l e R s m args below meth c cells slots Q nL G A pc lv (.int (rc_o y) :: .int (rc_o x) :: st) I := by
  intro H locs ls hl hP hS
  have h := kk H locs ls hl hP hS
  rw [← rc_min hx hy] at h
  exact va_mmin X.1.1 X.1.2.1 (X.1.2.2.1.trans hl.1.symm) X.1.2.2.2.1 (X.1.2.2.2.2 _ hw) (X.1.2.2.2.2 _ hw2) (X.1.2.2.2.2 _ hw3) (X.1.2.2.2.2 _ hw4) hfr hlo hc hs hd h
/-- a field of ours is read -/
theorem rc_fget (X : rc_X p s m args meth c cc nL Ts own G A) {a ci N k idx : Nat} {fs : (Int → Int) → List Value} {C : String} {T : u_T} {v : Value} (hT : rc_is G a (fun d => .inr (ci, fs d))) (hc : vwCl[ci]? = some (C, T, N)) (hin : ∀ w ∈ u_ws C T N, w ∈ Ts) (hk : k < N)
    (hw : Cond.fieldLink own idx (T k).1 (T k).2.1 (T k).2.2.1 ∈ Ts) (hv : (fs (I a))[k]? = some v) (hd : decode cc pc = .ok (.getfield idx, 3))
    (kk : rc_g p l e R s m args below meth c cells slots Q nL G A (pc + 3) lv (v :: st) I) : rc_g p l e R s m args below meth c cells slots Q nL G A pc lv (.ref a :: st) I := by
  intro H locs ls hl hP hS
  obtain ⟨q, hq⟩ := rc_get (f := rc_f G I) hT.1
  have hq' : (va_pl (rc_L G) (rc_f G I))[q]? = some (a, .inr (ci, fs (I a))) := hq.trans (congrArg (fun e => some (a, e)) (hT.2 (I a)))
  exact va_get X.1.1 X.1.2.1 X.1.2.2.2.2 hin X.1.2.2.2.1 X.2.1 hP q hq' hc k hk (X.1.2.2.2.2 _ hw) (fun _ h => h) hv hd (kk H locs ls hl hP hS)
/-- a field of ours that holds an int is written -/
theorem rc_fput (X : rc_X p s m args meth c cc nL Ts own G A) {a ci N k idx : Nat} {fs : (Int → Int) → List Value} {C : String} {T : u_T} {x : Int} {ty : FieldType} (hT : rc_is G a (fun d => .inr (ci, fs d))) (hc : vwCl[ci]? = some (C, T, N)) (hin : ∀ w ∈ u_ws C T N, w ∈ Ts)
    (ty0 : Nat → FieldType) (hty : ∀ k, k < N → parseFieldDescriptor (T k).2.2.1 = some (ty0 k)) (hnm : ∀ a, a < N → ∀ b, b < N → a ≠ b → (T a).2.1 ≠ (T b).2.1) (hk : k < N)
    (hw : Cond.fieldLink own idx (T k).1 (T k).2.1 (T k).2.2.1 ∈ Ts) (hfin : (T k).2.2.2 = false) (htk : ty0 k = ty) (hn : narrow ty (.int (rc_o x)) = .int (rc_o x)) (hfit : fits ty (.int (rc_o x)) = true) (hl : k < (fs (I a)).length)
    (hset : (fs (I a)).set k (.int (rc_o x)) = fs (rc_u (I a) k x)) (hd : decode cc pc = .ok (.putfield idx, 3))
    (kk : ∀ I1, I1 = rc_s I a k x → rc_g p l e R s m args below meth c cells slots Q nL G A (pc + 3) lv st I1) : rc_g p l e R s m args below meth c cells slots Q nL G A pc lv (.int (rc_o x) :: .ref a :: st) I := by
  intro H locs ls hll hP hS
  obtain ⟨q, hq⟩ := rc_get (f := rc_f G I) hT.1
  have hq' : (va_pl (rc_L G) (rc_f G I))[q]? = some (a, .inr (ci, fs (I a))) := hq.trans (congrArg (fun e => some (a, e)) (hT.2 (I a)))
  refine va_put X.1.1 X.1.2.1 X.1.2.2.2.2 hin ty0 hty hnm X.1.2.2.2.1 X.2.1 hP (rc_Dd X.2.2.1 X.2.2.2.1) hS q hq' hc k hk (X.1.2.2.2.2 _ hw) (fun _ h => h) hfin ((hty k hk).trans (congrArg some htk)) hn hfit hl hd (fun H1 locs1 hP1 _ hS1 => kk _ rfl H1 locs1 ls hll ?_ hS1)
  have e1 : rc_h G a (rc_u (I a) k x) = .inr (ci, (fs (I a)).set k (.int (rc_o x))) := by rw [hT.2, hset]
  rw [rc_pset X.2.2.1 X.2.2.2.1 hT.1 hq (rc_fw G I a (rc_u (I a) k x) _ e1)] at hP1
  exact hP1
/-! ===== ends ===== -/
theorem rc_iret (X : rc_X p s m args meth c cc nL Ts own G (rc_A G)) (hr : meth.sig.returnType = some .int) {z : Int} {post : Int → rc_M → Prop} (hd : decode cc pc = .ok (.ireturn, 1)) (h : post z I) :
    rc_g p l e R s m args below meth c cells slots (MQ below (rc_QI G post) args s cells slots (rc_A G)) nL G (rc_A G) pc lv [.int (rc_o z)] I :=
  fun _ _ _ _ hP hS => W.iret X.1.1 X.1.2.1 hr (fun t ht _ => ⟨⟨rc_o z, I, rfl, ⟨z, rfl, h⟩, by show rc_P G I t.heap; rw [ht]; exact hP⟩, hS.F ht⟩) hS.2.2 hd X.2.2.2.2.2
theorem rc_zret (X : rc_X p s m args meth c cc nL Ts own G (rc_A G)) (hr : meth.sig.returnType = some .boolean) {z : Int} {post : Int → rc_M → Prop} (hd : decode cc pc = .ok (.ireturn, 1)) (hz : z = 0 ∨ z = 1) (h : post z I) :
    rc_g p l e R s m args below meth c cells slots (MQ below (rc_QI G post) args s cells slots (rc_A G)) nL G (rc_A G) pc lv [.int (rc_o z)] I :=
  fun _ _ _ _ hP hS => W.zret X.1.1 X.1.2.1 hr (rc_nz2 hz) (fun t ht _ => ⟨⟨rc_o z, I, rfl, ⟨z, rfl, h⟩, by show rc_P G I t.heap; rw [ht]; exact hP⟩, hS.F ht⟩) hS.2.2 hd X.2.2.2.2.2
theorem rc_lret (X : rc_X p s m args meth c cc nL Ts own G (rc_A G)) (hr : meth.sig.returnType = some .long) {z : Int64} {post : Int64 → rc_M → Prop} (hd : decode cc pc = .ok (.lreturn, 1)) (h : post z I) :
    rc_g p l e R s m args below meth c cells slots (MQ below (rc_QL G post) args s cells slots (rc_A G)) nL G (rc_A G) pc lv [.long z] I :=
  fun _ _ _ _ hP hS => W.lret X.1.1 X.1.2.1 hr (fun t ht _ => ⟨⟨z, I, rfl, h, by show rc_P G I t.heap; rw [ht]; exact hP⟩, hS.F ht⟩) hS.2.2 hd X.2.2.2.2.2
theorem rc_vret (X : rc_X p s m args meth c cc nL Ts own G (rc_A G)) (hr : meth.sig.returnType = none) {post : rc_M → Prop} (hd : decode cc pc = .ok (.return_, 1)) (h : post I) :
    rc_g p l e R s m args below meth c cells slots (MQ below (rc_QV G post) args s cells slots (rc_A G)) nL G (rc_A G) pc lv [] I :=
  fun _ _ _ _ hP hS => W.vret X.1.1 X.1.2.1 hr (fun t ht _ => ⟨⟨I, rfl, h, by show rc_P G I t.heap; rw [ht]; exact hP⟩, hS.F ht⟩) hS.2.2 hd X.2.2.2.2.2
theorem rc_aret (X : rc_X p s m args meth c cc nL Ts own G (rc_A G)) {C : String} (hr : meth.sig.returnType = some (.object C)) (r : Option Nat) {post : Option Nat → rc_M → Prop} (hd : decode cc pc = .ok (.areturn, 1)) (h : post r I) :
    rc_g p l e R s m args below meth c cells slots (MQ below (rc_QQ G post) args s cells slots (rc_A G)) nL G (rc_A G) pc lv [va_rf r] I :=
  fun _ _ _ _ hP hS => W.aret X.1.1 X.1.2.1 hr (Or.inl ⟨C, rfl⟩) (va_rf_or r) (fun t ht _ => ⟨⟨r, I, rfl, h, by show rc_P G I t.heap; rw [ht]; exact hP⟩, hS.F ht⟩) hS.2.2 hd X.2.2.2.2.2
/-! ===== calls ===== -/
theorem rc_pre (X : rc_X p s m args meth c cc nL Ts own G A) {H : Heap} {locs : List Loc} (hS : va_S A s.heap H locs) (hP : rc_P G I H) (av : List Value) : ∀ U : State, U.heap = H → s.WarmedH U.vm → va_Pc av (rc_B G I) av.toArray U :=
  fun U hU hW => ⟨rfl, by rw [hU]; exact hP, va_K.moved hW.alike X.2.1, X.2.2.1, by rw [hU]; exact X.2.2.2.2.1.go hW.alike hS.2.1 X.2.2.2.1⟩
theorem rc_recv (X : rc_X p s m args meth c cc nL Ts own G A) {b ci : Nat} {fs : (Int → Int) → List Value} {r : vw_C} (hb : rc_is G b (fun d => .inr (ci, fs d))) (hc : vwCl[ci]? = some r) : ∀ H : Heap, rc_P G I H → ∃ cell : Cell, H[b]? = some cell ∧ cell.vm.isStatics = false ∧ s.vm.findClass r.1 = some cell.cls := by
  intro H hP
  obtain ⟨q, hq⟩ := rc_get (f := rc_f G I) hb.1
  exact va_recv X.2.1 hP hc (hq.trans (congrArg (fun e => some (b, e)) (hb.2 (I b))))
variable {y : MethodName} {bytes : ByteArray} {maxL n index : Nat} {ret : Option FieldType} {ws ws' : List Cond} {rm : Room} {C : String} {b : Nat} {As rest : List Value}
theorem rc_cVI (X : rc_X p s m args meth c cc nL Ts own G A) {post : Int → rc_M → Prop} (hM : rc_CI l y ws rm G (.ref b :: As) I post) (gd : GoodIn Ts (wsV own index C y ws)) (hw : ws = Cond.code y bytes maxL ret :: ws') (hrm : rm.cells = 0 ∧ rm.slots = 0)
    (hy : y.cls = C ∧ y.cls ≠ "java/lang/invoke/MethodHandle" ∧ y.cls ≠ "java/lang/invoke/VarHandle" ∧ (parseMethodDescriptor y.desc).map (fun d => d.parameters.length) = some n) (hR : rm.frames + 1 ≤ R.frames ∧ 8 + (maxL + 11) + rm.locals ≤ R.locals)
    (hrecv : ∀ H : Heap, rc_P G I H → ∃ cell : Cell, H[b]? = some cell ∧ cell.vm.isStatics = false ∧ s.vm.findClass C = some cell.cls) (hn : As.length = n) (hst : st = As.reverse ++ .ref b :: rest) (hW : (rest.map fun v => v.category).sum ≤ 8) (hd : decode cc pc = .ok (.invokevirtual index, 3)) (hcs : cells ≤ R.cells ∧ slots ≤ R.slots)
    (kk : ∀ (z : Int) (I1 : rc_M), post z I1 → rc_g p l e R s m args below meth c cells slots Q nL G A (pc + 3) lv (.int (rc_o z) :: rest) I1) : rc_g p l e R s m args below meth c cells slots Q nL G A pc lv st I := by
  intro H locs ls hl hP hS
  subst hst
  refine va_calli (va_runV (As := As) (rest := rest) X.1 hM (cwV n X.1.2.2.2.2 gd hw hrm.1 hrm.2 hy hR) ⟨rc_blind G I _, hrecv H hP, rc_pre X hS hP _⟩ rfl hn hl.1 rfl (lv_room hW) hd hcs) hS (fun q _ h => X.2.2.2.1 q h) X.2.2.2.1 (fun r u t H1 locs1 ht _ hw' hB _ _ hS1 => ?_)
  obtain ⟨z, rfl, hp⟩ := hw'
  exact kk z u hp H1 locs1 ls hl (by rw [← ht]; exact hB) hS1
theorem rc_cVL (X : rc_X p s m args meth c cc nL Ts own G A) {post : Int64 → rc_M → Prop} (hM : rc_CL l y ws rm G (.ref b :: As) I post) (gd : GoodIn Ts (wsV own index C y ws)) (hw : ws = Cond.code y bytes maxL ret :: ws') (hrm : rm.cells = 0 ∧ rm.slots = 0)
    (hy : y.cls = C ∧ y.cls ≠ "java/lang/invoke/MethodHandle" ∧ y.cls ≠ "java/lang/invoke/VarHandle" ∧ (parseMethodDescriptor y.desc).map (fun d => d.parameters.length) = some n) (hR : rm.frames + 1 ≤ R.frames ∧ 8 + (maxL + 11) + rm.locals ≤ R.locals)
    (hrecv : ∀ H : Heap, rc_P G I H → ∃ cell : Cell, H[b]? = some cell ∧ cell.vm.isStatics = false ∧ s.vm.findClass C = some cell.cls) (hn : As.length = n) (hst : st = As.reverse ++ .ref b :: rest) (hW : (rest.map fun v => v.category).sum ≤ 8) (hd : decode cc pc = .ok (.invokevirtual index, 3)) (hcs : cells ≤ R.cells ∧ slots ≤ R.slots)
    (kk : ∀ (z : Int64) (I1 : rc_M), post z I1 → rc_g p l e R s m args below meth c cells slots Q nL G A (pc + 3) lv (.long z :: rest) I1) : rc_g p l e R s m args below meth c cells slots Q nL G A pc lv st I := by
  intro H locs ls hl hP hS
  subst hst
  exact va_calll (va_runV (As := As) (rest := rest) X.1 hM (cwV n X.1.2.2.2.2 gd hw hrm.1 hrm.2 hy hR) ⟨rc_blind G I _, hrecv H hP, rc_pre X hS hP _⟩ rfl hn hl.1 rfl (lv_room hW) hd hcs) hS (fun q _ h => X.2.2.2.1 q h) X.2.2.2.1 (fun r u t H1 locs1 ht _ hw' hB _ _ hS1 => kk r u hw' H1 locs1 ls hl (by rw [← ht]; exact hB) hS1)
theorem rc_cVV (X : rc_X p s m args meth c cc nL Ts own G A) {post : rc_M → Prop} (hM : rc_CV l y ws rm G (.ref b :: As) I post) (gd : GoodIn Ts (wsV own index C y ws)) (hw : ws = Cond.code y bytes maxL ret :: ws') (hrm : rm.cells = 0 ∧ rm.slots = 0)
    (hy : y.cls = C ∧ y.cls ≠ "java/lang/invoke/MethodHandle" ∧ y.cls ≠ "java/lang/invoke/VarHandle" ∧ (parseMethodDescriptor y.desc).map (fun d => d.parameters.length) = some n) (hR : rm.frames + 1 ≤ R.frames ∧ 8 + (maxL + 11) + rm.locals ≤ R.locals)
    (hrecv : ∀ H : Heap, rc_P G I H → ∃ cell : Cell, H[b]? = some cell ∧ cell.vm.isStatics = false ∧ s.vm.findClass C = some cell.cls) (hn : As.length = n) (hst : st = As.reverse ++ .ref b :: rest) (hW : (rest.map fun v => v.category).sum ≤ 8) (hd : decode cc pc = .ok (.invokevirtual index, 3)) (hcs : cells ≤ R.cells ∧ slots ≤ R.slots)
    (kk : ∀ (I1 : rc_M), post I1 → rc_g p l e R s m args below meth c cells slots Q nL G A (pc + 3) lv rest I1) : rc_g p l e R s m args below meth c cells slots Q nL G A pc lv st I := by
  intro H locs ls hl hP hS
  subst hst
  exact va_callv (va_runV (As := As) (rest := rest) X.1 hM (cwV n X.1.2.2.2.2 gd hw hrm.1 hrm.2 hy hR) ⟨rc_blind G I _, hrecv H hP, rc_pre X hS hP _⟩ rfl hn hl.1 rfl (lv_room hW) hd hcs) hS (fun q _ h => X.2.2.2.1 q h) X.2.2.2.1 (fun u t H1 locs1 ht _ hw' hB _ _ hS1 => kk u hw' H1 locs1 ls hl (by rw [← ht]; exact hB) hS1)
theorem rc_cVQ (X : rc_X p s m args meth c cc nL Ts own G A) {post : Option Nat → rc_M → Prop} (hM : rc_CQ l y ws rm G (.ref b :: As) I post) (gd : GoodIn Ts (wsV own index C y ws)) (hw : ws = Cond.code y bytes maxL ret :: ws') (hrm : rm.cells = 0 ∧ rm.slots = 0)
    (hy : y.cls = C ∧ y.cls ≠ "java/lang/invoke/MethodHandle" ∧ y.cls ≠ "java/lang/invoke/VarHandle" ∧ (parseMethodDescriptor y.desc).map (fun d => d.parameters.length) = some n) (hR : rm.frames + 1 ≤ R.frames ∧ 8 + (maxL + 11) + rm.locals ≤ R.locals)
    (hrecv : ∀ H : Heap, rc_P G I H → ∃ cell : Cell, H[b]? = some cell ∧ cell.vm.isStatics = false ∧ s.vm.findClass C = some cell.cls) (hn : As.length = n) (hst : st = As.reverse ++ .ref b :: rest) (hW : (rest.map fun v => v.category).sum ≤ 8) (hd : decode cc pc = .ok (.invokevirtual index, 3)) (hcs : cells ≤ R.cells ∧ slots ≤ R.slots)
    (kk : ∀ (z : Option Nat) (I1 : rc_M), post z I1 → rc_g p l e R s m args below meth c cells slots Q nL G A (pc + 3) lv (va_rf z :: rest) I1) : rc_g p l e R s m args below meth c cells slots Q nL G A pc lv st I := by
  intro H locs ls hl hP hS
  subst hst
  exact va_callq (va_runV (As := As) (rest := rest) X.1 hM (cwV n X.1.2.2.2.2 gd hw hrm.1 hrm.2 hy hR) ⟨rc_blind G I _, hrecv H hP, rc_pre X hS hP _⟩ rfl hn hl.1 rfl (lv_room hW) hd hcs) hS (fun q _ h => X.2.2.2.1 q h) X.2.2.2.1 (fun r u t H1 locs1 ht _ hw' hB _ _ hS1 => kk r u hw' H1 locs1 ls hl (by rw [← ht]; exact hB) hS1)
theorem rc_cSI (X : rc_X p s m args meth c cc nL Ts own G A) {post : Int → rc_M → Prop} (hM : rc_CI l y ws rm G As I post) (gd : GoodIn Ts (va_wsS own index y ws)) (hw : ws = Cond.code y bytes maxL ret :: ws') (hrm : rm.cells = 0 ∧ rm.slots = 0)
    (hy : y.cls = C ∧ y.cls ≠ "java/lang/invoke/MethodHandle" ∧ y.cls ≠ "java/lang/invoke/VarHandle" ∧ (parseMethodDescriptor y.desc).map (fun d => d.parameters.length) = some n) (hR : rm.frames + 1 ≤ R.frames ∧ 8 + (maxL + 11) + rm.locals ≤ R.locals)
    (hn : As.length = n) (hst : st = As.reverse ++ rest) (hW : (rest.map fun v => v.category).sum ≤ 8) (hd : decode cc pc = .ok (.invokestatic index, 3)) (hcs : cells ≤ R.cells ∧ slots ≤ R.slots)
    (kk : ∀ (z : Int) (I1 : rc_M), post z I1 → rc_g p l e R s m args below meth c cells slots Q nL G A (pc + 3) lv (.int (rc_o z) :: rest) I1) : rc_g p l e R s m args below meth c cells slots Q nL G A pc lv st I := by
  intro H locs ls hl hP hS
  subst hst
  refine va_calli (va_runS (As := As) (rest := rest) X.1 hM (va_cwS n X.1.2.2.2.2 gd hw hrm.1 hrm.2 hy.2 hR) ⟨rc_blind G I _, rc_pre X hS hP _⟩ rfl hn hl.1 rfl (lv_room hW) hd hcs) hS (fun q _ h => X.2.2.2.1 q h) X.2.2.2.1 (fun r u t H1 locs1 ht _ hw' hB _ _ hS1 => ?_)
  obtain ⟨z, rfl, hp⟩ := hw'
  exact kk z u hp H1 locs1 ls hl (by rw [← ht]; exact hB) hS1
theorem rc_cSL (X : rc_X p s m args meth c cc nL Ts own G A) {post : Int64 → rc_M → Prop} (hM : rc_CL l y ws rm G As I post) (gd : GoodIn Ts (va_wsS own index y ws)) (hw : ws = Cond.code y bytes maxL ret :: ws') (hrm : rm.cells = 0 ∧ rm.slots = 0)
    (hy : y.cls = C ∧ y.cls ≠ "java/lang/invoke/MethodHandle" ∧ y.cls ≠ "java/lang/invoke/VarHandle" ∧ (parseMethodDescriptor y.desc).map (fun d => d.parameters.length) = some n) (hR : rm.frames + 1 ≤ R.frames ∧ 8 + (maxL + 11) + rm.locals ≤ R.locals)
    (hn : As.length = n) (hst : st = As.reverse ++ rest) (hW : (rest.map fun v => v.category).sum ≤ 8) (hd : decode cc pc = .ok (.invokestatic index, 3)) (hcs : cells ≤ R.cells ∧ slots ≤ R.slots)
    (kk : ∀ (z : Int64) (I1 : rc_M), post z I1 → rc_g p l e R s m args below meth c cells slots Q nL G A (pc + 3) lv (.long z :: rest) I1) : rc_g p l e R s m args below meth c cells slots Q nL G A pc lv st I := by
  intro H locs ls hl hP hS
  subst hst
  exact va_calll (va_runS (As := As) (rest := rest) X.1 hM (va_cwS n X.1.2.2.2.2 gd hw hrm.1 hrm.2 hy.2 hR) ⟨rc_blind G I _, rc_pre X hS hP _⟩ rfl hn hl.1 rfl (lv_room hW) hd hcs) hS (fun q _ h => X.2.2.2.1 q h) X.2.2.2.1 (fun r u t H1 locs1 ht _ hw' hB _ _ hS1 => kk r u hw' H1 locs1 ls hl (by rw [← ht]; exact hB) hS1)
theorem rc_cSV (X : rc_X p s m args meth c cc nL Ts own G A) {post : rc_M → Prop} (hM : rc_CV l y ws rm G As I post) (gd : GoodIn Ts (va_wsS own index y ws)) (hw : ws = Cond.code y bytes maxL ret :: ws') (hrm : rm.cells = 0 ∧ rm.slots = 0)
    (hy : y.cls = C ∧ y.cls ≠ "java/lang/invoke/MethodHandle" ∧ y.cls ≠ "java/lang/invoke/VarHandle" ∧ (parseMethodDescriptor y.desc).map (fun d => d.parameters.length) = some n) (hR : rm.frames + 1 ≤ R.frames ∧ 8 + (maxL + 11) + rm.locals ≤ R.locals)
    (hn : As.length = n) (hst : st = As.reverse ++ rest) (hW : (rest.map fun v => v.category).sum ≤ 8) (hd : decode cc pc = .ok (.invokestatic index, 3)) (hcs : cells ≤ R.cells ∧ slots ≤ R.slots)
    (kk : ∀ (I1 : rc_M), post I1 → rc_g p l e R s m args below meth c cells slots Q nL G A (pc + 3) lv rest I1) : rc_g p l e R s m args below meth c cells slots Q nL G A pc lv st I := by
  intro H locs ls hl hP hS
  subst hst
  exact va_callv (va_runS (As := As) (rest := rest) X.1 hM (va_cwS n X.1.2.2.2.2 gd hw hrm.1 hrm.2 hy.2 hR) ⟨rc_blind G I _, rc_pre X hS hP _⟩ rfl hn hl.1 rfl (lv_room hW) hd hcs) hS (fun q _ h => X.2.2.2.1 q h) X.2.2.2.1 (fun u t H1 locs1 ht _ hw' hB _ _ hS1 => kk u hw' H1 locs1 ls hl (by rw [← ht]; exact hB) hS1)
end RC2
/-! ===== a contract out of its body ===== -/
section RC3
variable {l : Launch} {y : MethodName} {ws ws' : List Cond} {rm : Room} {cc : ByteArray} {maxL : Nat} {G : rc_G} {av : List Value} {I : rc_M} {own : String} {lv0 : List (Nat × Value)}
theorem rc_body {ret : Option FieldType} {Qc : Array Value → State → Outcome → State → Prop} (hy : plainName y.cls = true) (hw : ws = Cond.code y cc maxL ret :: ws') (hown : y.cls = own) (hlen : (lg_sl av).length ≤ maxL) (hlv : lv_args 0 av = lv0)
    (body : ∀ (p : Program) (e : Env) (s : State) (m : MethodId) (below : List Frame) (meth : Method) (c : Code), rc_X p s m av.toArray meth c cc maxL ws own G (rc_A G) → meth.sig.returnType = ret →
      rc_g p l e rm s m av.toArray below meth c 0 0 (MQ below Qc av.toArray s 0 0 (rc_A G)) maxL G (rc_A G) 0 lv0 [] I) : Met l y ws rm (va_Pc av (rc_B G I)) Qc 0 0 (rc_A G) := by
  refine Met.ofW (cc := cc) (maxL := maxL) (ret := ret) hy hw ?_
  intro p e s m args below meth c s₁ B hml hv
  obtain ⟨rfl, hP, hK, hn, hSt⟩ := hv
  have X : rc_X p s m av.toArray meth c cc maxL ws own G (rc_A G) := ⟨⟨B.exec, B.bytes, hml, by rw [← hown]; exact findClass_of_methodNamed B.named, atoms_spec (ws := ws) B.pre⟩, hK, hn, fun _ h => h, hSt, B.notSynchronized⟩
  have hl := lv_entry av (n := maxL) hlen
  rw [lg_entry_eq]
  generalize (lg_sl av ++ List.replicate (maxL - (lg_sl av).length) Slot.unset).toArray = ls at hl ⊢
  exact body p e s m below meth c X B.returns s.heap [] ls (by rw [← hlv]; exact hl) hP va_S.rf
end RC3
