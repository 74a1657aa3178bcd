/-! ===== the law: rows of its own ===== -/
def rl_sx (xs : Nat → Int32) (j : Int) : Int := (xs j.toNat).toInt
def rl_sw (xs : Nat → Int32) (j : Int) : Int := ((xs j.toNat) &&& 31).toInt
abbrev rl_lv (i : Int) (b x y : Nat) : List (Nat × Value) := [(3, .int (rc_o i)), (0, .ref b), (1, .ref x), (2, .ref y)]
section RL1
variable {p : Program} {l : Launch} {e : Env} {R : Room} {s : State} {m : MethodId} {args : Array Value} {below : List Frame} {meth : Method} {c : Code} {cells slots : Nat} {Q : State → Prop}
variable {cc : ByteArray} {nL : Nat} {Ts : List Cond} {own : String} {G : rc_G} {A : Nat → Prop} {pc : Nat} {lv lv' : List (Nat × Value)} {st : List Value} {I : rc_M} {b L : Nat} {xs : Nat → Int32}
def rl_S (b L : Nat) (xs : Nat → Int32) (A : Nat → Prop) (s : State) : Prop := va_X b L xs s s.heap ∧ b < s.heap.size ∧ ¬ A b ∧ L ≤ 2048
theorem rl_sld (X : rc_X p s m args meth c cc nL Ts own G A) (S : rl_S b L xs A s) {i : Int} (hd : decode cc pc = .ok (.iaload, 1)) (hi : 0 ≤ i ∧ i < L)
    (kk : rc_g p l e R s m args below meth c cells slots Q nL G A (pc + 1) lv (.int (rc_o (rl_sx xs i)) :: st) I) : rc_g p l e R s m args below meth c cells slots Q nL G A pc lv (.int (rc_o i) :: .ref b :: st) I := by
  intro H locs ls hl hP hS
  have hL := S.2.2.2
  have h := kk H locs ls hl hP hS
  have e1 : xs (rc_o i).toNatClampNeg = rc_o (rl_sx xs i) := by rw [rc_cl hi.1 (by omega)]; exact (rc_sur _).symm
  rw [← e1] at h
  exact va_sld X.1.1 X.1.2.1 S.1 S.2.1 S.2.2.1 hS (rc_in (by omega) hi) hd h
theorem rl_slen (X : rc_X p s m args meth c cc nL Ts own G A) (S : rl_S b L xs A s) (hd : decode cc pc = .ok (.arraylength, 1))
    (kk : rc_g p l e R s m args below meth c cells slots Q nL G A (pc + 1) lv (.int (rc_o (L : Int)) :: st) I) : rc_g p l e R s m args below meth c cells slots Q nL G A pc lv (.ref b :: st) I := by
  intro H locs ls hl hP hS
  have h := kk H locs ls hl hP hS
  rw [show rc_o (L : Int) = Int32.ofNat L from Int32.ofInt_eq_ofNat] at h
  exact va_slen X.1.1 X.1.2.1 S.1 S.2.1 S.2.2.1 hS hd h
theorem rl_and (X : rc_X p s m args meth c cc nL Ts own G A) {i : Int} (hd : decode cc pc = .ok (.iand, 1))
    (kk : rc_g p l e R s m args below meth c cells slots Q nL G A (pc + 1) lv (.int (rc_o (rl_sw xs i)) :: st) I) : rc_g p l e R s m args below meth c cells slots Q nL G A pc lv (.int (rc_o 31) :: .int (rc_o (rl_sx xs i)) :: st) I := by
  intro H locs ls hl hP hS
  have h := kk H locs ls hl hP hS
  have e1 : rc_o (rl_sx xs i) &&& rc_o 31 = rc_o (rl_sw xs i) := by
    unfold rl_sx rl_sw
    rw [rc_sur, rc_sur]
    rfl
  rw [← e1] at h
  exact lv_iand X.1.1 X.1.2.1 hd h
theorem rl_eq (X : rc_X p s m args meth c cc nL Ts own G A) {x y off : Int} (tgt : Nat) (hd : decode cc pc = .ok (.if_icmp .eq off, 3)) (ht : (pc : Int) + off = (tgt : Int)) (hxy : x = y)
    (kt : rc_g p l e R s m args below meth c cells slots Q nL G A tgt lv st I) : rc_g p l e R s m args below meth c cells slots Q nL G A pc lv (.int (rc_o y) :: .int (rc_o x) :: st) I :=
  fun H locs ls hl hP hS => lv_icmp_eq X.1.1 X.1.2.1 hd ht (fun _ => kt H locs ls hl hP hS) (fun h => absurd (congrArg rc_o hxy) h)
theorem rl_leq (X : rc_X p s m args meth c cc nL Ts own G A) {x y : Int64} {off : Int} (tgt : Nat) (hd : decode cc pc = .ok (.lcmp, 1)) (hd2 : decode cc (pc + 1) = .ok (.ifCond .eq off, 3)) (ht : ((pc + 1 : Nat) : Int) + off = (tgt : Int)) (hxy : x = y)
    (kt : rc_g p l e R s m args below meth c cells slots Q nL G A tgt lv st I) : rc_g p l e R s m args below meth c cells slots Q nL G A pc lv (.long y :: .long x :: st) I := by
  intro H locs ls hl hP hS
  subst hxy
  refine W.lcmp X.1.1 X.1.2.1 hd ?_
  have e1 : lg_cmp x x = 0 := by simp [lg_cmp]
  rw [e1]
  exact lv_if_eq X.1.1 X.1.2.1 hd2 ht (fun _ => kt H locs ls hl hP hS) (fun h => absurd rfl h)
theorem rl_cSave (X : rc_X p s m args meth c cc nL Ts own G A) (hO : rk_O s) (hAA : ∀ q, s.heap.size ≤ q → A q) {x : Nat} {a1 : Int} {idx : Nat} {rest : List Value} {post : Int → rc_G → rc_M → Prop}
    (hM : ∀ sz, Met l yX7_save wsX7_save rmX7_save (va_Pc [.ref x, .int (rc_o a1)] (rs_B G I sz)) (rs_Q G sz post) 41 237 (rs_AA G sz)) (gd : GoodIn Ts (wsV own idx RX7 yX7_save wsX7_save)) (hR : rmX7_save.frames + 1 ≤ R.frames ∧ 8 + (3 + 11) + rmX7_save.locals ≤ R.locals)
    (hrecv : ∀ H : Heap, rc_P G I H → ∃ cell : Cell, H[x]? = some cell ∧ cell.vm.isStatics = false ∧ s.vm.findClass RX7 = some cell.cls) (hW : (rest.map fun v => v.category).sum ≤ 8) (hd : decode cc pc = .ok (.invokevirtual idx, 3)) (hcs : cells + 41 ≤ R.cells ∧ slots + 237 ≤ R.slots)
    (kk : ∀ (z : Int) (G1 : rc_G) (I1 : rc_M), post z G1 I1 → rs_le G G1 → rc_X p s m args meth c cc nL Ts own G1 A → rc_g p l e R s m args below meth c (cells + 41) (slots + 237) Q nL G1 A (pc + 3) lv (.int (rc_o z) :: rest) I1) : rc_g p l e R s m args below meth c cells slots Q nL G A pc lv (.int (rc_o a1) :: .ref x :: rest) I := by
  intro H locs ls hl hP hS
  have hA1 : ∀ q, rs_AA G H.size q → A q := fun q h => h.elim (X.2.2.2.1 q) (fun z => hAA q (Nat.le_trans hS.1 z))
  refine va_calli (va_runV (As := [.int (rc_o a1)]) (rest := rest) X.1 (hM H.size) (cwV 1 X.1.2.2.2.2 gd rfl rfl rfl dyX7_save hR) ⟨rs_blind G I _ _, hrecv H hP, fun U hU hW => ⟨rfl, by rw [hU], (rc_pre X hS hP [] U hU hW).2, rk_O.warm hW hO⟩⟩ rfl rfl hl.1 rfl (lv_room hW) hd hcs) hS (fun q _ h => hA1 q h) hA1 (fun r u t H1 locs1 ht _ hw' hB _ _ hS1 => ?_)
  obtain ⟨z, rfl, hp⟩ := hw'
  exact kk z u.1 u.2 hp hB.2.1 (rs_X X hB.2.1 hB.2.2.1 (fun a ha => hA1 a (hB.2.2.2 a ha))) H1 locs1 ls hl (by rw [← ht]; exact hB.1) hS1
end RL1
def wL_0 (xs : Nat → Int32) (x y : Nat) (i : Int) (k : rc_M → Prop) (G : rc_G) (I : rc_M) : Prop :=
  wX7_makeReel G x (rl_sx xs (i + 1)) I (fun r1 I1 => wX8_makeReel G y (rl_sx xs (i + 1)) I1 (fun r2 I2 => r1 = r2 ∧ k I2))
set_option maxRecDepth 100000 in
set_option maxHeartbeats 4000000 in
theorem gL_0 {p : Program} {l : Launch} {e : Env} {s : State} {m : MethodId} {args : Array Value} {below : List Frame} {meth : Method} {c : Code} {cells slots : Nat} {Q : State → Prop} {G : rc_G} {A : Nat → Prop} {I : rc_M} {b L x y : Nat} {xs : Nat → Int32} {i : Int} (X : rc_X p s m args meth c cL_law 4 wsL_law RL G A) (S : rl_S b L xs A s) (hi : 0 ≤ i ∧ i + 4 ≤ L) (T7 : kX7 G x) (T8 : kX8 G y) (hc : cells ≤ room_1.cells ∧ slots ≤ room_1.slots) {k : rc_M → Prop} (hk : ∀ J : rc_M, k J → rc_g p l e room_1 s m args below meth c cells slots Q 4 G A 699 (rl_lv i b x y) [] J) (h : wL_0 xs x y i k G I) : rc_g p l e room_1 s m args below meth c cells slots Q 4 G A 136 (rl_lv i b x y) [] I := by
  unfold wL_0 at h
  refine rc_aload_n X dL_law_136 rfl 2 rfl ?_
  refine rc_aload_n X dL_law_137 rfl 1 rfl ?_
  refine rc_iload_n X dL_law_138 rfl 0 rfl ?_
  refine rc_iconst X dL_law_139 ?_
  refine rc_iadd X dL_law_140 ?_
  refine rl_sld X S dL_law_141 (by omega) ?_
  refine rc_cVI (rest := []) X (mX7_makeReel T7 h) gL_law_X7_makeReel rfl ⟨rfl, rfl⟩ dyX7_makeReel ⟨Nat.le_of_ble_eq_true rfl, Nat.le_of_ble_eq_true rfl⟩ (rc_recv X T7.1 rfl) rfl rfl (Nat.le_of_ble_eq_true rfl) dL_law_142 hc (fun r1 I1 h => ?_)
  refine rc_aload_n X dL_law_145 rfl 3 rfl ?_
  refine rc_aload_n X dL_law_146 rfl 1 rfl ?_
  refine rc_iload_n X dL_law_147 rfl 0 rfl ?_
  refine rc_iconst X dL_law_148 ?_
  refine rc_iadd X dL_law_149 ?_
  refine rl_sld X S dL_law_150 (by omega) ?_
  refine rc_cVI (rest := [.int (rc_o r1)]) X (mX8_makeReel T8 h) gL_law_X8_makeReel rfl ⟨rfl, rfl⟩ dyX8_makeReel ⟨Nat.le_of_ble_eq_true rfl, Nat.le_of_ble_eq_true rfl⟩ (rc_recv X T8.1 rfl) rfl rfl (Nat.le_of_ble_eq_true rfl) dL_law_151 hc (fun r2 I2 h => ?_)
  refine rl_eq X 699 dL_law_154 (by decide) h.1 ?_
  exact hk  _ h.2
def wL_1 (xs : Nat → Int32) (x y : Nat) (i : Int) (k : rc_M → Prop) (G : rc_G) (I : rc_M) : Prop :=
  wX7_splice G x (rl_sx xs (i + 1)) (rl_sx xs (i + 2)) (rl_sx xs (i + 3)) I (fun r1 I1 => wX8_splice G y (rl_sx xs (i + 1)) (rl_sx xs (i + 2)) (rl_sx xs (i + 3)) I1 (fun r2 I2 => r1 = r2 ∧ k I2))
set_option maxRecDepth 100000 in
set_option maxHeartbeats 4000000 in
theorem gL_1 {p : Program} {l : Launch} {e : Env} {s : State} {m : MethodId} {args : Array Value} {below : List Frame} {meth : Method} {c : Code} {cells slots : Nat} {Q : State → Prop} {G : rc_G} {A : Nat → Prop} {I : rc_M} {b L x y : Nat} {xs : Nat → Int32} {i : Int} (X : rc_X p s m args meth c cL_law 4 wsL_law RL G A) (S : rl_S b L xs A s) (hi : 0 ≤ i ∧ i + 4 ≤ L) (T7 : kX7 G x) (T8 : kX8 G y) (hc : cells ≤ room_1.cells ∧ slots ≤ room_1.slots) {k : rc_M → Prop} (hk : ∀ J : rc_M, k J → rc_g p l e room_1 s m args below meth c cells slots Q 4 G A 699 (rl_lv i b x y) [] J) (h : wL_1 xs x y i k G I) : rc_g p l e room_1 s m args below meth c cells slots Q 4 G A 159 (rl_lv i b x y) [] I := by
  unfold wL_1 at h
  refine rc_aload_n X dL_law_159 rfl 2 rfl ?_
  refine rc_aload_n X dL_law_160 rfl 1 rfl ?_
  refine rc_iload_n X dL_law_161 rfl 0 rfl ?_
  refine rc_iconst X dL_law_162 ?_
  refine rc_iadd X dL_law_163 ?_
  refine rl_sld X S dL_law_164 (by omega) ?_
  refine rc_aload_n X dL_law_165 rfl 1 rfl ?_
  refine rc_iload_n X dL_law_166 rfl 0 rfl ?_
  refine rc_iconst X dL_law_167 ?_
  refine rc_iadd X dL_law_168 ?_
  refine rl_sld X S dL_law_169 (by omega) ?_
  refine rc_aload_n X dL_law_170 rfl 1 rfl ?_
  refine rc_iload_n X dL_law_171 rfl 0 rfl ?_
  refine rc_iconst X dL_law_172 ?_
  refine rc_iadd X dL_law_173 ?_
  refine rl_sld X S dL_law_174 (by omega) ?_
  refine rc_cVI (rest := []) X (mX7_splice T7 h) gL_law_X7_splice rfl ⟨rfl, rfl⟩ dyX7_splice ⟨Nat.le_of_ble_eq_true rfl, Nat.le_of_ble_eq_true rfl⟩ (rc_recv X T7.1 rfl) rfl rfl (Nat.le_of_ble_eq_true rfl) dL_law_175 hc (fun r1 I1 h => ?_)
  refine rc_aload_n X dL_law_178 rfl 3 rfl ?_
  refine rc_aload_n X dL_law_179 rfl 1 rfl ?_
  refine rc_iload_n X dL_law_180 rfl 0 rfl ?_
  refine rc_iconst X dL_law_181 ?_
  refine rc_iadd X dL_law_182 ?_
  refine rl_sld X S dL_law_183 (by omega) ?_
  refine rc_aload_n X dL_law_184 rfl 1 rfl ?_
  refine rc_iload_n X dL_law_185 rfl 0 rfl ?_
  refine rc_iconst X dL_law_186 ?_
  refine rc_iadd X dL_law_187 ?_
  refine rl_sld X S dL_law_188 (by omega) ?_
  refine rc_aload_n X dL_law_189 rfl 1 rfl ?_
  refine rc_iload_n X dL_law_190 rfl 0 rfl ?_
  refine rc_iconst X dL_law_191 ?_
  refine rc_iadd X dL_law_192 ?_
  refine rl_sld X S dL_law_193 (by omega) ?_
  refine rc_cVI (rest := [.int (rc_o r1)]) X (mX8_splice T8 h) gL_law_X8_splice rfl ⟨rfl, rfl⟩ dyX8_splice ⟨Nat.le_of_ble_eq_true rfl, Nat.le_of_ble_eq_true rfl⟩ (rc_recv X T8.1 rfl) rfl rfl (Nat.le_of_ble_eq_true rfl) dL_law_194 hc (fun r2 I2 h => ?_)
  refine rl_eq X 699 dL_law_197 (by decide) h.1 ?_
  exact hk  _ h.2
def wL_2 (xs : Nat → Int32) (x y : Nat) (i : Int) (k : rc_M → Prop) (G : rc_G) (I : rc_M) : Prop :=
  wX7_mend G x (rl_sx xs (i + 1)) (rl_sx xs (i + 2)) I (fun r1 I1 => wX8_mend G y (rl_sx xs (i + 1)) (rl_sx xs (i + 2)) I1 (fun r2 I2 => r1 = r2 ∧ k I2))
set_option maxRecDepth 100000 in
set_option maxHeartbeats 4000000 in
theorem gL_2 {p : Program} {l : Launch} {e : Env} {s : State} {m : MethodId} {args : Array Value} {below : List Frame} {meth : Method} {c : Code} {cells slots : Nat} {Q : State → Prop} {G : rc_G} {A : Nat → Prop} {I : rc_M} {b L x y : Nat} {xs : Nat → Int32} {i : Int} (X : rc_X p s m args meth c cL_law 4 wsL_law RL G A) (S : rl_S b L xs A s) (hi : 0 ≤ i ∧ i + 4 ≤ L) (T7 : kX7 G x) (T8 : kX8 G y) (hc : cells ≤ room_1.cells ∧ slots ≤ room_1.slots) {k : rc_M → Prop} (hk : ∀ J : rc_M, k J → rc_g p l e room_1 s m args below meth c cells slots Q 4 G A 699 (rl_lv i b x y) [] J) (h : wL_2 xs x y i k G I) : rc_g p l e room_1 s m args below meth c cells slots Q 4 G A 202 (rl_lv i b x y) [] I := by
  unfold wL_2 at h
  refine rc_aload_n X dL_law_202 rfl 2 rfl ?_
  refine rc_aload_n X dL_law_203 rfl 1 rfl ?_
  refine rc_iload_n X dL_law_204 rfl 0 rfl ?_
  refine rc_iconst X dL_law_205 ?_
  refine rc_iadd X dL_law_206 ?_
  refine rl_sld X S dL_law_207 (by omega) ?_
  refine rc_aload_n X dL_law_208 rfl 1 rfl ?_
  refine rc_iload_n X dL_law_209 rfl 0 rfl ?_
  refine rc_iconst X dL_law_210 ?_
  refine rc_iadd X dL_law_211 ?_
  refine rl_sld X S dL_law_212 (by omega) ?_
  refine rc_cVI (rest := []) X (mX7_mend T7 h) gL_law_X7_mend rfl ⟨rfl, rfl⟩ dyX7_mend ⟨Nat.le_of_ble_eq_true rfl, Nat.le_of_ble_eq_true rfl⟩ (rc_recv X T7.1 rfl) rfl rfl (Nat.le_of_ble_eq_true rfl) dL_law_213 hc (fun r1 I1 h => ?_)
  refine rc_aload_n X dL_law_216 rfl 3 rfl ?_
  refine rc_aload_n X dL_law_217 rfl 1 rfl ?_
  refine rc_iload_n X dL_law_218 rfl 0 rfl ?_
  refine rc_iconst X dL_law_219 ?_
  refine rc_iadd X dL_law_220 ?_
  refine rl_sld X S dL_law_221 (by omega) ?_
  refine rc_aload_n X dL_law_222 rfl 1 rfl ?_
  refine rc_iload_n X dL_law_223 rfl 0 rfl ?_
  refine rc_iconst X dL_law_224 ?_
  refine rc_iadd X dL_law_225 ?_
  refine rl_sld X S dL_law_226 (by omega) ?_
  refine rc_cVI (rest := [.int (rc_o r1)]) X (mX8_mend T8 h) gL_law_X8_mend rfl ⟨rfl, rfl⟩ dyX8_mend ⟨Nat.le_of_ble_eq_true rfl, Nat.le_of_ble_eq_true rfl⟩ (rc_recv X T8.1 rfl) rfl rfl (Nat.le_of_ble_eq_true rfl) dL_law_227 hc (fun r2 I2 h => ?_)
  refine rl_eq X 699 dL_law_230 (by decide) h.1 ?_
  exact hk  _ h.2
def wL_3 (xs : Nat → Int32) (x y : Nat) (i : Int) (k : rc_M → Prop) (G : rc_G) (I : rc_M) : Prop :=
  wX7_reel G x (rl_sx xs (i + 1)) (rl_sx xs (i + 2)) I (fun r1 I1 => wX8_reel G y (rl_sx xs (i + 1)) (rl_sx xs (i + 2)) I1 (fun r2 I2 => r1 = r2 ∧ k I2))
set_option maxRecDepth 100000 in
set_option maxHeartbeats 4000000 in
theorem gL_3 {p : Program} {l : Launch} {e : Env} {s : State} {m : MethodId} {args : Array Value} {below : List Frame} {meth : Method} {c : Code} {cells slots : Nat} {Q : State → Prop} {G : rc_G} {A : Nat → Prop} {I : rc_M} {b L x y : Nat} {xs : Nat → Int32} {i : Int} (X : rc_X p s m args meth c cL_law 4 wsL_law RL G A) (S : rl_S b L xs A s) (hi : 0 ≤ i ∧ i + 4 ≤ L) (T7 : kX7 G x) (T8 : kX8 G y) (hc : cells ≤ room_1.cells ∧ slots ≤ room_1.slots) {k : rc_M → Prop} (hk : ∀ J : rc_M, k J → rc_g p l e room_1 s m args below meth c cells slots Q 4 G A 699 (rl_lv i b x y) [] J) (h : wL_3 xs x y i k G I) : rc_g p l e room_1 s m args below meth c cells slots Q 4 G A 235 (rl_lv i b x y) [] I := by
  unfold wL_3 at h
  refine rc_aload_n X dL_law_235 rfl 2 rfl ?_
  refine rc_aload_n X dL_law_236 rfl 1 rfl ?_
  refine rc_iload_n X dL_law_237 rfl 0 rfl ?_
  refine rc_iconst X dL_law_238 ?_
  refine rc_iadd X dL_law_239 ?_
  refine rl_sld X S dL_law_240 (by omega) ?_
  refine rc_aload_n X dL_law_241 rfl 1 rfl ?_
  refine rc_iload_n X dL_law_242 rfl 0 rfl ?_
  refine rc_iconst X dL_law_243 ?_
  refine rc_iadd X dL_law_244 ?_
  refine rl_sld X S dL_law_245 (by omega) ?_
  refine rc_cVI (rest := []) X (mX7_reel T7 h) gL_law_X7_reel rfl ⟨rfl, rfl⟩ dyX7_reel ⟨Nat.le_of_ble_eq_true rfl, Nat.le_of_ble_eq_true rfl⟩ (rc_recv X T7.1 rfl) rfl rfl (Nat.le_of_ble_eq_true rfl) dL_law_246 hc (fun r1 I1 h => ?_)
  refine rc_aload_n X dL_law_249 rfl 3 rfl ?_
  refine rc_aload_n X dL_law_250 rfl 1 rfl ?_
  refine rc_iload_n X dL_law_251 rfl 0 rfl ?_
  refine rc_iconst X dL_law_252 ?_
  refine rc_iadd X dL_law_253 ?_
  refine rl_sld X S dL_law_254 (by omega) ?_
  refine rc_aload_n X dL_law_255 rfl 1 rfl ?_
  refine rc_iload_n X dL_law_256 rfl 0 rfl ?_
  refine rc_iconst X dL_law_257 ?_
  refine rc_iadd X dL_law_258 ?_
  refine rl_sld X S dL_law_259 (by omega) ?_
  refine rc_cVI (rest := [.int (rc_o r1)]) X (mX8_reel T8 h) gL_law_X8_reel rfl ⟨rfl, rfl⟩ dyX8_reel ⟨Nat.le_of_ble_eq_true rfl, Nat.le_of_ble_eq_true rfl⟩ (rc_recv X T8.1 rfl) rfl rfl (Nat.le_of_ble_eq_true rfl) dL_law_260 hc (fun r2 I2 h => ?_)
  refine rl_eq X 699 dL_law_263 (by decide) h.1 ?_
  exact hk  _ h.2
def wL_4 (xs : Nat → Int32) (x y : Nat) (i : Int) (k : rc_M → Prop) (G : rc_G) (I : rc_M) : Prop :=
  ((rl_sx xs (i + 3)) = 0 → wX7_spliceAt G x (rl_sx xs (i + 1)) (rl_sx xs (i + 2)) 0 I (fun r1 I1 => wX8_spliceAt G y (rl_sx xs (i + 1)) (rl_sx xs (i + 2)) 0 I1 (fun r2 I2 => r1 = r2 ∧ k I2))) ∧ (¬ (rl_sx xs (i + 3)) = 0 → wX7_spliceAt G x (rl_sx xs (i + 1)) (rl_sx xs (i + 2)) 1 I (fun r3 I3 => wX8_spliceAt G y (rl_sx xs (i + 1)) (rl_sx xs (i + 2)) 1 I3 (fun r4 I4 => r3 = r4 ∧ k I4)))
set_option maxRecDepth 100000 in
set_option maxHeartbeats 4000000 in
theorem gL_4 {p : Program} {l : Launch} {e : Env} {s : State} {m : MethodId} {args : Array Value} {below : List Frame} {meth : Method} {c : Code} {cells slots : Nat} {Q : State → Prop} {G : rc_G} {A : Nat → Prop} {I : rc_M} {b L x y : Nat} {xs : Nat → Int32} {i : Int} (X : rc_X p s m args meth c cL_law 4 wsL_law RL G A) (S : rl_S b L xs A s) (hi : 0 ≤ i ∧ i + 4 ≤ L) (T7 : kX7 G x) (T8 : kX8 G y) (hc : cells ≤ room_1.cells ∧ slots ≤ room_1.slots) {k : rc_M → Prop} (hk : ∀ J : rc_M, k J → rc_g p l e room_1 s m args below meth c cells slots Q 4 G A 699 (rl_lv i b x y) [] J) (h : wL_4 xs x y i k G I) : rc_g p l e room_1 s m args below meth c cells slots Q 4 G A 268 (rl_lv i b x y) [] I := by
  unfold wL_4 at h
  refine rc_aload_n X dL_law_268 rfl 2 rfl ?_
  refine rc_aload_n X dL_law_269 rfl 1 rfl ?_
  refine rc_iload_n X dL_law_270 rfl 0 rfl ?_
  refine rc_iconst X dL_law_271 ?_
  refine rc_iadd X dL_law_272 ?_
  refine rl_sld X S dL_law_273 (by omega) ?_
  refine rc_aload_n X dL_law_274 rfl 1 rfl ?_
  refine rc_iload_n X dL_law_275 rfl 0 rfl ?_
  refine rc_iconst X dL_law_276 ?_
  refine rc_iadd X dL_law_277 ?_
  refine rl_sld X S dL_law_278 (by omega) ?_
  refine rc_aload_n X dL_law_279 rfl 1 rfl ?_
  refine rc_iload_n X dL_law_280 rfl 0 rfl ?_
  refine rc_iconst X dL_law_281 ?_
  refine rc_iadd X dL_law_282 ?_
  refine rl_sld X S dL_law_283 (by omega) ?_
  refine rc_if_eq X 291 dL_law_284 (by decide) (rc_Rx _) (fun cb => ?_) (fun cb => ?_)
  · have h := h.1 cb
    refine rc_iconst X dL_law_291 ?_
    refine rc_cVI (rest := []) X (mX7_spliceAt T7 h) gL_law_X7_spliceAt rfl ⟨rfl, rfl⟩ dyX7_spliceAt ⟨Nat.le_of_ble_eq_true rfl, Nat.le_of_ble_eq_true rfl⟩ (rc_recv X T7.1 rfl) rfl rfl (Nat.le_of_ble_eq_true rfl) dL_law_292 hc (fun r1 I1 h => ?_)
    refine rc_aload_n X dL_law_295 rfl 3 rfl ?_
    refine rc_aload_n X dL_law_296 rfl 1 rfl ?_
    refine rc_iload_n X dL_law_297 rfl 0 rfl ?_
    refine rc_iconst X dL_law_298 ?_
    refine rc_iadd X dL_law_299 ?_
    refine rl_sld X S dL_law_300 (by omega) ?_
    refine rc_aload_n X dL_law_301 rfl 1 rfl ?_
    refine rc_iload_n X dL_law_302 rfl 0 rfl ?_
    refine rc_iconst X dL_law_303 ?_
    refine rc_iadd X dL_law_304 ?_
    refine rl_sld X S dL_law_305 (by omega) ?_
    refine rc_aload_n X dL_law_306 rfl 1 rfl ?_
    refine rc_iload_n X dL_law_307 rfl 0 rfl ?_
    refine rc_iconst X dL_law_308 ?_
    refine rc_iadd X dL_law_309 ?_
    refine rl_sld X S dL_law_310 (by omega) ?_
    refine rc_if_eq X 318 dL_law_311 (by decide) (rc_Rx _) (fun _ => ?_) (fun cb2 => absurd cb cb2)
    refine rc_iconst X dL_law_318 ?_
    refine rc_cVI (rest := [.int (rc_o r1)]) X (mX8_spliceAt T8 h) gL_law_X8_spliceAt rfl ⟨rfl, rfl⟩ dyX8_spliceAt ⟨Nat.le_of_ble_eq_true rfl, Nat.le_of_ble_eq_true rfl⟩ (rc_recv X T8.1 rfl) rfl rfl (Nat.le_of_ble_eq_true rfl) dL_law_319 hc (fun r2 I2 h => ?_)
    refine rl_eq X 699 dL_law_322 (by decide) h.1 ?_
    exact hk  _ h.2
  · have h := h.2 cb
    refine rc_iconst X dL_law_287 ?_
    refine rc_goto X 292 dL_law_288 (by decide) ?_
    refine rc_cVI (rest := []) X (mX7_spliceAt T7 h) gL_law_X7_spliceAt rfl ⟨rfl, rfl⟩ dyX7_spliceAt ⟨Nat.le_of_ble_eq_true rfl, Nat.le_of_ble_eq_true rfl⟩ (rc_recv X T7.1 rfl) rfl rfl (Nat.le_of_ble_eq_true rfl) dL_law_292 hc (fun r3 I3 h => ?_)
    refine rc_aload_n X dL_law_295 rfl 3 rfl ?_
    refine rc_aload_n X dL_law_296 rfl 1 rfl ?_
    refine rc_iload_n X dL_law_297 rfl 0 rfl ?_
    refine rc_iconst X dL_law_298 ?_
    refine rc_iadd X dL_law_299 ?_
    refine rl_sld X S dL_law_300 (by omega) ?_
    refine rc_aload_n X dL_law_301 rfl 1 rfl ?_
    refine rc_iload_n X dL_law_302 rfl 0 rfl ?_
    refine rc_iconst X dL_law_303 ?_
    refine rc_iadd X dL_law_304 ?_
    refine rl_sld X S dL_law_305 (by omega) ?_
    refine rc_aload_n X dL_law_306 rfl 1 rfl ?_
    refine rc_iload_n X dL_law_307 rfl 0 rfl ?_
    refine rc_iconst X dL_law_308 ?_
    refine rc_iadd X dL_law_309 ?_
    refine rl_sld X S dL_law_310 (by omega) ?_
    refine rc_if_eq X 318 dL_law_311 (by decide) (rc_Rx _) (fun cb2 => absurd cb2 cb) (fun _ => ?_)
    refine rc_iconst X dL_law_314 ?_
    refine rc_goto X 319 dL_law_315 (by decide) ?_
    refine rc_cVI (rest := [.int (rc_o r3)]) X (mX8_spliceAt T8 h) gL_law_X8_spliceAt rfl ⟨rfl, rfl⟩ dyX8_spliceAt ⟨Nat.le_of_ble_eq_true rfl, Nat.le_of_ble_eq_true rfl⟩ (rc_recv X T8.1 rfl) rfl rfl (Nat.le_of_ble_eq_true rfl) dL_law_319 hc (fun r4 I4 h => ?_)
    refine rl_eq X 699 dL_law_322 (by decide) h.1 ?_
    exact hk  _ h.2
def wL_5 (xs : Nat → Int32) (x y : Nat) (i : Int) (k : rc_M → Prop) (G : rc_G) (I : rc_M) : Prop :=
  wX7_set G x (rl_sx xs (i + 1)) (rl_sx xs (i + 2)) I (fun r1 I1 => wX8_set G y (rl_sx xs (i + 1)) (rl_sx xs (i + 2)) I1 (fun r2 I2 => r1 = r2 ∧ k I2))
set_option maxRecDepth 100000 in
set_option maxHeartbeats 4000000 in
theorem gL_5 {p : Program} {l : Launch} {e : Env} {s : State} {m : MethodId} {args : Array Value} {below : List Frame} {meth : Method} {c : Code} {cells slots : Nat} {Q : State → Prop} {G : rc_G} {A : Nat → Prop} {I : rc_M} {b L x y : Nat} {xs : Nat → Int32} {i : Int} (X : rc_X p s m args meth c cL_law 4 wsL_law RL G A) (S : rl_S b L xs A s) (hi : 0 ≤ i ∧ i + 4 ≤ L) (T7 : kX7 G x) (T8 : kX8 G y) (hc : cells ≤ room_1.cells ∧ slots ≤ room_1.slots) {k : rc_M → Prop} (hk : ∀ J : rc_M, k J → rc_g p l e room_1 s m args below meth c cells slots Q 4 G A 699 (rl_lv i b x y) [] J) (h : wL_5 xs x y i k G I) : rc_g p l e room_1 s m args below meth c cells slots Q 4 G A 327 (rl_lv i b x y) [] I := by
  unfold wL_5 at h
  refine rc_aload_n X dL_law_327 rfl 2 rfl ?_
  refine rc_aload_n X dL_law_328 rfl 1 rfl ?_
  refine rc_iload_n X dL_law_329 rfl 0 rfl ?_
  refine rc_iconst X dL_law_330 ?_
  refine rc_iadd X dL_law_331 ?_
  refine rl_sld X S dL_law_332 (by omega) ?_
  refine rc_aload_n X dL_law_333 rfl 1 rfl ?_
  refine rc_iload_n X dL_law_334 rfl 0 rfl ?_
  refine rc_iconst X dL_law_335 ?_
  refine rc_iadd X dL_law_336 ?_
  refine rl_sld X S dL_law_337 (by omega) ?_
  refine rc_cVI (rest := []) X (mX7_set T7 h) gL_law_X7_set rfl ⟨rfl, rfl⟩ dyX7_set ⟨Nat.le_of_ble_eq_true rfl, Nat.le_of_ble_eq_true rfl⟩ (rc_recv X T7.1 rfl) rfl rfl (Nat.le_of_ble_eq_true rfl) dL_law_338 hc (fun r1 I1 h => ?_)
  refine rc_aload_n X dL_law_341 rfl 3 rfl ?_
  refine rc_aload_n X dL_law_342 rfl 1 rfl ?_
  refine rc_iload_n X dL_law_343 rfl 0 rfl ?_
  refine rc_iconst X dL_law_344 ?_
  refine rc_iadd X dL_law_345 ?_
  refine rl_sld X S dL_law_346 (by omega) ?_
  refine rc_aload_n X dL_law_347 rfl 1 rfl ?_
  refine rc_iload_n X dL_law_348 rfl 0 rfl ?_
  refine rc_iconst X dL_law_349 ?_
  refine rc_iadd X dL_law_350 ?_
  refine rl_sld X S dL_law_351 (by omega) ?_
  refine rc_cVI (rest := [.int (rc_o r1)]) X (mX8_set T8 h) gL_law_X8_set rfl ⟨rfl, rfl⟩ dyX8_set ⟨Nat.le_of_ble_eq_true rfl, Nat.le_of_ble_eq_true rfl⟩ (rc_recv X T8.1 rfl) rfl rfl (Nat.le_of_ble_eq_true rfl) dL_law_352 hc (fun r2 I2 h => ?_)
  refine rl_eq X 699 dL_law_355 (by decide) h.1 ?_
  exact hk  _ h.2
def wL_6 (xs : Nat → Int32) (x y : Nat) (i : Int) (k : rc_M → Prop) (G : rc_G) (I : rc_M) : Prop :=
  wX7_append G x (rl_sx xs (i + 1)) I (fun r1 I1 => wX8_append G y (rl_sx xs (i + 1)) I1 (fun r2 I2 => r1 = r2 ∧ k I2))
set_option maxRecDepth 100000 in
set_option maxHeartbeats 4000000 in
theorem gL_6 {p : Program} {l : Launch} {e : Env} {s : State} {m : MethodId} {args : Array Value} {below : List Frame} {meth : Method} {c : Code} {cells slots : Nat} {Q : State → Prop} {G : rc_G} {A : Nat → Prop} {I : rc_M} {b L x y : Nat} {xs : Nat → Int32} {i : Int} (X : rc_X p s m args meth c cL_law 4 wsL_law RL G A) (S : rl_S b L xs A s) (hi : 0 ≤ i ∧ i + 4 ≤ L) (T7 : kX7 G x) (T8 : kX8 G y) (hc : cells ≤ room_1.cells ∧ slots ≤ room_1.slots) {k : rc_M → Prop} (hk : ∀ J : rc_M, k J → rc_g p l e room_1 s m args below meth c cells slots Q 4 G A 699 (rl_lv i b x y) [] J) (h : wL_6 xs x y i k G I) : rc_g p l e room_1 s m args below meth c cells slots Q 4 G A 360 (rl_lv i b x y) [] I := by
  unfold wL_6 at h
  refine rc_aload_n X dL_law_360 rfl 2 rfl ?_
  refine rc_aload_n X dL_law_361 rfl 1 rfl ?_
  refine rc_iload_n X dL_law_362 rfl 0 rfl ?_
  refine rc_iconst X dL_law_363 ?_
  refine rc_iadd X dL_law_364 ?_
  refine rl_sld X S dL_law_365 (by omega) ?_
  refine rc_cVI (rest := []) X (mX7_append T7 h) gL_law_X7_append rfl ⟨rfl, rfl⟩ dyX7_append ⟨Nat.le_of_ble_eq_true rfl, Nat.le_of_ble_eq_true rfl⟩ (rc_recv X T7.1 rfl) rfl rfl (Nat.le_of_ble_eq_true rfl) dL_law_366 hc (fun r1 I1 h => ?_)
  refine rc_aload_n X dL_law_369 rfl 3 rfl ?_
  refine rc_aload_n X dL_law_370 rfl 1 rfl ?_
  refine rc_iload_n X dL_law_371 rfl 0 rfl ?_
  refine rc_iconst X dL_law_372 ?_
  refine rc_iadd X dL_law_373 ?_
  refine rl_sld X S dL_law_374 (by omega) ?_
  refine rc_cVI (rest := [.int (rc_o r1)]) X (mX8_append T8 h) gL_law_X8_append rfl ⟨rfl, rfl⟩ dyX8_append ⟨Nat.le_of_ble_eq_true rfl, Nat.le_of_ble_eq_true rfl⟩ (rc_recv X T8.1 rfl) rfl rfl (Nat.le_of_ble_eq_true rfl) dL_law_375 hc (fun r2 I2 h => ?_)
  refine rl_eq X 699 dL_law_378 (by decide) h.1 ?_
  exact hk  _ h.2
def wL_7 (xs : Nat → Int32) (x y : Nat) (i : Int) (k : rc_M → Prop) (G : rc_G) (I : rc_M) : Prop :=
  wX7_clearText G x I (fun r1 I1 => wX8_clearText G y I1 (fun r2 I2 => r1 = r2 ∧ k I2))
set_option maxRecDepth 100000 in
set_option maxHeartbeats 4000000 in
theorem gL_7 {p : Program} {l : Launch} {e : Env} {s : State} {m : MethodId} {args : Array Value} {below : List Frame} {meth : Method} {c : Code} {cells slots : Nat} {Q : State → Prop} {G : rc_G} {A : Nat → Prop} {I : rc_M} {b L x y : Nat} {xs : Nat → Int32} {i : Int} (X : rc_X p s m args meth c cL_law 4 wsL_law RL G A) (S : rl_S b L xs A s) (hi : 0 ≤ i ∧ i + 4 ≤ L) (T7 : kX7 G x) (T8 : kX8 G y) (hc : cells ≤ room_1.cells ∧ slots ≤ room_1.slots) {k : rc_M → Prop} (hk : ∀ J : rc_M, k J → rc_g p l e room_1 s m args below meth c cells slots Q 4 G A 699 (rl_lv i b x y) [] J) (h : wL_7 xs x y i k G I) : rc_g p l e room_1 s m args below meth c cells slots Q 4 G A 383 (rl_lv i b x y) [] I := by
  unfold wL_7 at h
  refine rc_aload_n X dL_law_383 rfl 2 rfl ?_
  refine rc_cVI (rest := []) X (mX7_clearText T7 h) gL_law_X7_clearText rfl ⟨rfl, rfl⟩ dyX7_clearText ⟨Nat.le_of_ble_eq_true rfl, Nat.le_of_ble_eq_true rfl⟩ (rc_recv X T7.1 rfl) rfl rfl (Nat.le_of_ble_eq_true rfl) dL_law_384 hc (fun r1 I1 h => ?_)
  refine rc_aload_n X dL_law_387 rfl 3 rfl ?_
  refine rc_cVI (rest := [.int (rc_o r1)]) X (mX8_clearText T8 h) gL_law_X8_clearText rfl ⟨rfl, rfl⟩ dyX8_clearText ⟨Nat.le_of_ble_eq_true rfl, Nat.le_of_ble_eq_true rfl⟩ (rc_recv X T8.1 rfl) rfl rfl (Nat.le_of_ble_eq_true rfl) dL_law_388 hc (fun r2 I2 h => ?_)
  refine rl_eq X 699 dL_law_391 (by decide) h.1 ?_
  exact hk  _ h.2
def wL_8 (xs : Nat → Int32) (x y : Nat) (i : Int) (k : rc_M → Prop) (G : rc_G) (I : rc_M) : Prop :=
  wX7_faultPosition G x I (fun r1 I1 => wX8_faultPosition G y I1 (fun r2 I2 => r1 = r2 ∧ k I2))
set_option maxRecDepth 100000 in
set_option maxHeartbeats 4000000 in
theorem gL_8 {p : Program} {l : Launch} {e : Env} {s : State} {m : MethodId} {args : Array Value} {below : List Frame} {meth : Method} {c : Code} {cells slots : Nat} {Q : State → Prop} {G : rc_G} {A : Nat → Prop} {I : rc_M} {b L x y : Nat} {xs : Nat → Int32} {i : Int} (X : rc_X p s m args meth c cL_law 4 wsL_law RL G A) (S : rl_S b L xs A s) (hi : 0 ≤ i ∧ i + 4 ≤ L) (T7 : kX7 G x) (T8 : kX8 G y) (hc : cells ≤ room_1.cells ∧ slots ≤ room_1.slots) {k : rc_M → Prop} (hk : ∀ J : rc_M, k J → rc_g p l e room_1 s m args below meth c cells slots Q 4 G A 699 (rl_lv i b x y) [] J) (h : wL_8 xs x y i k G I) : rc_g p l e room_1 s m args below meth c cells slots Q 4 G A 396 (rl_lv i b x y) [] I := by
  unfold wL_8 at h
  refine rc_aload_n X dL_law_396 rfl 2 rfl ?_
  refine rc_cVI (rest := []) X (mX7_faultPosition T7 h) gL_law_X7_faultPosition rfl ⟨rfl, rfl⟩ dyX7_faultPosition ⟨Nat.le_of_ble_eq_true rfl, Nat.le_of_ble_eq_true rfl⟩ (rc_recv X T7.1 rfl) rfl rfl (Nat.le_of_ble_eq_true rfl) dL_law_397 hc (fun r1 I1 h => ?_)
  refine rc_aload_n X dL_law_400 rfl 3 rfl ?_
  refine rc_cVI (rest := [.int (rc_o r1)]) X (mX8_faultPosition T8 h) gL_law_X8_faultPosition rfl ⟨rfl, rfl⟩ dyX8_faultPosition ⟨Nat.le_of_ble_eq_true rfl, Nat.le_of_ble_eq_true rfl⟩ (rc_recv X T8.1 rfl) rfl rfl (Nat.le_of_ble_eq_true rfl) dL_law_401 hc (fun r2 I2 h => ?_)
  refine rl_eq X 699 dL_law_404 (by decide) h.1 ?_
  exact hk  _ h.2
def wL_9 (xs : Nat → Int32) (x y : Nat) (i : Int) (k : rc_M → Prop) (G : rc_G) (I : rc_M) : Prop :=
  wX7_faultDepth G x I (fun r1 I1 => wX8_faultDepth G y I1 (fun r2 I2 => r1 = r2 ∧ k I2))
set_option maxRecDepth 100000 in
set_option maxHeartbeats 4000000 in
theorem gL_9 {p : Program} {l : Launch} {e : Env} {s : State} {m : MethodId} {args : Array Value} {below : List Frame} {meth : Method} {c : Code} {cells slots : Nat} {Q : State → Prop} {G : rc_G} {A : Nat → Prop} {I : rc_M} {b L x y : Nat} {xs : Nat → Int32} {i : Int} (X : rc_X p s m args meth c cL_law 4 wsL_law RL G A) (S : rl_S b L xs A s) (hi : 0 ≤ i ∧ i + 4 ≤ L) (T7 : kX7 G x) (T8 : kX8 G y) (hc : cells ≤ room_1.cells ∧ slots ≤ room_1.slots) {k : rc_M → Prop} (hk : ∀ J : rc_M, k J → rc_g p l e room_1 s m args below meth c cells slots Q 4 G A 699 (rl_lv i b x y) [] J) (h : wL_9 xs x y i k G I) : rc_g p l e room_1 s m args below meth c cells slots Q 4 G A 409 (rl_lv i b x y) [] I := by
  unfold wL_9 at h
  refine rc_aload_n X dL_law_409 rfl 2 rfl ?_
  refine rc_cVI (rest := []) X (mX7_faultDepth T7 h) gL_law_X7_faultDepth rfl ⟨rfl, rfl⟩ dyX7_faultDepth ⟨Nat.le_of_ble_eq_true rfl, Nat.le_of_ble_eq_true rfl⟩ (rc_recv X T7.1 rfl) rfl rfl (Nat.le_of_ble_eq_true rfl) dL_law_410 hc (fun r1 I1 h => ?_)
  refine rc_aload_n X dL_law_413 rfl 3 rfl ?_
  refine rc_cVI (rest := [.int (rc_o r1)]) X (mX8_faultDepth T8 h) gL_law_X8_faultDepth rfl ⟨rfl, rfl⟩ dyX8_faultDepth ⟨Nat.le_of_ble_eq_true rfl, Nat.le_of_ble_eq_true rfl⟩ (rc_recv X T8.1 rfl) rfl rfl (Nat.le_of_ble_eq_true rfl) dL_law_414 hc (fun r2 I2 h => ?_)
  refine rl_eq X 699 dL_law_417 (by decide) h.1 ?_
  exact hk  _ h.2
