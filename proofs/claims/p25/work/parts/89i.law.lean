/-! ===== the law ===== -/
theorem nS_c {u v : rv} (h : ∀ j : Int, 149 ≤ j → u j = v j) (V : tV u) (n : nS v) : nS u := by
  obtain ⟨W, z162, R, O⟩ := n
  have q165 := W.2.1.2.2.1
  refine ⟨V, by rw [h _ (by decide)]; exact z162, ?_, ?_⟩
  · unfold nR at *
    rw [h 149 (by decide), h 164 (by decide), h 166 (by decide), h 167 (by decide), h 168 (by decide), h 169 (by decide), h 170 (by decide), h 191 (by decide), h 192 (by decide), h 195 (by decide), h 196 (by decide)]
    exact R
  · unfold nO at *
    rw [h 163 (by decide), h 165 (by decide), h 149 (by decide), h (191 + 4 * v 165) (by omega), h (192 + 4 * v 165) (by omega), h (191 + 4 * (1 - v 165)) (by omega), h (193 + 4 * (1 - v 165)) (by omega)]
    exact O
theorem nS_open {v : rv} (V : tV v) (h : v 149 ≠ 0) : nS (tOpen v) ∧ tOpen v 164 = 0 ∧ tOpen v 166 = 0 ∧ tOpen v 169 = 0 := by
  have W := tV_open V.1 h
  have s1 := V.1.2.1
  obtain ⟨lo, hi, _, _, C⟩ := tOpen_spec v
  obtain ⟨a162, a163, a164, a165, a166, a167, a168, a169, a170, a171, a172, a173, a174, a191, a192, a193, a194, _⟩ := tOp1_hi (v := v)
  have e162 := (hi 162 (by decide) (by decide) (by decide)).trans a162
  have e163 := (hi 163 (by decide) (by decide) (by decide)).trans a163
  have e164 := (hi 164 (by decide) (by decide) (by decide)).trans a164
  have e166 := (hi 166 (by decide) (by decide) (by decide)).trans a166
  have e167 := (hi 167 (by decide) (by decide) (by decide)).trans a167
  have e168 := (hi 168 (by decide) (by decide) (by decide)).trans a168
  have e169 := (hi 169 (by decide) (by decide) (by decide)).trans a169
  have e191 := (hi 191 (by decide) (by decide) (by decide)).trans a191
  have e192 := (hi 192 (by decide) (by decide) (by decide)).trans a192
  have e149 := lo 149 (by decide)
  have r3 := rr_or 3
  have r0 := rr_or 0
  have r1 := rr_or 1
  refine ⟨⟨W, e162, ?_, fun q => absurd e163 q⟩, e164, e166, e169⟩
  unfold nR
  rw [e164, e166, e167, e168, e169, e191, e192, e149]
  rcases C with ⟨c1, c2, c3, c4⟩ | ⟨c1, c2, c3, c4⟩
  · rw [c2, c3, c4]; omega
  · rw [c2, c3, c4]; omega
/-- what holds while shows go on -/
def LI (G : rc_G) (x : Nat) (I : rc_M) (v : rv) : Prop := kX7 G x ∧ rc_is G (x + 89) (rc_sI G 8) ∧ eA I (x + 1) v ∧ nS v ∧ S0 G x I ∧ I (x + 83) 1 ≤ 0 ∧ I (x + 89) 0 = v 141
theorem LI_c {G : rc_G} {x : Nat} {I J : rc_M} {v w : rv} (l : LI G x I v) (E : eA J (x + 1) w) (n : nS w) (F : cF x I J) (h : w 141 = v 141) : LI G x J w := by
  obtain ⟨t1, t3, _, _, z, z1, q⟩ := l
  exact ⟨t1, t3, E, n, S0_c (F _ (by omega)) z, by rw [F _ (by omega)]; exact z1, by rw [F _ (by omega), h]; exact q⟩
theorem tMn_c {v : rv} {i z : Int} (V : tV v) (c : 0 ≤ i ∧ i < v 0) : 0 ≤ v (2 + 14 * i) ∧ v (2 + 14 * i) ≤ 6 := (V.1.2.2.2.2 i c.1 c.2).2.1
/-- the end: what is saved comes back -/
theorem g_end {G : rc_G} {cl : Nat} {xs : Nat → Int32} {L x : Nat} {x5 x7 k : Int} {I : rc_M} {v : rv} {k354 : rc_G → Nat → Int → Int → Int → Int → rc_M → Prop} (l : LI G x I v) (hcl : cl ≤ 50) (h5 : v 0 = x5) (h7 : v 149 = x7) (r5 : 1 ≤ x5 ∧ x5 ≤ 10) (r7 : 1 ≤ x7 ∧ x7 ≤ 12) (hk : k = 14) : wL_law_354 G cl xs L x k354 x5 1 x7 k I := by
  obtain ⟨t1, t3, E, n, z, z1, q⟩ := l
  have V := n.1
  have sv := V.1.2.2.2.1.1
  unfold wL_law_354
  refine ⟨R_of (by omega), fun _ => ?_, fun y => absurd (by omega) y⟩
  refine c_sum t1 E V (fun I1 E1 F1 => ⟨R_of (by decide), by decide, by omega, ?_⟩)
  refine c_save (n := 1) E1 V (Or.inr rfl) t3.1 (Or.inl (by rw [F1 _ (by omega)]; exact z1)) (fun G9 J zr le kz hz j83 jo jb Ez => ?_)
  have t9 := kX7_le le t1
  have EJ : eA J (x + 1) v := eA_far V.1 (fun a a0 a1 => jb a (by omega) (by omega)) E1
  refine ⟨R_of (by omega), R_of (by omega), h5, ?_⟩
  have lo := (tOpen_spec v).1
  refine c_begin EJ V (fun _ K EK VK FK => ⟨R_of (by omega), R_of (by omega), h7, ?_⟩) (fun y => absurd y (by omega))
  have o0 : tOpen v 0 = v 0 := lo 0 (by decide)
  have i0 : (0 : Int) ≤ 0 ∧ 0 < tOpen v 0 := ⟨by decide, by omega⟩
  have cc := tMn_c (z := 0) VK i0
  refine c_mend t9 EK VK i0 (R_of (by decide)) (fun _ M EM VM FM uo tn => ⟨R_of (by omega), by omega, ?_⟩) (fun y => absurd (by decide) y)
  have ok : okS 0 1 := ⟨by decide, by decide, by decide⟩
  have u141 := uo (141 + 0) (by omega)
  refine c_set EM VM rc_R0 (R_of (by decide)) (fun _ P EP VP FP => ?_) (fun _ y => absurd ok y) (fun y => absurd (by decide) y)
  have FF : cF x J P := cF_t (cF_t FK FM) FP
  have p89 : P (x + 89) 0 = v 141 := by rw [FF _ (by omega), jb _ (by omega) (by omega), F1 _ (by omega)]; exact q
  have p141 : tOpen v (141 + 0) = v 141 := lo _ (by decide)
  rw [u141, p141]
  refine ⟨R_of (by omega), by rw [p89]; exact R_of (by omega), by rw [p89], by decide, ?_⟩
  have p83 : P (x + 83) 1 = (zr : Int) := by rw [FF _ (by omega)]; exact j83
  have ez : (P (x + 83) 1).toNat = zr := by rw [p83]; exact Int.toNat_natCast zr
  refine c_restore (w := v) (n := 1) (Or.inr rfl) (by omega) (by omega) (by rw [ez]; exact kz) V (by rw [ez]; exact eA_far V.1 (fun a a0 a1 => FF a (by omega)) Ez) (fun T ET FT => ⟨R_of (by omega), R_of (by omega), h5, ?_⟩)
  exact c_sum t9 ET V (fun S ES FS => ⟨rfl, rfl⟩)
theorem g_479 {G : rc_G} {cl : Nat} {xs : Nat → Int32} {L x : Nat} {x5 x7 k z : Int} {I : rc_M} {v : rv} {k354 : rc_G → Nat → Int → Int → Int → Int → rc_M → Prop} (l : LI G x I v) (h5 : v 0 = x5) (r5 : 1 ≤ x5 ∧ x5 ≤ 10) (hz : 0 ≤ z ∧ z < 2147483648)
    (H : ∀ (J : rc_M) (w : rv), LI G x J w → w 0 = v 0 → w 149 = v 149 → w 164 = v 164 → k354 G cl x5 1 x7 (k + 1) J) : wL_law_479 G cl xs L x k354 x5 1 x7 k z I := by
  obtain ⟨t1, t3, E, n, _, _, _⟩ := id l
  have V := n.1
  unfold wL_law_479 wL_law_581 wL_law_588
  refine ⟨hz, R_of (by omega), fun _ => H I v l rfl rfl rfl, fun _ => ⟨R_of (by decide), by decide, hz, tS_R 10 hz, ⟨by omega, by omega⟩, hz, tS_R 13 hz, ?_⟩⟩
  have a0 : 0 ≤ tS z 10 % x5 := Int.emod_nonneg _ (by omega)
  have a1 : tS z 10 % x5 < x5 := Int.emod_lt_of_pos _ (by omega)
  obtain ⟨i, hi⟩ : ∃ i, i = tS z 10 % x5 := ⟨_, rfl⟩
  rw [← hi] at a0 a1 ⊢
  have c : 0 ≤ i ∧ i < v 0 := ⟨a0, by omega⟩
  have cc := tMn_c (z := 0) V c
  refine c_mend t1 E V c (R_of (by omega)) (fun _ M EM VM FM uo tn => ⟨R_of (by omega), by omega, hz, tS_R 10 hz, ⟨by omega, by omega⟩, ?_⟩) (fun y => absurd (by omega) y)
  generalize hu : rc_u (tMd v i (1 + tS z 13 % 10) (v (2 + 14 * i)).toNat) (2 + 14 * i) (tMn v i (1 + tS z 13 % 10) (v (2 + 14 * i)).toNat) = u at *
  have uh : ∀ j : Int, 149 ≤ j → u j = v j := fun j hj => uo j (by have := V.1.1; omega)
  have u0 : u 0 = v 0 := uo 0 (by omega)
  have u141 : u 141 = v 141 := uo 141 (by have := V.1.1; omega)
  have nu := nS_c uh VM n
  have lM := LI_c l EM nu FM u141
  have cu : 0 ≤ i ∧ i < u 0 := by omega
  have c2 := tMn_c (z := 0) VM cu
  refine c_reel t1 EM VM (R_of (by omega)) (R_of (by decide)) (fun _ y => absurd y (by decide)) (fun _ _ => ⟨R_of (by omega), by omega, hz, tS_R 10 hz, ⟨by omega, by omega⟩, ?_⟩) (fun _ y => absurd y (by decide)) (fun _ y => absurd y (by decide)) (fun y => absurd cu y)
  refine c_reel t1 EM VM (R_of (by omega)) (R_of (by decide)) (fun _ y => absurd y (by decide)) (fun _ _ => ⟨R_of (by omega), fun _ => ?_, fun y6 => ⟨hz, tS_R 10 hz, ⟨by omega, by omega⟩, hz, tS_R 16 hz, ?_⟩⟩) (fun _ y => absurd y (by decide)) (fun _ y => absurd y (by decide)) (fun y => absurd cu y)
  · exact H M u lM u0 (uh _ (by decide)) (uh _ (by decide))
  · have wl := (VM.1.2.2.2.2 i cu.1 cu.2).1
    refine c_splice t1 EM VM cu (R_of (by omega)) (R_of (by decide)) (fun _ _ m hm _ J EJ VJ FJ => ⟨R_of (by omega), by omega, ?_⟩) (fun _ _ m hm h6 _ _ J EJ VJ FJ wo w2 _ _ _ => ⟨R_of (by omega), by omega, ?_⟩) (fun _ _ y => absurd y y6) (fun y => absurd y (by omega))
    · have wo : ∀ j : Int, (j = 0 ∨ 141 ≤ j) → rc_u u (4 + 14 * i + 2 * m) 9 j = u j := fun j hj => rc_u_n _ _ (by have := V.1.1; omega)
      have nw := nS_c (fun j hj => wo j (by omega)) VJ nu
      exact H J _ (LI_c lM EJ nw FJ (wo _ (by omega))) (by rw [wo _ (by omega)]; exact u0) (by rw [wo _ (by omega)]; exact uh _ (by decide)) (by rw [wo _ (by omega)]; exact uh _ (by decide))
    · have wo2 : ∀ j : Int, (j = 0 ∨ 141 ≤ j) → tSp u i m (1 + tS z 16 % 99) 9 j = u j := fun j hj => wo j (by have := V.1.1; omega)
      have nw := nS_c (fun j hj => wo2 j (by omega)) VJ nu
      exact H J _ (LI_c lM EJ nw FJ (wo2 _ (by omega))) (by rw [wo2 _ (by omega)]; exact u0) (by rw [wo2 _ (by omega)]; exact uh _ (by decide)) (by rw [wo2 _ (by omega)]; exact uh _ (by decide))
theorem g_418 {G : rc_G} {cl : Nat} {xs : Nat → Int32} {L x : Nat} {x5 x7 k z : Int} {I : rc_M} {v : rv} {k354 : rc_G → Nat → Int → Int → Int → Int → rc_M → Prop} (l : LI G x I v) (h5 : v 0 = x5) (r5 : 1 ≤ x5 ∧ x5 ≤ 10) (h7 : v 149 = x7) (r7 : 1 ≤ x7 ∧ x7 ≤ 12) (hz : 0 ≤ z ∧ z < 2147483648) (t0 : 0 ≤ v 164)
    (H : ∀ (J : rc_M) (w : rv), LI G x J w → w 0 = v 0 → w 149 = v 149 → w 164 ≤ v 164 → k354 G cl x5 1 x7 (k + 1) J) : wL_law_418 G cl xs L x k354 x5 x7 k z I := by
  obtain ⟨t1, t3, E, n, _, _, _⟩ := id l
  have V := n.1
  unfold wL_law_418
  refine ⟨hz, R_of (by omega), fun _ => g_479 l h5 r5 hz (fun J w a b c d => H J w a b c (by omega)), fun _ => ⟨by decide, ?_⟩⟩
  have lo := (tOpen_spec v).1
  have o149 := lo 149 (by decide)
  have o0 := lo 0 (by decide)
  refine c_begin E V (fun ne K EK VK FK => ⟨R_of (by omega), R_of (by omega), h7, ?_⟩) (fun y => absurd y (by omega))
  obtain ⟨n2, e164, e166, e169⟩ := nS_open V ne
  have lK := LI_c l EK n2 FK (lo 141 (by decide))
  refine c_t1 EK ?_
  rw [e164]
  refine ⟨rc_R0, rfl, c_t3 EK ?_⟩
  rw [e166]
  refine ⟨rc_R0, rfl, c_t6 EK ?_⟩
  rw [e169]
  exact ⟨rc_R0, rfl, g_479 lK (by omega) r5 hz (fun J w a b c d => H J w a (by omega) (by omega) (by omega))⟩
theorem g_354 {xs : Nat → Int32} {L x : Nat} {x5 x7 : Int} (r5 : 1 ≤ x5 ∧ x5 ≤ 10) (r7 : 1 ≤ x7 ∧ x7 ≤ 12) : ∀ (d : Nat) (k : Int) (G : rc_G) (cl : Nat) (I : rc_M) (v : rv), k + d = 14 → 0 ≤ k → (cl : Int) = k → LI G x I v → v 0 = x5 → v 149 = x7 → v 164 ≤ 60 * k → rL_law_354 xs L x (d + 1) G cl x5 1 x7 k I := by
  intro d
  induction d with
  | zero =>
    intro k G cl I v hd k0 hc l h5 h7 ht
    show wL_law_354 G cl xs L x (rL_law_354 xs L x 0) x5 1 x7 k I
    exact g_end l (by omega) h5 h7 r5 r7 (by omega)
  | succ d ih =>
    intro k G cl I v hd k0 hc l h5 h7 ht
    show wL_law_354 G cl xs L x (rL_law_354 xs L x (d + 1)) x5 1 x7 k I
    obtain ⟨t1, t3, E, n, z, z1, q⟩ := id l
    have V := n.1
    have hz := tC_R xs L (13 + k)
    unfold wL_law_354
    generalize tC xs L (13 + k) = y at *
    refine ⟨R_of (by omega), fun q => absurd q (by omega), fun _ => ⟨R_of (by decide), by decide, ⟨by omega, by omega⟩, hz, tS_R 4 hz, by omega, ?_⟩⟩
    refine g_goes t1 t3.1 E n (by omega) ⟨by omega, by omega⟩ (by omega) z (fun G1 J le EJ ZJ j1 jb => ⟨R_of (by decide), by decide, ?_⟩)
    obtain ⟨nw, cw, tw⟩ := n_pass (1 + tS y 4 % 60).toNat n
    have tl := tPassN_le (1 + tS y 4 % 60).toNat v
    have lw : LI G1 x J (tPass (1 + tS y 4 % 60).toNat v) := ⟨kX7_le le t1, rs_iI le t3, EJ, nw, ZJ, by rw [j1]; exact z1, by rw [jb _ (by omega) (by omega), cw 141 (by omega)]; exact q⟩
    have w0 := cw 0 (by omega)
    have w149 := cw 149 (by omega)
    have tp : 0 ≤ tPass (1 + tS y 4 % 60).toNat v 164 := by have := nw.2.2.1.2.2.1; omega
    have ht2 : tPass (1 + tS y 4 % 60).toNat v 164 ≤ 60 * (k + 1) := by omega
    clear tw tl cw
    generalize tPass (1 + tS y 4 % 60).toNat v = w at *
    refine g_sound lw.1 EJ nw (by omega) (by omega) ⟨R_of (by decide), by decide, ⟨by omega, by omega⟩, R_of (by omega), fun _ => ?_, fun _ => ?_⟩
    · exact g_418 lw (by omega) r5 (by omega) r7 hz tp (fun K u lu u0 u149 u164 => ih (k + 1) G1 (cl + 1) K u (by omega) (by omega) (by omega) lu (by omega) (by omega) (by omega))
    · refine g_refuses lw.1 EJ nw.1 (by omega) (by omega) (fun K EK FK => ⟨R_of (by decide), by decide, ?_⟩)
      exact g_418 (LI_c lw EK nw FK rfl) (by omega) r5 (by omega) r7 hz tp (fun K u lu u0 u149 u164 => ih (k + 1) G1 (cl + 1) K u (by omega) (by omega) (by omega) lu (by omega) (by omega) (by omega))
/-- ahead of the first show -/
def LB (G : rc_G) (x : Nat) (I : rc_M) (v : rv) : Prop := kX7 G x ∧ rc_is G (x + 89) (rc_sI G 8) ∧ eA I (x + 1) v ∧ tV v ∧ v 162 = 0 ∧ I (x + 83) 0 ≤ 0 ∧ I (x + 83) 1 ≤ 0 ∧ (∀ j : Int, 0 ≤ j → j < 8 → I (x + 89) j = v (141 + j))
theorem g_278 {G : rc_G} {xs : Nat → Int32} {L x : Nat} {x4 x5 x7 : Int} (h4 : 0 ≤ x4 ∧ x4 < 2147483648) (r5 : 1 ≤ x5 ∧ x5 ≤ 4) (r7 : 1 ≤ x7 ∧ x7 ≤ 6) : ∀ (d : Nat) (k : Int) (I : rc_M) (v : rv), k + d = x7 → 0 ≤ k → LB G x I v → v 0 = x5 → I (x + 84) 2 = k → (∀ j : Int, 0 ≤ j → j < k → 0 ≤ I (x + 86) j - 48 ∧ I (x + 86) j - 48 < x5) → rL_law_278 xs L x (d + 1) G 0 x4 x5 1 x7 k I := by
  intro d
  induction d with
  | zero =>
    intro k I v hd k0 l h5 hn hj
    have ek : k = x7 := by omega
    show wL_law_278 G 0 xs L x (rL_law_278 xs L x 0) x4 x5 1 x7 k I
    obtain ⟨t1, t3, E, V, z162, z0, z1, q⟩ := l
    unfold wL_law_278
    refine ⟨R_of (by omega), R_of (by omega), fun _ => ⟨R_of (by decide), by decide, ?_⟩, fun y => absurd (by omega) y⟩
    refine c_setp E V (n := x7) (by rw [← ek]; exact hn) (by omega) (fun j j0 j1 => by rw [h5]; exact hj j j0 (by omega)) (fun y => by omega) (fun Q w wl w12 EQ VQ qI => ⟨R_of (by omega), R_of (by omega), rfl, ?_⟩)
    have p149 := tPr_149 v w
    have po := fun (j : Int) (h : j < 149 ∨ 162 ≤ j) => tPr_o v w w12 j h
    refine c_begin EQ VQ (fun ne K EK VK FK => ⟨R_of (by omega), R_of (by omega), by rw [p149]; exact wl, ?_⟩) (fun y => absurd y (by omega))
    obtain ⟨n2, e164, _, _⟩ := nS_open VQ ne
    have lo := (tOpen_spec (tPr v w)).1
    have o149 := lo 149 (by decide)
    have o0 := lo 0 (by decide)
    have o141 := lo 141 (by decide)
    refine g_sound t1 EK n2 (by omega) (by omega) ⟨R_of (by decide), by decide, ?_⟩
    have q141 := q 0 (by decide) (by decide)
    have k89 : K (x + 89) = I (x + 89) := by rw [FK _ (by omega)]; exact qI _ (by omega) (by omega) (by omega) (by omega) (by omega)
    have k83 : K (x + 83) = I (x + 83) := by rw [FK _ (by omega)]; exact qI _ (by omega) (by omega) (by omega) (by omega) (by omega)
    have lK : LI G x K (tOpen (tPr v w)) := ⟨t1, t3, EK, n2, Or.inl (by rw [k83]; exact z0), by rw [k83]; exact z1, by rw [k89, o141, po 141 (by omega)]; exact q141⟩
    exact ⟨15, g_354 (by omega) (by omega) 14 0 G 0 K _ (by omega) (by omega) rfl lK (by rw [o0, po 0 (by omega)]; exact h5) (by rw [o149, p149]; exact wl) (by omega)⟩
  | succ d ih =>
    intro k I v hd k0 l h5 hn hj
    show wL_law_278 G 0 xs L x (rL_law_278 xs L x (d + 1)) x4 x5 1 x7 k I
    obtain ⟨t1, t3, E, V, z162, z0, z1, q⟩ := l
    unfold wL_law_278
    have a0 : 0 ≤ tS x4 (7 + 2 * k) % x5 := Int.emod_nonneg _ (by omega)
    have a1 : tS x4 (7 + 2 * k) % x5 < x5 := Int.emod_lt_of_pos _ (by omega)
    refine ⟨R_of (by omega), R_of (by omega), fun y => absurd y (by omega), fun _ => ⟨h4, ⟨by omega, by omega⟩, tS_R _ h4, ⟨by omega, by omega⟩, ?_⟩⟩
    refine c_append (by omega) hn (by omega) (fun J jo j2 jj => ?_)
    refine ih (k + 1) J v (by omega) (by omega) ⟨t1, t3, eA_far V.1 (fun a b0 b1 => jo a (by omega) (by omega)) E, V, z162, by rw [jo _ (by omega) (by omega)]; exact z0, by rw [jo _ (by omega) (by omega)]; exact z1, fun j j0 j1 => by rw [jo _ (by omega) (by omega)]; exact q j j0 j1⟩ h5 j2 (fun j j0 j1 => ?_)
    rw [jj]
    by_cases e : j = k
    · rw [if_pos e]; omega
    · rw [if_neg e]; exact hj j j0 (by omega)
theorem g_208 {G : rc_G} {xs : Nat → Int32} {L x : Nat} {x4 x5 : Int} (h4 : 0 ≤ x4 ∧ x4 < 2147483648) (r5 : 1 ≤ x5 ∧ x5 ≤ 4) : ∀ (d : Nat) (k : Int) (I : rc_M) (v : rv), k + d = 8 → 0 ≤ k → LB G x I v → v 0 = x5 → I (x + 84) 2 = 0 → rL_law_208 xs L x (d + 1) G 0 x4 x5 1 k I := by
  intro d
  induction d with
  | zero =>
    intro k I v hd k0 l h5 hn
    show wL_law_208 G 0 xs L x (rL_law_208 xs L x 0) x4 x5 1 k I
    unfold wL_law_208
    have r4 := tS_R 4 h4
    refine ⟨R_of (by omega), fun _ => ⟨h4, r4, ?_⟩, fun y => absurd (by omega) y⟩
    exact ⟨_, g_278 h4 r5 (by omega) (1 + tS x4 4 % 6).toNat 0 I v (by omega) (by omega) l h5 hn (fun j j0 j1 => absurd j1 (by omega))⟩
  | succ d ih =>
    intro k I v hd k0 l h5 hn
    show wL_law_208 G 0 xs L x (rL_law_208 xs L x (d + 1)) x4 x5 1 k I
    obtain ⟨t1, t3, E, V, z162, z0, z1, q⟩ := id l
    have hz := tC_R xs L (5 + k)
    unfold wL_law_208 wL_law_251
    generalize tC xs L (5 + k) = y at *
    refine ⟨R_of (by omega), fun y => absurd y (by omega), fun _ => ⟨R_of (by decide), by decide, ⟨by omega, by omega⟩, hz, R_of (by omega), fun _ => ih (k + 1) I v (by omega) (by omega) l h5 hn, fun _ => ⟨hz, ?_⟩⟩⟩
    have k8 : 0 ≤ k ∧ k < 8 := ⟨k0, by omega⟩
    refine g_sets E V k8 (tS_R 3 hz) (q k k0 k8.2) (fun J s EJ VJ jo j89 => ⟨R_of (by decide), by decide, ?_⟩)
    refine ih (k + 1) J _ (by omega) (by omega) ⟨t1, t3, EJ, VJ, by rw [rc_u_n _ _ (by omega)]; exact z162, by rw [jo _ (by omega) (by omega)]; exact z0, by rw [jo _ (by omega) (by omega)]; exact z1, fun j j0 j1 => ?_⟩ (by rw [rc_u_n _ _ (by omega)]; exact h5) (by rw [jo _ (by omega) (by omega)]; exact hn)
    rw [j89, rc_ue, rc_ue]
    by_cases e : j = k
    · rw [if_pos e, if_pos (by omega)]
    · rw [if_neg e, if_neg (by omega)]; exact q j j0 j1
theorem g_123 {G : rc_G} {xs : Nat → Int32} {L x : Nat} {x4 x5 x7 z : Int} {k81 : rc_G → Nat → Int → Int → Int → Int → rc_M → Prop} (h7 : 0 ≤ x7 ∧ x7 ≤ 3) (hz : 0 ≤ z ∧ z < 2147483648) (H : ∀ (J : rc_M) (w : rv), LB G x J w → w 0 = x7 + 1 → J (x + 84) 2 = 0 → k81 G 0 x4 x5 1 (x7 + 1) J) :
    ∀ (d : Nat) (k : Int) (I : rc_M) (v : rv), k + d = 3 → 0 ≤ k → LB G x I v → v 0 = x7 + 1 → I (x + 84) 2 = 0 → v (2 + 14 * x7) ≤ k → I (x + 88) (14 * x7 + 1) = v (2 + 14 * x7) → (∀ j : Int, 0 ≤ j → j < v (2 + 14 * x7) → I (x + 88) (14 * x7 + 2 + 2 * j) = v (3 + 14 * x7 + 2 * j)) → rL_law_123 xs L x k81 (d + 1) G 0 x4 x5 1 x7 z k I := by
  intro d
  induction d with
  | zero =>
    intro k I v hd k0 l h0 hn hc r0 rj
    show wL_law_123 G 0 xs L x k81 (rL_law_123 xs L x k81 0) x4 x5 1 x7 z k I
    unfold wL_law_123
    exact ⟨R_of (by omega), fun _ => H I v l h0 hn, fun y => absurd (by omega) y⟩
  | succ d ih =>
    intro k I v hd k0 l h0 hn hc r0 rj
    show wL_law_123 G 0 xs L x k81 (rL_law_123 xs L x k81 (d + 1)) x4 x5 1 x7 z k I
    obtain ⟨t1, t3, E, V, z162, z0, z1, q⟩ := id l
    unfold wL_law_123 wL_law_186
    have r6 := tS_R (6 + k) hz
    refine ⟨R_of (by omega), fun y => absurd y (by omega), fun _ => ⟨R_of (by decide), by decide, hz, ⟨by omega, by omega⟩, r6, R_of (by omega), fun _ => ih (k + 1) I v (by omega) (by omega) l h0 hn (by omega) r0 rj, fun _ => ⟨hz, ⟨by omega, by omega⟩, tS_R _ hz, hz, ⟨by omega, by omega⟩, tS_R _ hz, ?_⟩⟩⟩
    have r9 := tS_R (9 + 3 * k) hz
    have r10 := tS_R (10 + 4 * k) hz
    refine g_splices t1 E V (by omega) h7.2 (by omega) (by omega) (by omega) r0 rj (fun J w EJ VJ jo wo w1 wj wc => ⟨R_of (by decide), by decide, ?_⟩)
    refine ih (k + 1) J w (by omega) (by omega) ⟨t1, t3, EJ, VJ, by rw [wo _ (by omega)]; exact z162, by rw [jo _ (by omega) (by omega)]; exact z0, by rw [jo _ (by omega) (by omega)]; exact z1, fun j j0 j1 => by rw [jo _ (by omega) (by omega), wo _ (by omega)]; exact q j j0 j1⟩ (by rw [wo _ (by omega)]; exact h0) (by rw [jo _ (by omega) (by omega)]; exact hn) (by omega) w1 wj
theorem g_81 {G : rc_G} {xs : Nat → Int32} {L x : Nat} {x4 x5 : Int} (h4 : 0 ≤ x4 ∧ x4 < 2147483648) (r5 : 1 ≤ x5 ∧ x5 ≤ 4) : ∀ (d : Nat) (k : Int) (I : rc_M) (v : rv), k + d = x5 → 0 ≤ k → LB G x I v → v 0 = k → I (x + 84) 2 = 0 → rL_law_81 xs L x (d + 1) G 0 x4 x5 1 k I := by
  intro d
  induction d with
  | zero =>
    intro k I v hd k0 l h0 hn
    show wL_law_81 G 0 xs L x (rL_law_81 xs L x 0) x4 x5 1 k I
    unfold wL_law_81
    exact ⟨R_of (by omega), R_of (by omega), fun _ => ⟨9, g_208 h4 r5 8 0 I v (by omega) (by omega) l (by omega) hn⟩, fun y => absurd (by omega) y⟩
  | succ d ih =>
    intro k I v hd k0 l h0 hn
    show wL_law_81 G 0 xs L x (rL_law_81 xs L x (d + 1)) x4 x5 1 k I
    obtain ⟨t1, t3, E, V, z162, z0, z1, q⟩ := id l
    have hz := tC_R xs L (1 + k)
    unfold wL_law_81
    generalize tC xs L (1 + k) = y at *
    refine ⟨R_of (by omega), R_of (by omega), fun y => absurd y (by omega), fun _ => ⟨R_of (by decide), by decide, ⟨by omega, by omega⟩, hz, ?_⟩⟩
    refine g_makes t1 E V h0.symm (by omega) (by omega) (fun J EJ VJ jo j1 => ?_)
    have mo : ∀ j : Int, j ≠ 1 + 14 * v 0 → j ≠ 2 + 14 * v 0 → j ≠ 0 → tMk v (100 + y % 90) j = v j := fun j a b c => by unfold tMk; rw [rc_u_n _ _ c, rc_u_n _ _ b, rc_u_n _ _ a]
    have m0 : tMk v (100 + y % 90) 0 = v 0 + 1 := rc_u_s _ _ _
    have m2 : tMk v (100 + y % 90) (2 + 14 * k) = 0 := by unfold tMk; rw [← h0, rc_u_n _ _ (by omega), rc_u_s]
    exact ⟨4, g_123 ⟨k0, by omega⟩ hz (fun K w lw w0 wn => ih (k + 1) K w (by omega) (by omega) lw w0 wn) 3 0 J _ (by omega) (by omega) ⟨t1, t3, EJ, VJ, by rw [mo _ (by omega) (by omega) (by omega)]; exact z162, by rw [jo _ (by omega) (by omega)]; exact z0, by rw [jo _ (by omega) (by omega)]; exact z1, fun j j0 j1 => by rw [jo _ (by omega) (by omega), mo _ (by omega) (by omega) (by omega)]; exact q j j0 j1⟩ (by rw [m0]; omega) (by rw [jo _ (by omega) (by omega)]; exact hn) (by omega) (by rw [m2]; exact j1) (fun j j0 j1 => absurd j1 (by omega))⟩
/-! ===== the start ===== -/
def rs_gv (j : Int) : Int := if 141 ≤ j ∧ j < 149 then rc_fi (j - 141) else if j = 172 then -1 else 0
def rs_gA (k : Nat) : Int → Int := if k = 4 then rc_fi else if k = 45 then rc_fi else fun _ => 0
theorem gA_0 {k : Nat} (h4 : k ≠ 4) (h45 : k ≠ 45) : rs_gA k = fun _ => 0 := by
  unfold rs_gA
  rw [if_neg h4, if_neg h45]
theorem ini_at (x k : Nat) : rs_ini (fun _ _ => 0) x rs_gA (x + k) = rs_gA k := by
  unfold rs_ini
  rw [if_neg (by omega), show x + k - x = k by omega]
theorem gv_lo {j : Int} (h : j < 141 ∨ (149 ≤ j ∧ j ≠ 172)) : rs_gv j = 0 := by
  unfold rs_gv
  rw [if_neg (by omega), if_neg (by omega)]
theorem tV_gv : tV rs_gv := by
  refine ⟨⟨by rw [gv_lo (by omega)]; omega, by rw [gv_lo (by omega)]; omega, fun k k0 k1 => ?_, by decide, fun i i0 i1 => ?_⟩, ?_, fun a _ => ?_⟩
  · rw [gv_lo (by omega)] at k1; omega
  · rw [gv_lo (by omega)] at i1; omega
  · refine ⟨Or.inl rfl, Or.inl rfl, Or.inl rfl, Or.inl rfl, by decide, fun y => absurd y (by decide), by decide, fun k k0 k1 => ?_, by decide, by decide⟩
    rw [gv_lo (by omega)] at k1; omega
  · rw [gv_lo (by omega)] at a; omega
theorem p25_pure {G : rc_G} (xs : Nat → Int32) (L x : Nat) (t1 : kX7 G x) (t3 : rc_is G (x + 89) (rc_sI G 8)) : wL_law_18 G 0 xs L x (rs_ini (fun _ _ => 0) x rs_gA) := by
  have at' := ini_at x
  generalize rs_ini (fun _ _ => 0) x rs_gA = I at *
  have z : ∀ k : Nat, k ≠ 4 → k ≠ 45 → I (x + k) = fun _ => 0 := fun k a b => (at' k).trans (gA_0 a b)
  have z2 : I (x + 2) = fun _ => 0 := z 2 (by decide) (by decide)
  have z36 : I (x + 36) = fun _ => 0 := z 36 (by decide) (by decide)
  have z37 : I (x + 37) = fun _ => 0 := z 37 (by decide) (by decide)
  have z40 : I (x + 40) = fun _ => 0 := z 40 (by decide) (by decide)
  have z41 : I (x + 41) = fun _ => 0 := z 41 (by decide) (by decide)
  have z83 : I (x + 83) = fun _ => 0 := z 83 (by decide) (by decide)
  have z84 : I (x + 84) = fun _ => 0 := z 84 (by decide) (by decide)
  have z4 : I (x + 4) = rc_fi := at' 4
  clear at' z
  have E : eA I (x + 1) rs_gv := by
    refine ⟨⟨?_, ?_, fun k k0 k1 => ?_, fun k k0 k1 => ?_, fun i i0 i1 => ?_⟩, ?_, ?_, fun p hp => ?_⟩
    · show I (x + 2) 0 = _
      rw [z2]; rfl
    · show I (x + 2) 1 = _
      rw [z2]; rfl
    · show I (x + 4) k = _
      rw [z4]
      unfold rs_gv
      rw [if_pos (by omega)]; congr 1; omega
    · rw [gv_lo (by omega)] at k1; omega
    · rw [gv_lo (by omega)] at i1; omega
    · have e : I (x + 1 + 35) = fun _ => 0 := z36
      unfold eC
      rw [e]
      exact ⟨rfl, rfl, rfl, rfl, rfl, rfl, rfl, rfl, rfl⟩
    · have e : I (x + 1 + 35 + 1) = fun _ => 0 := z37
      unfold eO
      rw [e]
      refine ⟨rfl, rfl, fun y => absurd y (by decide), fun k k0 k1 => ?_⟩
      rw [gv_lo (by omega)] at k1; omega
    · have e : I (x + 1 + 35 + 4 + p.toNat) = fun _ => 0 := by
        rcases hp with rfl | rfl
        · exact z40
        · exact z41
      unfold eP
      rw [e, gv_lo (by omega), gv_lo (by omega)]
      exact ⟨rfl, fun y => by omega, fun y => by omega⟩
  have V := tV_gv
  have g162 : rs_gv 162 = 0 := gv_lo (by omega)
  have g149 : rs_gv 149 = 0 := gv_lo (by omega)
  have g0 : rs_gv 0 = 0 := gv_lo (by omega)
  have gq : ∀ j : Int, 0 ≤ j → j < 8 → rs_gv (141 + j) = rc_fi j := fun j j0 j1 => by
    unfold rs_gv
    rw [if_pos (by omega)]; congr 1; omega
  have hz := tC_R xs L 0
  unfold wL_law_18 wL_first
  intro I1 e1 I2 e2 I3 e3 I4 e4 I5 e5 I6 e6 I7 e7 I8 e8
  have o8 : ∀ b : Nat, b ≠ x + 89 → I8 b = I b := fun b hb => by rw [e8, qs_n _ _ _ hb, e7, qs_n _ _ _ hb, e6, qs_n _ _ _ hb, e5, qs_n _ _ _ hb, e4, qs_n _ _ _ hb, e3, qs_n _ _ _ hb, e2, qs_n _ _ _ hb, e1, qs_n _ _ _ hb]
  have v8 : ∀ j : Int, 0 ≤ j → j < 8 → I8 (x + 89) j = rc_fi j := fun j j0 j1 => by
    rw [e8, qs_s, rc_ue, e7, qs_s, rc_ue, e6, qs_s, rc_ue, e5, qs_s, rc_ue, e4, qs_s, rc_ue, e3, qs_s, rc_ue, e2, qs_s, rc_ue, e1, qs_s, rc_ue]
    rcases (show j = 0 ∨ j = 1 ∨ j = 2 ∨ j = 3 ∨ j = 4 ∨ j = 5 ∨ j = 6 ∨ j = 7 by omega) with rfl | rfl | rfl | rfl | rfl | rfl | rfl | rfl <;> rfl
  clear e1 e2 e3 e4 e5 e6 e7 e8
  have E8 : eA I8 (x + 1) rs_gv := eA_far V.1 (fun a a0 a1 => o8 a (by omega)) E
  have s83 : I8 (x + 83) = fun _ => 0 := by rw [o8 _ (by omega)]; exact z83
  have s84 : I8 (x + 84) = fun _ => 0 := by rw [o8 _ (by omega)]; exact z84
  refine ⟨⟨by decide, by decide⟩, hz, ?_⟩
  refine c_restore0 (Or.inr rfl) (by rw [s83]; exact Int.le_refl 0) ⟨R_of (by decide), rfl, ?_⟩
  refine c_t0 E8 ?_
  rw [if_neg (fun y => by omega)]
  refine ⟨rc_R0, rfl, ?_⟩
  refine c_fault0 E8 V (by rw [s84]) (fun J jo j2 => ⟨rc_R0, rfl, ?_⟩)
  have EJ : eA J (x + 1) rs_gv := eA_far V.1 (fun a a0 a1 => jo a (by omega)) E8
  refine c_begin EJ V (fun y => absurd g149 y) (fun _ => ⟨R_of (by decide), rfl, ?_⟩)
  have j83 : J (x + 83) = fun _ => 0 := by rw [jo _ (by omega)]; exact s83
  exact ⟨_, g_81 hz (by omega) (1 + tC xs L 0 % 4).toNat 0 J rs_gv (by omega) (by omega) ⟨t1, t3, EJ, V, g162, by rw [j83]; exact Int.le_refl 0, by rw [j83]; exact Int.le_refl 0, fun j j0 j1 => by rw [jo _ (by omega), gq j j0 j1]; exact v8 j j0 j1⟩ g0 j2⟩
