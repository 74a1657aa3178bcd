/-! ===== pure part: the start, and every run of calls ===== -/
theorem gA_0 {k : Nat} (h4 : k ≠ 4) (h45 : k ≠ 45) (h89 : k ≠ 89) (h93 : k ≠ 93) (h94 : k ≠ 94) (h95 : k ≠ 95) : rs_gA k = fun _ => 0 := by
  unfold rs_gA
  rw [if_neg h4, if_neg h45, if_neg h89, if_neg h93, if_neg h94, if_neg h95]
theorem ini_at (x k : Nat) : rs_ini (fun _ _ => 0) x rs_gA (x + k) = rs_gA k := by
  unfold rs_ini
  rw [if_neg (by omega), show x + k - x = k by omega]
theorem gv_lo {j : Int} (h : j < 141 ∨ (149 ≤ j ∧ j ≠ 172)) : rs_gv j = 0 := by
  unfold rs_gv
  rw [if_neg (by omega), if_neg (by omega)]
theorem gv_172 : rs_gv 172 = -1 := rfl
theorem tV_gv : tV rs_gv := by
  refine ⟨⟨by rw [gv_lo (by omega)]; omega, by rw [gv_lo (by omega)]; omega, fun k k0 k1 => ?_, by decide, fun i i0 i1 => ?_⟩, ?_, fun a _ => ?_⟩
  · rw [gv_lo (by omega)] at k1; omega
  · rw [gv_lo (by omega)] at i1; omega
  · refine ⟨Or.inl rfl, Or.inl rfl, Or.inl rfl, Or.inl rfl, by decide, fun y => absurd y (by decide), by decide, fun k k0 k1 => ?_, by decide, by decide⟩
    rw [gv_lo (by omega)] at k1; omega
  · rw [gv_lo (by omega)] at a; omega
theorem tI_start {G : rc_G} {x : Nat} (h0 : 0 < x) (k7 : kX7 G x) (k8 : kX8 G (x + 88)) : tI G x (rs_ini (fun _ _ => 0) x rs_gA) := by
  have at' := ini_at x
  generalize rs_ini (fun _ _ => 0) x rs_gA = I at *
  have z : ∀ k : Nat, k ≠ 4 → k ≠ 45 → k ≠ 89 → k ≠ 93 → k ≠ 94 → k ≠ 95 → I (x + k) = fun _ => 0 := fun k a b c d e f => (at' k).trans (gA_0 a b c d e f)
  have v : I (x + 89) = rs_gv := at' 89
  have z2 : I (x + 2) = fun _ => 0 := z 2 (by decide) (by decide) (by decide) (by decide) (by decide) (by decide)
  have z36 : I (x + 36) = fun _ => 0 := z 36 (by decide) (by decide) (by decide) (by decide) (by decide) (by decide)
  have z37 : I (x + 37) = fun _ => 0 := z 37 (by decide) (by decide) (by decide) (by decide) (by decide) (by decide)
  have z40 : I (x + 40) = fun _ => 0 := z 40 (by decide) (by decide) (by decide) (by decide) (by decide) (by decide)
  have z41 : I (x + 41) = fun _ => 0 := z 41 (by decide) (by decide) (by decide) (by decide) (by decide) (by decide)
  have z83 : I (x + 83) = fun _ => 0 := z 83 (by decide) (by decide) (by decide) (by decide) (by decide) (by decide)
  have z84 : I (x + 84) = fun _ => 0 := z 84 (by decide) (by decide) (by decide) (by decide) (by decide) (by decide)
  have z88 : I (x + 88) = fun _ => 0 := z 88 (by decide) (by decide) (by decide) (by decide) (by decide) (by decide)
  have z92 : I (x + 92) = fun _ => 0 := z 92 (by decide) (by decide) (by decide) (by decide) (by decide) (by decide)
  have z4 : I (x + 4) = rc_fi := at' 4
  have z93 : I (x + 93) = rc_lo := at' 93
  have z94 : I (x + 94) = rc_hi := at' 94
  clear at' z
  refine ⟨h0, k7, k8, ?_, by rw [v]; exact tV_gv, ?_, fun j _ _ => by rw [z93, z94]; exact ⟨rfl, rfl⟩, ?_⟩
  · rw [v]
    refine ⟨⟨?_, ?_, fun k k0 k1 => ?_, fun k k0 k1 => ?_, fun i i0 i1 => ?_⟩, ?_, ?_, fun p hp => ?_⟩
    · show I (x + 2) 0 = _
      rw [z2]; rfl
    · show I (x + 2) 1 = _
      rw [z2]; rfl
    · show I (x + 4) k = _
      rw [z4]
      unfold rs_gv
      rw [if_pos (by omega)]; congr 1; omega
    · rw [gv_lo (by omega)] at k1; omega
    · rw [gv_lo (by omega)] at i1; omega
    · have e : I (x + 1 + 35) = fun _ => 0 := z36
      unfold eC
      rw [e]
      exact ⟨rfl, rfl, rfl, rfl, rfl, rfl, rfl, rfl, rfl⟩
    · have e : I (x + 1 + 35 + 1) = fun _ => 0 := z37
      unfold eO
      rw [e]
      refine ⟨rfl, rfl, fun y => absurd y (by decide), fun k k0 k1 => ?_⟩
      rw [gv_lo (by omega)] at k1; omega
    · have e : I (x + 1 + 35 + 4 + p.toNat) = fun _ => 0 := by
        rcases hp with rfl | rfl
        · exact z40
        · exact z41
      unfold eP
      rw [e, gv_lo (by omega), gv_lo (by omega)]
      exact ⟨rfl, fun y => by omega, fun y => by omega⟩
  · unfold tT
    rw [z84, z88]
    refine ⟨rfl, ⟨Int.le_refl 0, by decide⟩, fun k k0 k1 => ?_⟩
    have k2 : k < 0 := k1
    omega
  · unfold tZ tZ1
    rw [z83, z92]
    exact ⟨Or.inl ⟨Int.le_refl 0, rfl⟩, Or.inl ⟨Int.le_refl 0, rfl⟩, fun y => absurd y (by decide)⟩
theorem whole_loop (xs : Nat → Int32) (L x : Nat) (d : Nat) : ∀ (i : Int) (G : rc_G) (I : rc_M), (L : Int) - i ≤ 4 * d + 3 → tI G x I → wL_loop xs L x (x + 88) (d + 1) i G I := by
  have hR : ∀ j : Int, rc_R (rl_sx xs j) := fun j => rc_Rx _
  induction d with
  | zero =>
    intro i G I hi t
    show wL_body xs L x (x + 88) (wL_loop xs L x (x + 88) 0) i G I
    intro h
    exact absurd h (by omega)
  | succ d ih =>
    intro i G I hi t
    show wL_body xs L x (x + 88) (wL_loop xs L x (x + 88) (d + 1)) i G I
    intro h
    have K : ∀ (G1 : rc_G) (J : rc_M), tI G1 x J → wL_loop xs L x (x + 88) (d + 1) (i + 4) G1 J := fun G1 J tJ => ih (i + 4) G1 J (by omega) tJ
    exact ⟨fun _ => op_makeReel t (hR _) (K G), fun _ => op_splice t (hR _) (hR _) (hR _) (K G), fun _ => op_mend t (hR _) (hR _) (K G), fun _ => op_reel t (hR _) (hR _) (K G),
      fun _ => ⟨fun _ => op_spliceAt t (hR _) (hR _) (Or.inl rfl) (K G), fun _ => op_spliceAt t (hR _) (hR _) (Or.inr rfl) (K G)⟩, fun _ => op_set t (hR _) (hR _) (K G), fun _ => op_append t (hR _) (K G), fun _ => op_clear t (K G),
      fun _ => op_faultPosition t (K G), fun _ => op_faultDepth t (K G), fun _ => op_setProgram t (K G), fun _ => op_program t (hR _) (K G), fun _ => op_begin t (K G), fun _ => op_pass t (hR _) (K G), fun _ => op_tell t (hR _) (K G),
      fun _ => op_projector t (hR _) (hR _) (K G), fun _ => op_task t (hR _) (hR _) (K G), fun _ => op_forecast t (hR _) (K G), fun _ => op_dark t (hR _) (hR _) (K G), fun _ => op_save t (hR _) K, fun _ => op_restore t (hR _) (K G), fun _ => op_checksum t (K G), fun _ => K G I t⟩
theorem whole_pure (xs : Nat → Int32) (L : Nat) (G : rc_G) (x : Nat) (h0 : 0 < x) (k7 : kX7 G x) (k8 : kX8 G (x + 88)) : ∃ n, wL_loop xs L x (x + 88) n 0 G (rs_ini (fun _ _ => 0) x rs_gA) :=
  ⟨L + 1, whole_loop xs L x L 0 G _ (by omega) (tI_start h0 k7 k8)⟩
