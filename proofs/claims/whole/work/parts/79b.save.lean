/-! ===== pure part: a slot filled, both sides ===== -/
theorem op_save_fin {G1 : rc_G} {x zN : Nat} {I J0 : rc_M} {n : Int} {k : rc_G → rc_M → Prop} {G : rc_G} (t : tI G x I) (hn : n = 0 ∨ n = 1) (T1 : kX7 G1 x) (T2 : kX8 G1 (x + 88)) (hz : x + 101 ≤ zN) (kz : kX4 G1 zN)
    (H1 : ∀ b : Nat, b < x + 101 → b ≠ x + 83 → J0 b = I b) (H2 : J0 (x + 83) n = zN) (H3 : ∀ j : Int, j ≠ n → J0 (x + 83) j = I (x + 83) j) (H4 : tZ1 G1 J0 x (1 - n)) (H5 : 0 < I (x + 83) (1 - n) → (I (x + 83) (1 - n)).toNat + 40 < zN ∨ zN + 40 < (I (x + 83) (1 - n)).toNat)
    (hk : ∀ (G1 : rc_G) (J : rc_M), tI G1 x J → k G1 J) : wX4_copyFrom G1 zN (x + 1) J0 (fun I3 => wX8_save G1 (x + 88) n I3 (fun r2 I2 => I3 (x + 1 + 1) 0 = r2 ∧ k G1 I2)) := by
  obtain ⟨t0, _, _, E, V, t5, t6, _⟩ := id t
  obtain ⟨v, ev⟩ : ∃ v, v = I (x + 89) := ⟨_, rfl⟩
  rw [← ev] at E V
  have n6 := V.2.1.2.2.2.2.2.2.1.2
  have E0 : eA J0 (x + 1) v := eA_far V.1 (fun a a0 a1 => H1 a (by omega) (by omega)) E
  refine x_copy (by omega) V.1 V.2.1 E0 (fun J EJ FJ => ?_)
  have lo : ∀ b : Nat, b < x + 101 → b ≠ x + 83 → J b = I b := fun b h1 h2 => by rw [FJ b (by omega)]; exact H1 b h1 h2
  have j83 : J (x + 83) = J0 (x + 83) := FJ _ (by omega)
  have a0 : J (x + 1 + 1) 0 = v 0 := by rw [lo _ (by omega) (by omega)]; exact E.1.1
  have a1 : J (x + 88 + 1) = v := by rw [lo _ (by omega) (by omega)]; exact ev.symm
  refine m_save hn (fun K f1 f2 f3 f4 f5 => ⟨by rw [a0, a1], hk G1 K ?_⟩)
  rw [a1] at f2
  have ko : ∀ b : Nat, b < x + 101 → b ≠ x + 83 → b ≠ x + 91 → b ≠ x + 92 → K b = I b := fun b h1 h2 h3 h4 => by rw [f1 b (by omega) (by omega)]; exact lo b h1 h2
  have k83 : K (x + 83) = J0 (x + 83) := by rw [f1 _ (by omega) (by omega)]; exact j83
  have k89 : K (x + 89) = v := by rw [ko _ (by omega) (by omega) (by omega) (by omega)]; exact ev.symm
  have kfar : ∀ b : Nat, x + 101 ≤ b → K b = J b := fun b hb => f1 b (by omega) (by omega)
  have zn : tZ1 G1 K x n := by
    refine Or.inr ⟨by rw [k83, H2]; omega, f4, ?_⟩
    rw [k83, H2, Int.toNat_natCast]
    have cv : ∀ j : Int, 0 ≤ j → j < 199 → tW K x n j = v j := fun j j0 j1 => f2 j j0 j1
    exact ⟨hz, kz, eA_cv V.1 n6 cv (eA_far V.1 (fun a b0 b1 => kfar a (by omega)) EJ), tV_c cv V⟩
  have w91 : ∀ j : Int, 0 ≤ j → j < 199 → tW K x (1 - n) j = tW J0 x (1 - n) j := fun j j0 j1 => by
    show K (x + 91) (199 * (1 - n) + j) = J0 (x + 91) (199 * (1 - n) + j)
    have := f3 (199 * (1 - n) + j) (by omega)
    rw [show x + 88 + 3 = x + 91 by omega] at this
    rw [this, FJ _ (by omega)]
  have w92 : K (x + 92) (1 - n) = J0 (x + 92) (1 - n) := by
    have := f5 (1 - n) (by omega)
    rw [show x + 88 + 4 = x + 92 by omega] at this
    rw [this, FJ _ (by omega)]
  have zo : tZ1 G1 K x (1 - n) := by
    unfold tZ1
    rw [k83, w92]
    rcases H4 with z | ⟨z1, z2, z3, z4, z5, z6⟩
    · exact Or.inl z
    · have d := H5 (by rw [← H3 _ (by omega)]; exact z1)
      rw [← H3 _ (by omega)] at d
      exact Or.inr ⟨z1, z2, z3, z4, eA_cv z6.1 z6.2.1.2.2.2.2.2.2.1.2 w91 (eA_far z6.1 (fun a b0 b1 => by rw [kfar a (by omega), FJ a (by omega)]) z5), tV_c w91 z6⟩
  have hd : 0 < J0 (x + 83) (1 - n) → (J0 (x + 83) (1 - n)).toNat + 40 < zN ∨ zN + 40 < (J0 (x + 83) (1 - n)).toNat := fun q => by
    rw [H3 _ (by omega)] at q ⊢; exact H5 q
  refine ⟨t0, T1, T2, ?_, by rw [k89]; exact V, tT_c (by rw [ko _ (by omega) (by omega) (by omega) (by omega)]) (ko _ (by omega) (by omega) (by omega) (by omega)) (by rw [ko _ (by omega) (by omega) (by omega) (by omega)]) (ko _ (by omega) (by omega) (by omega) (by omega)) t5, fun j j0 j1 => ?_, ?_⟩
  · rw [k89]
    exact eA_far V.1 (fun a b0 b1 => ko a (by omega) (by omega) (by omega) (by omega)) E
  · rw [ko _ (by omega) (by omega) (by omega) (by omega), ko _ (by omega) (by omega) (by omega) (by omega)]; exact t6 j j0 j1
  · have H2' := H2
    rcases hn with rfl | rfl
    · refine ⟨zn, zo, fun _ q => ?_⟩
      rw [k83] at q ⊢
      have := hd q
      rw [H2, Int.toNat_natCast]
      change (J0 (x + 83) 1).toNat + 40 < zN ∨ zN + 40 < (J0 (x + 83) 1).toNat at this
      omega
    · refine ⟨zo, zn, fun q _ => ?_⟩
      rw [k83] at q ⊢
      have := hd q
      rw [H2, Int.toNat_natCast]
      change (J0 (x + 83) 0).toNat + 40 < zN ∨ zN + 40 < (J0 (x + 83) 0).toNat at this
      omega
