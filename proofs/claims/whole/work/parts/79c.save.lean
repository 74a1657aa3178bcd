/-! ===== pure part: save ===== -/
theorem op_save {G : rc_G} {x : Nat} {I : rc_M} {n : Int} {k : rc_G → rc_M → Prop} (t : tI G x I) (hn : rc_R n) (hk : ∀ (G1 : rc_G) (J : rc_M), tI G1 x J → k G1 J) : wX7_save G x n I (fun r1 G1 I1 => wX8_save G1 (x + 88) n I1 (fun r2 I2 => r1 = r2 ∧ k G1 I2)) := by
  obtain ⟨t0, t1, t2, E, V, t5, t6, t7⟩ := id t
  unfold wX7_save
  refine x_within hn (by unfold rc_R; omega) (by unfold rc_R; omega) ?_
  by_cases c : 0 ≤ n ∧ n ≤ 1
  · rw [if_pos c]
    have n2 : n = 0 ∨ n = 1 := by omega
    have Zo : tZ1 G I x (1 - n) := by rcases n2 with rfl | rfl; exact t7.2.1; exact t7.1
    have Zn : tZ1 G I x n := by rcases n2 with rfl | rfl; exact t7.1; exact t7.2.1
    refine ⟨by unfold rc_R; omega, fun _ => ⟨by omega, fun d z z0 zf I2 e2 => ?_, fun d => ?_⟩, fun q => absurd q (by decide)⟩
    · have m100 : x + 100 < z := zf _ (by have := t2.2.2.2.2.2.2.2.2.2.2.2.2.1; rw [show x + 88 + 12 = x + 100 by omega] at this; exact this)
      have hle : rs_le G (rs_room G z) := rs_ext_le zf
      have i2 : ∀ b : Nat, b < z → b ≠ x + 83 → I2 b = I b := fun b hb h2 => by rw [e2, qs_n _ _ _ h2]; exact rs_in hb
      have i83 : ∀ j : Int, j ≠ n → I2 (x + 83) j = I (x + 83) j := fun j hj => by rw [e2, qs_s, rc_u_n _ _ hj, rs_in (by omega)]
      refine op_save_fin (G1 := rs_room G z) t n2 (kX7_le hle t1) (kX8_le hle t2) (by omega) (rs_kR G z) (fun b h1 h2 => i2 b (by omega) h2) (by rw [e2, qs_s, rc_u_s]) i83 ?_ ?_ hk
      · have a83 := i83 (1 - n) (by omega)
        have w : tW I2 x (1 - n) = tW I x (1 - n) := by unfold tW; rw [i2 _ (by omega) (by omega)]
        unfold tZ1
        rw [a83, i2 (x + 92) (by omega) (by omega), w]
        rcases Zo with y | ⟨z1, z2, z3, z4, z5, z6⟩
        · exact Or.inl y
        · have m40 := zf _ (k4_40 z4)
          exact Or.inr ⟨z1, z2, z3, kX4_le hle z4, eA_far z6.1 (fun a b0 b1 => i2 a (by omega) (by omega)) z5, z6⟩
      · intro q
        rcases Zo with y | ⟨z1, z2, z3, z4, z5, z6⟩
        · omega
        · have m40 := zf _ (k4_40 z4)
          exact Or.inl m40
    · rcases Zn with y | ⟨z1, z2, z3, z4, z5, z6⟩
      · omega
      · refine ⟨z4, op_save_fin (G1 := G) t n2 t1 t2 z3 z4 (fun _ _ _ => rfl) (by omega) (fun _ _ => rfl) Zo (fun q => ?_) hk⟩
        rcases n2 with rfl | rfl
        · have := t7.2.2 d q
          change (I (x + 83) 1).toNat + 40 < (I (x + 83) 0).toNat ∨ (I (x + 83) 0).toNat + 40 < (I (x + 83) 1).toNat
          omega
        · have := t7.2.2 q d
          change (I (x + 83) 0).toNat + 40 < (I (x + 83) 1).toNat ∨ (I (x + 83) 1).toNat + 40 < (I (x + 83) 0).toNat
          omega
  · rw [if_neg c]
    refine ⟨rc_R0, fun q => absurd rfl q, fun _ => ?_⟩
    unfold wX8_save
    refine m_in hn (by unfold rc_R; omega) (by unfold rc_R; omega) ?_
    rw [if_neg c]
    exact ⟨rc_R0, fun q => absurd rfl q, fun _ => ⟨rfl, hk G I t⟩⟩
