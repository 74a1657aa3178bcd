/-! ===== pure part: a slot brought back ===== -/
theorem op_restore {G : rc_G} {x : Nat} {I : rc_M} {n : Int} {k : rc_M → Prop} (t : tI G x I) (hn : rc_R n) (hk : ∀ J : rc_M, tI G x J → k J) : wX7_restore G x n I (fun r1 I1 => wX8_restore G (x + 88) n I1 (fun r2 I2 => r1 = r2 ∧ k I2)) := by
  obtain ⟨t0, t1, t2, E, V, t5, t6, t7⟩ := id t
  have Z : n = 0 ∨ n = 1 → tZ1 G I x n := fun q => by rcases q with rfl | rfl; exact t7.1; exact t7.2.1
  unfold wX7_restore
  refine x_within hn (by unfold rc_R; omega) (by unfold rc_R; omega) ?_
  by_cases c : 0 ≤ n ∧ n ≤ 1
  · rw [if_pos c]
    have z := Z (by omega)
    refine ⟨by unfold rc_R; omega, fun _ => ⟨by omega, fun d => ?_, fun d => ?_⟩, fun q => absurd q (by decide)⟩
    · have z2 : I (x + 92) n = 0 := by
        rcases z with z | z
        · exact z.2
        · omega
      unfold wX8_restore
      refine m_in hn (by unfold rc_R; omega) (by unfold rc_R; omega) ?_
      rw [if_pos c]
      have e : I (x + 88 + 4) n = 0 := z2
      rw [e]
      exact ⟨by unfold rc_R; omega, fun _ => ⟨by omega, rc_R0, fun q => absurd rfl q, fun _ => ⟨rfl, hk I t⟩⟩, fun q => absurd q (by decide)⟩
    · rcases z with z | ⟨z1, z2, z3, z4, z5, z6⟩
      · omega
      · refine ⟨z4, x_copy (r := x + 1) (r0 := (I (x + 83) n).toNat) (by omega) z6.1 z6.2.1 z5 (fun J EJ FJ => ?_)⟩
        have n6 := z6.2.1.2.2.2.2.2.2.1.2
        generalize hw : tW I x n = w at *
        have lo : ∀ b : Nat, x + 83 ≤ b → J b = I b := fun b hb => FJ b (by omega)
        have a1 : J (x + 1 + 1) 0 = w 0 := EJ.1.1
        rw [a1]
        unfold wX8_restore
        refine m_in hn (by unfold rc_R; omega) (by unfold rc_R; omega) ?_
        rw [if_pos c]
        have e : J (x + 88 + 4) n = 1 := by show J (x + 92) n = 1; rw [lo _ (by omega)]; exact z2
        rw [e]
        refine ⟨by unfold rc_R; omega, fun _ => ⟨by omega, by unfold rc_R; omega, fun _ => ?_, fun q => absurd q (by decide)⟩, fun q => absurd q (by decide)⟩
        have ek : ∀ j : Int, J (x + 88 + 3) (199 * n + j) = w j := fun j => by
          show J (x + 91) (199 * n + j) = w j
          rw [lo _ (by omega), ← hw]; rfl
        have L : ∀ (d : Nat) (y : Int), 0 ≤ y → 199 - y = d → ∃ m, rX8_restore_26 G (fun r2 I2 => w 0 = r2 ∧ k I2) (x + 88) n m y (rc_w J (x + 88 + 1) (tCp w (J (x + 89)) y)) := by
          intro d
          induction d with
          | zero =>
            intro y y0 hd
            refine ⟨1, ?_⟩
            show wX8_restore_26 G (fun r2 I2 => w 0 = r2 ∧ k I2) (x + 88) n (rX8_restore_26 G (fun r2 I2 => w 0 = r2 ∧ k I2) (x + 88) n 0) y (rc_w J (x + 88 + 1) (tCp w (J (x + 89)) y))
            unfold wX8_restore_26
            have e : y = 199 := by omega
            subst e
            refine ⟨by unfold rc_R; omega, fun _ => ⟨?_, hk _ ?_⟩, fun q => absurd q (by omega)⟩
            · rw [rc_w_s]; unfold tCp; rw [if_pos (by omega)]
            · have eu : rc_w J (x + 88 + 1) (tCp w (J (x + 89)) 199) (x + 89) = tCp w (J (x + 89)) 199 := rc_w_s _ _ _
              have cp : ∀ j : Int, 0 ≤ j → j < 199 → tCp w (J (x + 89)) 199 j = w j := fun j j0 j1 => by unfold tCp; rw [if_pos ⟨j0, j1⟩]
              refine tI_std t ?_ (by rw [eu]; exact tV_c cp z6) (fun b b0 b1 _ => by rw [rc_w_n _ _ (by omega)]; exact lo b b0)
              rw [eu]
              exact eA_cv z6.1 n6 cp (eA_far z6.1 (fun b b0 b1 => rc_w_n _ _ (by omega)) EJ)
          | succ d ih =>
            intro y y0 hd
            obtain ⟨m, hm⟩ := ih (y + 1) (by omega) (by omega)
            refine ⟨m + 1, ?_⟩
            show wX8_restore_26 G (fun r2 I2 => w 0 = r2 ∧ k I2) (x + 88) n (rX8_restore_26 G (fun r2 I2 => w 0 = r2 ∧ k I2) (x + 88) n m) y (rc_w J (x + 88 + 1) (tCp w (J (x + 89)) y))
            unfold wX8_restore_26
            refine ⟨by unfold rc_R; omega, fun q => absurd q (by omega), fun _ => ⟨by omega, by omega, fun I12 e12 => ?_⟩⟩
            rw [rc_w_n J (b := x + 88 + 3) _ (by omega), ek, pS, tCp_u w _ y0] at e12
            rw [e12]; exact hm
        obtain ⟨m, hm⟩ := L 199 0 (by omega) (by omega)
        have e0 : rc_w J (x + 88 + 1) (tCp w (J (x + 89)) 0) = J := by rw [tCp_0]; exact qw_i rfl
        rw [e0] at hm
        exact ⟨m, hm⟩
  · rw [if_neg c]
    refine ⟨rc_R0, fun q => absurd rfl q, fun _ => ?_⟩
    unfold wX8_restore
    refine m_in hn (by unfold rc_R; omega) (by unfold rc_R; omega) ?_
    rw [if_neg c]
    exact ⟨rc_R0, fun q => absurd rfl q, fun _ => ⟨rfl, hk I t⟩⟩
