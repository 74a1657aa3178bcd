/-! ===== pure part: a reel made, letters, a slot brought back ===== -/
theorem op_makeReel {G : rc_G} {x : Nat} {I : rc_M} {a : Int} {k : rc_M → Prop} (t : tI G x I) (ha : rc_R a) (hk : ∀ J : rc_M, tI G x J → k J) : wX7_makeReel G x a I (fun r1 I1 => wX8_makeReel G (x + 88) a I1 (fun r2 I2 => r1 = r2 ∧ k I2)) := by
  obtain ⟨t0, t1, t2, E, V, t5, t6, t7⟩ := id t
  obtain ⟨v, ev⟩ : ∃ v, v = I (x + 89) := ⟨_, rfl⟩
  rw [← ev] at E V
  have s0 := V.1.1
  have n6 := V.2.1.2.2.2.2.2.2.1.2
  have i0 : I (x + 1 + 1) 0 = v 0 := E.1.1
  unfold wX7_makeReel
  refine x_within ha (by unfold rc_R; omega) (by unfold rc_R; omega) ?_
  by_cases c : 100 ≤ a ∧ a ≤ 3000
  · rw [if_pos c]
    refine ⟨by unfold rc_R; omega, fun _ => ?_, fun q => absurd q (by decide)⟩
    unfold wX6_addReel
    rw [i0]
    refine ⟨by unfold rc_R; omega, fun d I3 e3 => ?_, fun d => ?_⟩
    · unfold wX6_reelNumbered
      have j0 : I3 (x + 1 + 1) 0 = v 0 + 1 := by rw [e3, qs_s, rc_u_s]
      rw [j0]
      refine ⟨by unfold rc_R; omega, fun q => absurd q (by omega), fun _ => ⟨by unfold rc_R; omega, by unfold rc_R; omega, fun q => absurd q (by omega), fun _ => ⟨by unfold rc_R; omega, fun q => absurd q (by omega), fun _ => ⟨by omega, fun y => (by cases y), fun q y => ?_⟩⟩⟩⟩
      have eq : q = x + 1 + 5 + 3 * (v 0).toNat := by injection y with y; omega
      refine ⟨by rw [eq]; exact k3_of t1.2.1.2.1 (by omega), ?_⟩
      unfold wX3_renew
      intro A e4 B e5
      have uo : ∀ j : Int, j ≠ 1 + 14 * v 0 → j ≠ 2 + 14 * v 0 → j ≠ 0 → rc_u (rc_u (rc_u v (1 + 14 * v 0) a) (2 + 14 * v 0) 0) 0 (v 0 + 1) j = v j := fun j h1 h2 h3 => by rw [rc_u_n _ _ h3, rc_u_n _ _ h2, rc_u_n _ _ h1]
      have u1 : rc_u (rc_u (rc_u v (1 + 14 * v 0) a) (2 + 14 * v 0) 0) 0 (v 0 + 1) (1 + 14 * v 0) = a := by rw [rc_u_n _ _ (by omega), rc_u_n _ _ (by omega), rc_u_s]
      have u2 : rc_u (rc_u (rc_u v (1 + 14 * v 0) a) (2 + 14 * v 0) 0) 0 (v 0 + 1) (2 + 14 * v 0) = 0 := by rw [rc_u_n _ _ (by omega), rc_u_s]
      have u0 : rc_u (rc_u (rc_u v (1 + 14 * v 0) a) (2 + 14 * v 0) 0) 0 (v 0 + 1) 0 = v 0 + 1 := rc_u_s _ _ _
      have jv : rc_w B (x + 88 + 1) v = B := qw_i (by rw [e5, qs_n _ _ _ (by omega), e4, qs_n _ _ _ (by omega), e3, qs_n _ _ _ (by omega)]; exact ev.symm)
      have F : eF (x + 1) I B := by rw [e5, e4, e3]; exact eF_s (eF_s (eF_s (eF_r _ I) (by omega)) (by omega)) (by omega)
      have Bo : ∀ b : Nat, b ≠ x + 2 → b ≠ q → B b = I b := fun b h1 h2 => by rw [e5, qs_n _ _ _ h2, e4, qs_n _ _ _ h2, e3, qs_n _ _ _ h1]
      have B2 : ∀ j : Int, B (x + 2) j = if j = 0 then v 0 + 1 else I (x + 2) j := fun j => by rw [e5, qs_n _ _ _ (by omega), e4, qs_n _ _ _ (by omega), e3, qs_s, rc_ue]
      have Bq : B q 0 = a ∧ B q 1 = 0 := ⟨by rw [e5, qs_s, rc_u_n _ _ (by decide), e4, qs_s, rc_u_s], by rw [e5, qs_s, rc_u_s]⟩
      generalize hu : rc_u (rc_u (rc_u v (1 + 14 * v 0) a) (2 + 14 * v 0) 0) 0 (v 0 + 1) = u at *
      have EB : eA B (x + 1) u := by
        obtain ⟨⟨R0, R1, R2, R3, R4⟩, C, O, P⟩ := E
        have s1 := V.1.2.1
        refine ⟨⟨by rw [B2, if_pos rfl, u0], by rw [B2, if_neg (by decide), uo 149 (by omega) (by omega) (by decide)]; exact R1, fun j j0 j1 => by rw [Bo _ (by omega) (by omega), uo _ (by omega) (by omega) (by omega)]; exact R2 j j0 j1, fun j j0 j1 => ?_, fun i i0 i1 => ?_⟩, eC_c (Bo _ (by omega) (by omega)) (fun j j0 j1 => uo j (by omega) (by omega) (by omega)) C, eO_c ⟨Bo _ (by omega) (by omega), Bo _ (by omega) (by omega), Bo _ (by omega) (by omega)⟩ (uo _ (by omega) (by omega) (by omega)) (uo _ (by omega) (by omega) (by omega)) (uo _ (by omega) (by omega) (by omega)) (fun j j0 j1 => uo _ (by omega) (by omega) (by omega)) O, fun p hp => eP_c (Bo _ (by omega) (by omega)) (uo _ (by omega) (by omega) (by omega)) (uo _ (by omega) (by omega) (by omega)) (uo _ (by omega) (by omega) (by omega)) (fun y => by rw [uo 162 (by omega) (by omega) (by omega), uo 163 (by omega) (by omega) (by omega), uo 165 (by omega) (by omega) (by omega)] at y; exact y) (P p hp)⟩
        · rw [uo 149 (by omega) (by omega) (by decide)] at j1
          rw [Bo _ (by omega) (by omega), uo _ (by omega) (by omega) (by omega)]; exact R3 j j0 j1
        · rw [u0] at i1
          by_cases z : i = v 0
          · rw [z, ← eq]
            exact ⟨by rw [Bq.1, u1], by rw [Bq.2, u2], fun j j0 j1 => by rw [u2] at j1; omega⟩
          · obtain ⟨x1, x2, x3⟩ := R4 i i0 (by omega)
            have w2 := (V.1.2.2.2.2 i i0 (by omega)).2.1
            refine ⟨by rw [Bo _ (by omega) (by omega), uo _ (by omega) (by omega) (by omega)]; exact x1, by rw [Bo _ (by omega) (by omega), uo _ (by omega) (by omega) (by omega)]; exact x2, fun j j0 j1 => ?_⟩
            rw [uo _ (by omega) (by omega) (by omega)] at j1
            rw [Bo _ (by omega) (by omega), Bo _ (by omega) (by omega), uo _ (by omega) (by omega) (by omega), uo _ (by omega) (by omega) (by omega)]; exact x3 j j0 j1
      have VU : tV u := by
        obtain ⟨sa, sb, sc, sd, sf⟩ := V.1
        refine ⟨⟨by rw [u0]; omega, by rw [uo 149 (by omega) (by omega) (by decide)]; exact sb, fun j j0 j1 => ?_, ?_, fun i i0 i1 => ?_⟩, wH_c2 (fun j j0 j1 => uo j (by omega) (by omega) (by omega)) V.2.1, fun y1 y2 => wK_c V.2.1.2.2.2.2.2.2.1 (fun j j0 j1 => uo j (by omega) (by omega) (by omega)) (V.2.2 (by rw [← y1]; exact (uo _ (by omega) (by omega) (by decide)).symm) (by rw [← y2]; exact (uo _ (by omega) (by omega) (by decide)).symm))⟩
        · rw [uo 149 (by omega) (by omega) (by decide)] at j1
          have z := sc j j0 j1
          rw [uo _ (by omega) (by omega) (by omega), u0]; omega
        · rw [uo 141 (by omega) (by omega) (by decide), uo 142 (by omega) (by omega) (by decide), uo 143 (by omega) (by omega) (by decide), uo 144 (by omega) (by omega) (by decide), uo 145 (by omega) (by omega) (by decide), uo 146 (by omega) (by omega) (by decide), uo 147 (by omega) (by omega) (by decide), uo 148 (by omega) (by omega) (by decide)]; exact sd
        · rw [u0] at i1
          by_cases z : i = v 0
          · rw [z]
            exact ⟨by rw [u1]; omega, by rw [u2]; omega, fun j j0 j1 => by rw [u2] at j1; omega, fun j1 j2 y1 y2 y3 => by rw [u2] at y3; omega⟩
          · obtain ⟨w1, w2, w3, w4⟩ := sf i i0 (by omega)
            have e1 := uo (1 + 14 * i) (by omega) (by omega) (by omega)
            have e2 := uo (2 + 14 * i) (by omega) (by omega) (by omega)
            refine ⟨by rw [e1]; exact w1, by rw [e2]; exact w2, fun j j0 j1 => ?_, fun j1 j2 y1 y2 y3 => ?_⟩
            · rw [e2] at j1
              rw [e1, uo (3 + 14 * i + 2 * j) (by omega) (by omega) (by omega), uo (4 + 14 * i + 2 * j) (by omega) (by omega) (by omega)]; exact w3 j j0 j1
            · rw [e2] at y3
              rw [uo (3 + 14 * i + 2 * j1) (by omega) (by omega) (by omega), uo (3 + 14 * i + 2 * j2) (by omega) (by omega) (by omega)]; exact w4 j1 j2 y1 y2 y3
      unfold wX8_makeReel
      refine m_in ha (by unfold rc_R; omega) (by unfold rc_R; omega) ?_
      rw [if_pos c, ← jv]
      unfold wX8_at
      simp only [rc_w_s]
      refine ⟨by unfold rc_R; omega, fun _ => ⟨by unfold rc_R; omega, fun _ => ⟨by omega, fun I10 e10 => ⟨by omega, fun I14 e14 I15 e15 => ?_⟩⟩, fun y => absurd y (by omega)⟩, fun y => absurd y (by decide)⟩
      rw [pS, show (1 + 14 * v 0) + 0 = 1 + 14 * v 0 by omega] at e10
      rw [e10, pS, show (1 + 14 * v 0) + 1 = 2 + 14 * v 0 by omega] at e14
      rw [e14, pS, rc_w_s, rc_u_n _ _ (show (0 : Int) ≠ 2 + 14 * v 0 by omega), rc_u_n _ _ (show (0 : Int) ≠ 1 + 14 * v 0 by omega), hu] at e15
      rw [e15]
      exact ⟨by trivial, hk _ (tI_row t F EB VU)⟩
    · unfold wX8_makeReel
      refine m_in ha (by unfold rc_R; omega) (by unfold rc_R; omega) ?_
      have hv : I (x + 88 + 1) = v := ev.symm
      rw [if_pos c]
      simp only [hv]
      exact ⟨by unfold rc_R; omega, fun _ => ⟨by unfold rc_R; omega, fun y => absurd (show v 0 = 10 by omega) y, fun _ => ⟨trivial, hk I t⟩⟩, fun y => absurd y (by decide)⟩
  · rw [if_neg c]
    refine ⟨rc_R0, fun q => absurd rfl q, fun _ => ?_⟩
    unfold wX8_makeReel
    refine m_in ha (by unfold rc_R; omega) (by unfold rc_R; omega) ?_
    rw [if_neg c]
    exact ⟨rc_R0, fun q => absurd rfl q, fun _ => ⟨rfl, hk I t⟩⟩
