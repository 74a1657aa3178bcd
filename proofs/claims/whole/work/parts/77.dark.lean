/-! ===== pure part: what is dark with another setting ===== -/
theorem op_dark {G : rc_G} {x : Nat} {I : rc_M} {n z : Int} {k : rc_M → Prop} (t : tI G x I) (hn : rc_R n) (hz : rc_R z) (hk : ∀ J : rc_M, tI G x J → k J) : wX7_darkWith G x n z I (fun r1 I1 => wX8_darkWith G (x + 88) n z I1 (fun r2 I2 => r1 = r2 ∧ k I2)) := by
  obtain ⟨t0, t1, t2, E, V, t5, t6, t7⟩ := id t
  obtain ⟨v, ev⟩ : ∃ v, v = I (x + 89) := ⟨_, rfl⟩
  rw [← ev] at E V
  have n6 := V.2.1.2.2.2.2.2.2.1.2
  have s1 := V.1.2.1
  have i1 : I (x + 1 + 1) 1 = v 149 := E.1.2.1
  -- the reference's part, up to its question
  have M : ∀ J : rc_M, J (x + 89) = v → J (x + 93) = I (x + 93) → J (x + 94) = I (x + 94) → ∀ post : Int → rc_M → Prop, (okS n z → v 149 ≠ 0 → wX8_keeps G (x + 88) J (fun I13 => (0 ≤ 141 + n ∧ 141 + n < 199) ∧ (∀ I15, I15 = rc_s I13 (x + 88 + 1) (141 + n) z → wX8_opens G (x + 88) I15 (fun I16 => wX8_passes G (x + 88) 20000 I16 (fun r18 I17 => rc_R (I17 (x + 88 + 1) 163) ∧ ((¬ (I17 (x + 88 + 1) 163) = 0 → wX8_darkWith_100 G post (x + 88) n z  (I17 (x + 88 + 1) 166) I17) ∧ ((I17 (x + 88 + 1) 163) = 0 → wX8_darkWith_100 G post (x + 88) n z  (-100005) I17))))))) →
      (okS n z → v 149 = 0 → post (-100003) J) → ((0 ≤ n ∧ n < 8) → ¬ okS n z → post (-100002) J) → (¬ (0 ≤ n ∧ n < 8) → post (-100001) J) → wX8_darkWith G (x + 88) n z J post := by
    intro J j89 j93 j94 post h0 h1 h2 h3
    have hv : J (x + 88 + 1) = v := j89
    unfold wX8_darkWith
    refine m_in hn (by unfold rc_R; omega) (by unfold rc_R; omega) ?_
    by_cases c : 0 ≤ n ∧ n ≤ 7
    · rw [if_pos c]
      refine ⟨by unfold rc_R; omega, fun _ => ⟨by omega, by omega, ?_⟩, fun q => absurd q (by decide)⟩
      have l := lohi (n := n) (by omega)
      have e5 : J (x + 88 + 5) n = rc_lo n := by show J (x + 93) n = _; rw [j93]; exact (t6 n (by omega) (by omega)).1
      have e6 : J (x + 88 + 6) n = rc_hi n := by show J (x + 94) n = _; rw [j94]; exact (t6 n (by omega) (by omega)).2
      rw [e5, e6]
      refine m_in hz (by unfold rc_R; omega) (by unfold rc_R; omega) ?_
      by_cases d : rc_lo n ≤ z ∧ z ≤ rc_hi n
      · rw [if_pos d, hv]
        refine ⟨by unfold rc_R; omega, fun _ => ⟨by unfold rc_R; omega, fun y => h0 ⟨by omega, d⟩ y, fun y => h1 ⟨by omega, d⟩ y⟩, fun q => absurd q (by decide)⟩
      · rw [if_neg d]
        exact ⟨rc_R0, fun q => absurd rfl q, fun _ => h2 (by omega) (fun q => d q.2)⟩
    · rw [if_neg c]
      exact ⟨rc_R0, fun q => absurd rfl q, fun _ => h3 (by omega)⟩
  unfold wX7_darkWith
  refine x_setErr hn hz (fun c => ⟨rc_R0, fun _ => ?_, fun q => absurd rfl q⟩) (fun c d => ⟨by unfold rc_R; omega, fun q => absurd q (by decide), fun _ => ?_⟩) (fun c => ⟨by unfold rc_R; omega, fun q => absurd q (by decide), fun _ => ?_⟩)
  · rw [i1]
    refine ⟨by unfold rc_R; omega, fun y => ?_, fun y => ?_⟩
    · refine x_copy (r := x + 42) (r0 := x + 1) (by omega) V.1 V.2.1 E (fun J EJ FJ => ?_)
      refine x_changeSet V.1 n6 c hz EJ (fun K EK FK => ?_)
      have VS := tV_set V c
      have c8 := c.1
      have w149 : rc_u v (141 + n) z 149 = v 149 := rc_u_n _ _ (by omega)
      refine x_open VS.1 EK.1 (fun L EL FL => ?_)
      have VO := tV_open VS.1 (by rw [w149]; exact y)
      have u163 : tOpen (rc_u v (141 + n) z) 163 = 0 := ((tOpen_spec (rc_u v (141 + n) z)).2.1 163 (by decide) (by decide) (by decide)).trans tOp1_hi.2.1
      have u162 : tOpen (rc_u v (141 + n) z) 162 = 1 := ((tOpen_spec (rc_u v (141 + n) z)).2.1 162 (by decide) (by decide) (by decide)).trans tOp1_hi.1
      have KO := VO.2.2 u162 u163
      refine x_run t1.2.2.1 (by omega) VO.1 VO.2.1 (fun _ => KO) EL (fun N EN FN => ?_)
      have P := inv_pass 20000 VO.1 VO.2.1 (fun _ => KO)
      rw [show (20000 : Int).toNat = 20000 from rfl] at EN
      refine x_foretold EN P.2.1 (fun q => wK_162 (P.2.2 q)) (by omega) ?_
      have lo : ∀ b : Nat, (b < x + 42 ∨ x + 82 < b) → N b = I b := fun b hb => by rw [FN b (by omega), FL b (by omega), FK b (by omega), FJ b (by omega)]
      have nv : N (x + 89) = v := by rw [lo _ (by omega)]; exact ev.symm
      refine M N nv (lo _ (by omega)) (lo _ (by omega)) _ (fun _ _ => ?_) (fun _ q => absurd q y) (fun _ q => absurd c q) (fun q => absurd c.1 q)
      refine m_keeps (m := x + 88) nv rfl ⟨by omega, fun I15 e15 => ?_⟩
      have g1 : rc_w N (x + 88 + 2) (tCp v (N (x + 88 + 2)) 199) (x + 88 + 1) = v := by rw [rc_w_n _ _ (by omega)]; exact nv
      have g2 : I15 = rc_w (rc_w N (x + 88 + 2) (tCp v (N (x + 88 + 2)) 199)) (x + 88 + 1) (rc_u v (141 + n) z) := by
        rw [e15]; unfold rc_s; rw [g1]
      rw [g2]
      refine m_opens (by rw [w149]; unfold rc_R; omega) ?_
      refine m_passes (by omega) VO.1 VO.2.1 (fun _ => KO) ?_
      rw [show (20000 : Int).toNat = 20000 from rfl]
      generalize tPass 20000 (tOpen (rc_u v (141 + n) z)) = u at *
      have q163 := P.2.1.2.1
      have fin : ∀ y0 : Int, y0 = tFore u 1 → wX8_darkWith_100 G (fun r2 I2 => tFore u 1 = r2 ∧ k I2) (x + 88) n z y0 (rc_w (rc_w N (x + 88 + 2) (tCp v (N (x + 88 + 2)) 199)) (x + 88 + 1) u) := by
        intro y0 hy
        unfold wX8_darkWith_100
        refine m_comesBack (v := u) (w := tCp v (N (x + 88 + 2)) 199) (rc_w_s _ _ _) (by rw [rc_w_n _ _ (by omega), rc_w_s]) ⟨hy.symm, hk _ (tI_same t (fun b hb => ?_) (fun j j0 j1 => ?_))⟩
        · rw [rc_w_n _ _ (by omega), rc_w_n _ _ (by omega), rc_w_n _ _ (by omega)]; exact lo b (by omega)
        · have e : rc_w (rc_w (rc_w N (x + 88 + 2) (tCp v (N (x + 88 + 2)) 199)) (x + 88 + 1) u) (x + 88 + 1) (tCp (tCp v (N (x + 88 + 2)) 199) u 199) (x + 89) = tCp (tCp v (N (x + 88 + 2)) 199) u 199 := rc_w_s _ _ _
          rw [e, ← ev]
          unfold tCp
          rw [if_pos ⟨j0, j1⟩, if_pos ⟨j0, j1⟩]
      simp only [rc_w_s]
      refine ⟨by unfold rc_R; omega, fun q => fin _ ?_, fun q => fin _ ?_⟩
      · unfold tFore; rw [if_neg q, if_neg (by decide)]; rfl
      · unfold tFore; rw [if_pos q]
    · exact M I ev.symm rfl rfl _ (fun _ q => absurd y q) (fun _ _ => ⟨rfl, hk I t⟩) (fun _ q => absurd c q) (fun q => absurd c.1 q)
  · exact M I ev.symm rfl rfl _ (fun y => absurd y d) (fun y => absurd y d) (fun _ _ => ⟨rfl, hk I t⟩) (fun y => absurd c y)
  · exact M I ev.symm rfl rfl _ (fun y => absurd y.1 c) (fun y => absurd y.1 c) (fun y => absurd y c) (fun _ => ⟨rfl, hk I t⟩)
