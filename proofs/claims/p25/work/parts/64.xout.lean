/-! ===== pure part: a tick of the program, a reel's end, the change, the end of the tick ===== -/
theorem x_runOut {G : rc_G} {r q : Nat} {I : rc_M} {v : rv} {post : rc_M → Prop} (k5 : kX5 G (r + 35)) (s : wS v) (hh : wH v) (k : wK 1 v) (z163 : v 163 = 0) (E : eA I r v) (hl : I q 0 = tLen v (v 165))
    (H : ∀ J : rc_M, eA J r (tRun v) → eF r I J → post J) : wX5_runOut G (r + 35) (r + 1) q I post := by
  obtain ⟨q162, q163, q165, q171, q172, q173, q174, qrow, q191, q195⟩ := id hh
  obtain ⟨k170, kP0, kP1, kQ⟩ := id k
  have kP : ∀ p : Int, p = 0 ∨ p = 1 → wP 1 v p := fun p hp => by rcases hp with rfl | rfl <;> assumption
  have kB : ∀ p : Int, p = 0 ∨ p = 1 → 0 ≤ v (191 + 4 * p) ∧ v (191 + 4 * p) ≤ 5 := fun p hp => by rcases hp with rfl | rfl <;> assumption
  unfold tRun at H
  obtain ⟨f, e165⟩ : ∃ f, f = v 165 := ⟨_, rfl⟩
  rw [← e165] at q165 H hl
  have hf := kB f q165
  have PF := kP f q165
  have w1 := PF.1 (Or.inr e165.symm)
  have w2 := PF.2.1
  have w3 := PF.2.2.1
  obtain ⟨b1, b2, b3, bL⟩ := wS_R s w1
  have wl := bL.1
  have el : tLen v f = v (1 + 14 * tR v f) := rfl
  rw [← el] at wl
  have s2 := s.2.1
  have s3 := s.2.2.2.1.2.2.1
  clear kP kP0 kP1 kB PF bL kQ k q191 q195
  obtain ⟨R, C, O, P⟩ := id E
  obtain ⟨c0, c1, c2, c3, c4, c5, c7, c8, c9⟩ := id C
  have Pf := P f q165
  have e7 : I (r + 35) 7 = f := c7.trans e165.symm
  have ipl := Pf.2.1 (Or.inr ⟨k170.2.2, z163, e165.symm⟩)
  unfold tRun1 at H
  have nff : r + 35 + 4 + f.toNat ≠ r + 35 ∧ r + 39 ≤ r + 35 + 4 + f.toNat ∧ r + 35 + 4 + f.toNat ≤ r + 40 := ⟨by omega, by omega, by omega⟩
  -- behind the question of the distance
  have X : ∀ x4 y0 : Int, x4 = (if v (192 + 4 * f) = v 149 - 1 then 1 else 0) → y0 = (if v (192 + 4 * f) = v 149 - 1 then 0 else v 143) → wX5_runOut_39 G post (r + 35) (r + 1) q (r + 35 + 4 + f.toNat) x4 y0 I := by
    intro x4 y0 hx hy
    rw [← hy] at H
    have ry : 0 ≤ y0 ∧ y0 ≤ 50 := by
      by_cases c : v (192 + 4 * f) = v 149 - 1
      · rw [if_pos c] at hy; omega
      · rw [if_neg c] at hy; omega
    unfold wX5_runOut_39
    rw [Pf.1, hl]
    refine ⟨by unfold rc_R; omega, fun c => ?_, fun c => ?_⟩
    · rw [if_neg (fun q => c q.1)] at H; exact H I E (eF_r r I)
    · have a3 := w3 c
      have a2 := w2 (Or.inl c)
      rw [Pf.2.2 (Or.inr (Or.inl c))]
      refine ⟨by unfold rc_R; omega, by unfold rc_R; omega, fun d => ?_, fun d => ?_⟩
      · rw [if_pos ⟨c, a2.2, d⟩] at H
        intro I16 e16 I17 e17
        have wo : ∀ j : Int, j ≠ 191 + 4 * f → j ≠ 171 → rc_u (rc_u v (191 + 4 * f) 4) 171 1 j = v j := fun j a b => by rw [rc_u_n _ _ b, rc_u_n _ _ a]
        have wf : rc_u (rc_u v (191 + 4 * f) 4) 171 1 (191 + 4 * f) = 4 := by rw [rc_u_n _ _ (by omega), rc_u_s]
        have w171 : rc_u (rc_u v (191 + 4 * f) 4) 171 1 171 = 1 := rc_u_s _ _ _
        generalize rc_u (rc_u v (191 + 4 * f) 4) 171 1 = w at *
        have Jo : ∀ a : Nat, a ≠ r + 35 → a ≠ r + 35 + 4 + f.toNat → I17 a = I a := fun a a0 a1 => by rw [e17, qs_n _ _ _ a0, e16, qs_n _ _ _ a1]
        have i16 : I16 (r + 35) = I (r + 35) := by rw [e16, qs_n _ _ _ nff.1.symm]
        have Js : ∀ j : Int, j ≠ 9 → I17 (r + 35) j = I (r + 35) j := fun j hj => by rw [e17, qs_s, rc_u_n _ _ hj, i16]
        have J9 : I17 (r + 35) 9 = 1 := by rw [e17, qs_s, rc_u_s]
        have Jp0 : I17 (r + 35 + 4 + f.toNat) 0 = 4 := by rw [e17, qs_n _ _ _ nff.1, e16, qs_s, rc_u_s]
        have Jp1 : I17 (r + 35 + 4 + f.toNat) 1 = I (r + 35 + 4 + f.toNat) 1 := by rw [e17, qs_n _ _ _ nff.1, e16, qs_s, rc_u_n _ _ (by decide)]
        have F17 : eF r I I17 := fun a ha => Jo a (by omega) (by omega)
        have sw : wS w := wS_lo (fun j _ hj => wo j (by omega) (by omega)) s
        have E17 : eA I17 r w := by
          refine eA_gen q165 s q174.2 E Jo (fun j _ hj => wo j (by omega) (by omega)) (fun j j0 hj => wo j (by omega) (by omega)) (fun j j0 hj => wo j (by omega) (by omega)) (fun y => by rw [wo 162 (by omega) (by omega), wo 163 (by omega) (by omega), wo 165 (by omega) (by omega)] at y; exact y) ?_ ?_
          · unfold eC
            rw [Js 0 (by decide), Js 1 (by decide), Js 2 (by decide), Js 3 (by decide), Js 4 (by decide), Js 5 (by decide), Js 7 (by decide), Js 8 (by decide), J9, w171, wo 162 (by omega) (by omega), wo 163 (by omega) (by omega), wo 164 (by omega) (by omega), wo 165 (by omega) (by omega), wo 166 (by omega) (by omega), wo 167 (by omega) (by omega), wo 168 (by omega) (by omega), wo 169 (by omega) (by omega), wo 170 (by omega) (by omega)]
            exact ⟨c0, c1, c2, c3, c4, c5, c7, c8, rfl⟩
          · unfold eP
            rw [Jp0, Jp1, wf, wo (192 + 4 * f) (by omega) (by omega)]
            exact ⟨rfl, fun _ => ipl, fun y => by omega⟩
        by_cases c2 : v (192 + 4 * f) = v 149 - 1
        · rw [if_pos c2] at H hx
          refine ⟨by unfold rc_R; omega, fun y => absurd y (by omega), fun _ I21 e21 => ?_⟩
          have uo : ∀ j : Int, j ≠ 163 → rc_u w 163 1 j = w j := fun j hj => rc_u_n _ _ hj
          have u163 : rc_u w 163 1 163 = 1 := rc_u_s _ _ _
          generalize rc_u w 163 1 = u at *
          obtain ⟨R1, C1, O1, P1⟩ := E17
          obtain ⟨d0, d1, d2, d3, d4, d5, d7, d8, d9⟩ := C1
          have Ko : ∀ a : Nat, a ≠ r + 35 → I21 a = I17 a := fun a a0 => by rw [e21, qs_n _ _ _ a0]
          have Ks : ∀ j : Int, j ≠ 0 → I21 (r + 35) j = I17 (r + 35) j := fun j hj => by rw [e21, qs_s, rc_u_n _ _ hj]
          refine H I21 ⟨eR_c sw (fun a a0 a1 => Ko a (by omega)) (fun j _ hj => uo j (by omega)) R1, ?_, ?_, fun p hp => ?_⟩ (fun a ha => by rw [Ko a (by omega)]; exact F17 a ha)
          · unfold eC
            rw [Ks 1 (by decide), Ks 2 (by decide), Ks 3 (by decide), Ks 4 (by decide), Ks 5 (by decide), Ks 7 (by decide), Ks 8 (by decide), Ks 9 (by decide), u163, uo 162 (by decide), uo 164 (by decide), uo 165 (by decide), uo 166 (by decide), uo 167 (by decide), uo 168 (by decide), uo 169 (by decide), uo 170 (by decide), uo 171 (by decide)]
            exact ⟨by rw [e21, qs_s, rc_u_s, if_neg (by omega)], d1, d2, d3, d4, d5, d7, d8, d9⟩
          · exact eO_c ⟨Ko _ (by omega), Ko _ (by omega), Ko _ (by omega)⟩ (uo _ (by decide)) (uo _ (by decide)) (uo _ (by decide)) (fun n n0 n1 => uo _ (by omega)) O1
          · exact eP_c (Ko _ (by omega)) (uo _ (by omega)) (uo _ (by omega)) (uo _ (by omega)) (fun y => by rw [u163] at y; exact absurd y.2.1 (by decide)) (P1 p hp)
        · rw [if_neg c2] at H hx
          refine ⟨by unfold rc_R; omega, fun _ => ?_, fun y => absurd hx y⟩
          refine x_order E17 sw (by rw [wo 172 (by omega) (by omega), wo 173 (by omega) (by omega)]; exact q173) (by rw [wo 174 (by omega) (by omega)]; exact q174) (by rw [wo 170 (by omega) (by omega), wo 149 (by omega) (by omega)]; exact ⟨k170.1, k170.2.1⟩) q165 (by rw [wo 165 (by omega) (by omega)]; exact e165.symm) (fun J EJ FJ => H J EJ (fun a ha => by rw [FJ a (by omega)]; exact F17 a ha))
      · rw [if_neg (fun y => d y.2.2)] at H; exact H I E (eF_r r I)
  unfold wX5_runOut
  refine x_front k5 q165 e7 ⟨_, rfl, k2_of k5 q165, ?_⟩
  rw [ipl, R.2.1]
  unfold wX5_runOut_23
  refine ⟨by unfold rc_R; omega, by unfold rc_R; omega, fun c => ⟨rc_R0, fun _ => ?_, fun y => absurd rfl y⟩, fun c => ⟨by unfold rc_R; omega, fun y => absurd y (by decide), fun _ => ?_⟩⟩
  · refine x_setting R (by omega) ?_
    exact X 0 _ (by rw [if_neg c]) (by rw [if_neg c, show (141 : Int) + 2 = 143 by decide])
  · exact X 1 0 (by rw [if_pos c]) (by rw [if_pos c])
theorem x_change {G : rc_G} {r : Nat} {I : rc_M} {v : rv} {post : rc_M → Prop} (k5 : kX5 G (r + 35)) (s : wS v) (hh : wH v) (z162 : v 162 = 1) (hb : v 163 = 0 → ∀ p : Int, p = 0 ∨ p = 1 → v (191 + 4 * p) = 2 → rc_R (v (193 + 4 * p))) (E : eA I r v)
    (H : ∀ J : rc_M, eA J r (tChange v) → eF r I J → post J) : wX5_changeOver G (r + 35) I post := by
  obtain ⟨q162, q163, q165, q171, q172, q173, q174, qrow, q191, q195⟩ := id hh
  have kB : ∀ p : Int, p = 0 ∨ p = 1 → 0 ≤ v (191 + 4 * p) ∧ v (191 + 4 * p) ≤ 5 := fun p hp => by rcases hp with rfl | rfl <;> assumption
  unfold tChange at H
  obtain ⟨f, e165⟩ : ∃ f, f = v 165 := ⟨_, rfl⟩
  rw [← e165] at q165 H
  have hB := kB (1 - f) (by omega)
  clear kB q191 q195 qrow q173
  obtain ⟨R, C, O, P⟩ := id E
  obtain ⟨c0, c1, c2, c3, c4, c5, c7, c8, c9⟩ := id C
  have Pb := P (1 - f) (by omega)
  have e7 : I (r + 35) 7 = f := c7.trans e165.symm
  unfold tChange1 at H
  have nbb : r + 35 + 4 + (1 - f).toNat ≠ r + 35 ∧ r + 39 ≤ r + 35 + 4 + (1 - f).toNat ∧ r + 35 + 4 + (1 - f).toNat ≤ r + 40 := ⟨by omega, by omega, by omega⟩
  have stay : ¬ (v 171 = 1 ∧ v 163 = 0 ∧ v (191 + 4 * (1 - f)) = 2 ∧ 0 ≤ v (193 + 4 * (1 - f))) → post I := fun c => by
    rw [if_neg c] at H; exact H I E (eF_r r I)
  unfold wX5_changeOver
  refine x_back k5 q165 e7 ⟨_, rfl, k2_of k5 (by omega), ?_⟩
  rw [c9, c0, Pb.1]
  refine ⟨by unfold rc_R; omega, fun a => stay (fun y => by omega), fun a => ?_⟩
  by_cases z : v 163 = 0
  · rw [if_pos ⟨z162, z⟩]
    refine ⟨by unfold rc_R; omega, fun y => absurd y (by decide), fun _ => ⟨by unfold rc_R; omega, fun y => stay (fun x => y x.2.2.1), fun y => ?_⟩⟩
    rw [Pb.2.2 (Or.inl y)]
    refine ⟨hb z _ (by omega) y, fun x => stay (fun t => by omega), fun x I12 e12 I13 e13 I14 e14 I15 e15 => ?_⟩
    have a1 : v 171 = 1 := by omega
    rw [if_pos ⟨a1, z, y, by omega⟩] at H
    have uo : ∀ j : Int, j ≠ 191 + 4 * (1 - f) → j ≠ 165 → j ≠ 171 → j ≠ 167 → rc_u (rc_u (rc_u (rc_u v (191 + 4 * (1 - f)) 3) 165 (1 - f)) 171 0) 167 (v 167 + v (193 + 4 * (1 - f))) j = v j := fun j a b d e => by rw [rc_u_n _ _ e, rc_u_n _ _ d, rc_u_n _ _ b, rc_u_n _ _ a]
    have ub : rc_u (rc_u (rc_u (rc_u v (191 + 4 * (1 - f)) 3) 165 (1 - f)) 171 0) 167 (v 167 + v (193 + 4 * (1 - f))) (191 + 4 * (1 - f)) = 3 := by rw [rc_u_n _ _ (by omega), rc_u_n _ _ (by omega), rc_u_n _ _ (by omega), rc_u_s]
    have u165 : rc_u (rc_u (rc_u (rc_u v (191 + 4 * (1 - f)) 3) 165 (1 - f)) 171 0) 167 (v 167 + v (193 + 4 * (1 - f))) 165 = 1 - f := by rw [rc_u_n _ _ (by omega), rc_u_n _ _ (by omega), rc_u_s]
    have u171 : rc_u (rc_u (rc_u (rc_u v (191 + 4 * (1 - f)) 3) 165 (1 - f)) 171 0) 167 (v 167 + v (193 + 4 * (1 - f))) 171 = 0 := by rw [rc_u_n _ _ (by omega), rc_u_s]
    have u167 : rc_u (rc_u (rc_u (rc_u v (191 + 4 * (1 - f)) 3) 165 (1 - f)) 171 0) 167 (v 167 + v (193 + 4 * (1 - f))) 167 = v 167 + v (193 + 4 * (1 - f)) := rc_u_s _ _ _
    generalize rc_u (rc_u (rc_u (rc_u v (191 + 4 * (1 - f)) 3) 165 (1 - f)) 171 0) 167 (v 167 + v (193 + 4 * (1 - f))) = u at *
    have i12s : I12 (r + 35) = I (r + 35) := by rw [e12, qs_n _ _ _ nbb.1.symm]
    have i12f : I12 (r + 35 + 4 + (1 - f).toNat) 2 = v (193 + 4 * (1 - f)) := by rw [e12, qs_s, rc_u_n _ _ (by decide), Pb.2.2 (Or.inl y)]
    rw [i12f, i12s, c3] at e13
    have i13_7 : I13 (r + 35) 7 = f := by rw [e13, qs_s, rc_u_n _ _ (by decide), i12s]; exact e7
    rw [i13_7] at e14
    have Jo : ∀ a : Nat, a ≠ r + 35 → a ≠ r + 35 + 4 + (1 - f).toNat → I15 a = I a := fun a a0 a1 => by rw [e15, qs_n _ _ _ a0, e14, qs_n _ _ _ a0, e13, qs_n _ _ _ a0, e12, qs_n _ _ _ a1]
    have Js : ∀ j : Int, j ≠ 9 → j ≠ 7 → j ≠ 3 → I15 (r + 35) j = I (r + 35) j := fun j h9 h7 h3 => by rw [e15, qs_s, rc_u_n _ _ h9, e14, qs_s, rc_u_n _ _ h7, e13, qs_s, rc_u_n _ _ h3, i12s]
    have J9 : I15 (r + 35) 9 = 0 := by rw [e15, qs_s, rc_u_s]
    have J7 : I15 (r + 35) 7 = 1 - f := by rw [e15, qs_s, rc_u_n _ _ (by decide), e14, qs_s, rc_u_s]
    have J3 : I15 (r + 35) 3 = v 167 + v (193 + 4 * (1 - f)) := by rw [e15, qs_s, rc_u_n _ _ (by decide), e14, qs_s, rc_u_n _ _ (by decide), e13, qs_s, rc_u_s]
    have Jp : I15 (r + 35 + 4 + (1 - f).toNat) = rc_u (I (r + 35 + 4 + (1 - f).toNat)) 0 3 := by rw [e15, qs_n _ _ _ nbb.1, e14, qs_n _ _ _ nbb.1, e13, qs_n _ _ _ nbb.1, e12, qs_s]
    refine H I15 (eA_gen (p := 1 - f) (by omega) s q174.2 E Jo (fun j _ hj => uo j (by omega) (by omega) (by omega) (by omega)) (fun j _ hj => uo j (by omega) (by omega) (by omega) (by omega)) (fun j j0 hj => uo j (by omega) (by omega) (by omega) (by omega)) (fun y => by rw [u165] at y; exact absurd y.2.2 (by omega)) ?_ ?_) (fun a ha => Jo a (by omega) (by omega))
    · unfold eC
      rw [Js 0 (by decide) (by decide) (by decide), Js 1 (by decide) (by decide) (by decide), Js 2 (by decide) (by decide) (by decide), Js 4 (by decide) (by decide) (by decide), Js 5 (by decide) (by decide) (by decide), Js 8 (by decide) (by decide) (by decide), J9, J7, J3, u165, u167, u171, uo 162 (by omega) (by omega) (by omega) (by omega), uo 163 (by omega) (by omega) (by omega) (by omega), uo 164 (by omega) (by omega) (by omega) (by omega), uo 166 (by omega) (by omega) (by omega) (by omega), uo 168 (by omega) (by omega) (by omega) (by omega), uo 169 (by omega) (by omega) (by omega) (by omega), uo 170 (by omega) (by omega) (by omega) (by omega)]
      exact ⟨c0, c1, c2, rfl, c4, c5, rfl, c8, rfl⟩
    · unfold eP
      rw [Jp, ub, uo (192 + 4 * (1 - f)) (by omega) (by omega) (by omega) (by omega), uo (193 + 4 * (1 - f)) (by omega) (by omega) (by omega) (by omega)]
      exact ⟨rc_u_s _ _ _, fun _ => by rw [rc_u_n _ _ (by decide)]; exact Pb.2.1 (Or.inl (by omega)), fun _ => by rw [rc_u_n _ _ (by decide)]; exact Pb.2.2 (Or.inl y)⟩
  · rw [if_neg (fun y => z y.2)]
    exact ⟨rc_R0, fun _ => stay (fun y => z y.2.1), fun y => absurd rfl y⟩
theorem x_end {G : rc_G} {r : Nat} {I : rc_M} {v : rv} {post : rc_M → Prop} (k5 : kX5 G (r + 35)) (s : wS v) (hh : wH v) (z162 : v 162 = 1) (hr : v 163 = 0 → v (191 + 4 * v 165) = 3 → v 171 = 0) (E : eA I r v)
    (H : ∀ J : rc_M, eA J r (tEnd v) → eF r I J → post J) : wX5_countTick G (r + 35) I post := by
  obtain ⟨q162, q163, q165, q171, q172, q173, q174, qrow, q191, q195⟩ := id hh
  have kB : ∀ p : Int, p = 0 ∨ p = 1 → 0 ≤ v (191 + 4 * p) ∧ v (191 + 4 * p) ≤ 5 := fun p hp => by rcases hp with rfl | rfl <;> assumption
  obtain ⟨f, e165⟩ : ∃ f, f = v 165 := ⟨_, rfl⟩
  rw [← e165] at q165 hr
  have hB := kB f q165
  clear kB q191 q195 qrow q173
  obtain ⟨R, C, O, P⟩ := id E
  obtain ⟨c0, c1, c2, c3, c4, c5, c7, c8, c9⟩ := id C
  have Pf := P f q165
  have e7 : I (r + 35) 7 = f := c7.trans e165.symm
  have fin : ∀ (J : rc_M) (z : Int), J = rc_s (rc_s I (r + 35) 1 (v 164 + 1)) (r + 35) 2 z → z = v 166 + (if v 163 = 0 ∧ (v (191 + 4 * f) ≠ 3 ∨ v 171 = 1) then 1 else 0) → post J := by
    intro J z e hz
    unfold tEnd at H
    rw [← e165, ← hz] at H
    have uo : ∀ j : Int, j ≠ 164 → j ≠ 166 → rc_u (rc_u v 164 (v 164 + 1)) 166 z j = v j := fun j a b => by rw [rc_u_n _ _ b, rc_u_n _ _ a]
    have u164 : rc_u (rc_u v 164 (v 164 + 1)) 166 z 164 = v 164 + 1 := by rw [rc_u_n _ _ (by decide), rc_u_s]
    have u166 : rc_u (rc_u v 164 (v 164 + 1)) 166 z 166 = z := rc_u_s _ _ _
    generalize rc_u (rc_u v 164 (v 164 + 1)) 166 z = u at *
    have Jo : ∀ a : Nat, a ≠ r + 35 → J a = I a := fun a a0 => by rw [e, qs_n _ _ _ a0, qs_n _ _ _ a0]
    have Js : ∀ j : Int, j ≠ 1 → j ≠ 2 → J (r + 35) j = I (r + 35) j := fun j h1 h2 => by rw [e, qs_s, rc_u_n _ _ h2, qs_s, rc_u_n _ _ h1]
    refine H J ⟨eR_c s (fun a a0 a1 => Jo a (by omega)) (fun j _ hj => uo j (by omega) (by omega)) R, ?_, ?_, fun p hp => ?_⟩ (fun a ha => Jo a (by omega))
    · unfold eC
      rw [Js 0 (by decide) (by decide), Js 3 (by decide) (by decide), Js 4 (by decide) (by decide), Js 5 (by decide) (by decide), Js 7 (by decide) (by decide), Js 8 (by decide) (by decide), Js 9 (by decide) (by decide), u164, u166, uo 162 (by decide) (by decide), uo 163 (by decide) (by decide), uo 165 (by decide) (by decide), uo 167 (by decide) (by decide), uo 168 (by decide) (by decide), uo 169 (by decide) (by decide), uo 170 (by decide) (by decide), uo 171 (by decide) (by decide)]
      exact ⟨c0, by rw [e, qs_s, rc_u_n _ _ (by decide), qs_s, rc_u_s], by rw [e, qs_s, rc_u_s], c3, c4, c5, c7, c8, c9⟩
    · exact eO_c ⟨Jo _ (by omega), Jo _ (by omega), Jo _ (by omega)⟩ (uo _ (by decide) (by decide)) (uo _ (by decide) (by decide)) (uo _ (by decide) (by decide)) (fun n n0 n1 => uo _ (by omega) (by omega)) O
    · exact eP_c (Jo _ (by omega)) (uo _ (by omega) (by omega)) (uo _ (by omega) (by omega)) (uo _ (by omega) (by omega)) (fun y => by rw [uo 162 (by decide) (by decide), uo 163 (by decide) (by decide), uo 165 (by decide) (by decide)] at y; exact y) (P p hp)
  unfold wX5_countTick
  intro I1 e1
  rw [c1] at e1
  have l2 : I1 (r + 35) 2 = v 166 := by rw [e1, qs_s, rc_u_n _ _ (by decide)]; exact c2
  have l0 : I1 (r + 35) 0 = I (r + 35) 0 := by rw [e1, qs_s, rc_u_n _ _ (by decide)]
  have l7 : I1 (r + 35) 7 = f := by rw [e1, qs_s, rc_u_n _ _ (by decide)]; exact e7
  rw [l0, c0]
  by_cases z : v 163 = 0
  · rw [if_pos ⟨z162, z⟩]
    refine ⟨by unfold rc_R; omega, fun y => absurd y (by decide), fun _ => ?_⟩
    refine x_front k5 q165 l7 ⟨_, rfl, k2_of k5 q165, ?_⟩
    have lp : I1 (r + 35 + 4 + f.toNat) 0 = v (191 + 4 * f) := by rw [e1, qs_n _ _ _ (by omega)]; exact Pf.1
    rw [lp]
    refine ⟨by unfold rc_R; omega, fun y => ?_, fun y I9 e9 => ?_⟩
    · have a := hr z y
      refine fin I1 (v 166) (by rw [← e1]; exact (qs_i _ _ _ l2).symm) ?_
      rw [if_neg (fun t => by rcases t.2 with b | b; exact b y; omega)]; omega
    · rw [l2] at e9
      refine fin I9 (v 166 + 1) (by rw [e9, e1]) ?_
      rw [if_pos ⟨z, Or.inl y⟩]
  · rw [if_neg (fun y => z y.2)]
    refine ⟨rc_R0, fun _ => ?_, fun y => absurd rfl y⟩
    refine fin I1 (v 166) (by rw [← e1]; exact (qs_i _ _ _ l2).symm) ?_
    rw [if_neg (fun t => z t.1)]; omega
