/-! ===== pure part: a tick of the program, wear ===== -/
theorem x_wear {G : rc_G} {r q : Nat} {I : rc_M} {v : rv} {post : rc_M → Prop} (k5 : kX5 G (r + 35)) (s : wS v) (hh : wH v) (k : wK 1 v) (E : eA I r v) (hq : q = r + 5 + 3 * (tR v (v 165)).toNat)
    (H : ∀ J : rc_M, eA J r (tWear v) → eF r I J → (∀ j : Int, J q j = I q j) → post J) : wX5_wearSplice G (r + 35) q I post := by
  obtain ⟨q162, q163, q165, q171, q172, q173, q174, qrow, q191, q195⟩ := id hh
  obtain ⟨k170, kP0, kP1, kQ⟩ := id k
  have kP : ∀ p : Int, p = 0 ∨ p = 1 → wP 1 v p := fun p hp => by rcases hp with rfl | rfl <;> assumption
  have kB : ∀ p : Int, p = 0 ∨ p = 1 → 0 ≤ v (191 + 4 * p) ∧ v (191 + 4 * p) ≤ 5 := fun p hp => by rcases hp with rfl | rfl <;> assumption
  unfold tWear at H
  obtain ⟨f, e165⟩ : ∃ f, f = v 165 := ⟨_, rfl⟩
  rw [← e165] at q165 H hq
  obtain ⟨R, C, O, P⟩ := id E
  obtain ⟨c0, c1, c2, c3, c4, c5, c7, c8, c9⟩ := id C
  have Pf := P f q165
  have hb := kB (1 - f) (by omega)
  have hf := kB f q165
  have e7 : I (r + 35) 7 = f := c7.trans e165.symm
  obtain ⟨b1, b2, b3, bL⟩ := wS_R s ((kP f q165).1 (Or.inr e165.symm))
  have eLq : eL I q v (tR v f) := by rw [hq]; exact R.2.2.2.2 _ b2.1 b3
  have w2 := bL.2.1
  unfold tWear1 at H
  unfold wX5_wearSplice
  refine x_front k5 q165 e7 ⟨_, rfl, k2_of k5 q165, ?_⟩
  rw [Pf.1]
  refine ⟨by unfold rc_R; omega, fun c => ?_, fun c => ?_⟩
  · rw [if_neg (fun q => c q.1)] at H
    exact H I E (eF_r r I) (fun _ => rfl)
  · have w3 := (kP f q165).2.2.1 c
    rw [Pf.2.2 (by omega)]
    refine x_breaksAt eLq bL (by unfold rc_R; omega) (fun z => ?_) (fun z0 z1 z2 => ?_) (fun z0 z1 z2 => ?_)
    · rw [if_neg (fun q => absurd q.2 (by omega))] at H
      exact ⟨by unfold rc_R; omega, fun q => absurd rfl q, fun _ => H I E (eF_r r I) (fun _ => rfl)⟩
    · rw [if_pos ⟨c, z0⟩, if_pos z2] at H
      generalize tK v (tR v f) (v (193 + 4 * f)) = i at *
      have E1 := eA_str (x := 0) s q174 E ⟨b2.1, b3⟩ ⟨z0, z1⟩
      rw [← hq] at E1
      have F1 : eF r I (rc_s I (q + 2) i 0) := eF_s (eF_r r I) (by omega)
      have Q1 : ∀ j : Int, rc_s I (q + 2) i 0 q j = I q j := fun j => by rw [qs_n _ _ _ (by omega)]
      have wo : ∀ j : Int, 141 ≤ j → rc_u v (4 + 14 * tR v f + 2 * i) 0 j = v j := fun j hj => rc_u_n _ _ (by omega)
      have sw := wS_str s ⟨b2.1, b3⟩ ⟨z0, z1⟩ (show (0 : Int) ≤ 0 ∧ (0 : Int) ≤ 9 by omega)
      generalize rc_u v (4 + 14 * tR v f + 2 * i) 0 = w at *
      generalize rc_s I (q + 2) i 0 = I1 at *
      refine ⟨by unfold rc_R; omega, fun _ => ?_, fun q => absurd q (by omega)⟩
      exact x_brk k5 q165 (by rw [wo 174 (by omega)]; exact q174) sw (by rw [wo _ (by omega)]; exact hb) (by rw [wo _ (by omega)]; exact c) ((wo 165 (by omega)).trans e165.symm) E1 (fun J EJ FJ => H J EJ (fun a ha => by rw [FJ a (by omega)]; exact F1 a ha) (fun j => by rw [FJ q (by omega)]; exact Q1 j))
    · rw [if_pos ⟨c, z0⟩, if_neg z2] at H
      have E1 := eA_str (x := v (4 + 14 * tR v f + 2 * tK v (tR v f) (v (193 + 4 * f))) - 1) s q174 E ⟨b2.1, b3⟩ ⟨z0, z1⟩
      rw [← hq] at E1
      exact ⟨by unfold rc_R; omega, fun q => absurd rfl q, fun _ => H _ E1 (eF_s (eF_r r I) (by omega)) (fun j => by rw [qs_n _ _ _ (by omega)])⟩
