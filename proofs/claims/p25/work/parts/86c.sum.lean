/-! ===== pure part: ticks leave what is no part of the row; checksum ===== -/
theorem tWork_x {v : rv} {j : Int} (s : wS v) (hh : wH v) (k : wK 0 v) (h : j < 0 ∨ 199 ≤ j) : tWork v j = v j := by
  obtain ⟨q162, q163, q165, q171, q172, q173, q174, qrow, q191, q195⟩ := id hh
  obtain ⟨k170, kP0, kP1, kQ⟩ := id k
  have kP : ∀ p : Int, p = 0 ∨ p = 1 → wP 0 v p := fun p hp => by rcases hp with rfl | rfl <;> assumption
  unfold tWork
  by_cases n0 : v 172 < 0
  · rw [if_pos n0]
    by_cases n1 : v 174 ≤ 0
    · rw [if_pos n1]
    · rw [if_neg n1, rc_u_n _ _ (by omega)]; exact tUp_o q174 j (by omega)
  · rw [if_neg n0]
    have wo : ∀ j : Int, j ≠ 173 → rc_u v 173 (v 173 - 1) j = v j := fun j hj => rc_u_n _ _ hj
    have sw : wS (rc_u v 173 (v 173 - 1)) := wS_lo (fun j _ hj => wo j (by omega)) s
    by_cases n1 : v 173 - 1 = 0
    · rw [if_pos n1, rc_u_n _ _ (by omega)]
      generalize rc_u v 173 (v 173 - 1) = w at *
      have hp : v 172 / 3 = 0 ∨ v 172 / 3 = 1 := by omega
      generalize hq : v 172 / 3 = p at *
      unfold tFin
      rw [hq]
      by_cases r0 : v 172 % 3 = 0
      · rw [if_pos r0, rc_u_n _ _ (by omega)]; exact wo j (by omega)
      · rw [if_neg r0]
        by_cases r1 : v 172 % 3 = 1
        · rw [if_pos r1]; unfold tComes; rw [rc_u_n _ _ (by omega), rc_u_n _ _ (by omega), rc_u_n _ _ (by omega)]; exact wo j (by omega)
        · rw [if_neg r1]
          have x := (kQ.2.1 0 p (by omega) (by omega) hp).2.1 (by show v 172 = _; omega)
          have pl := (kP _ hp).1 (Or.inl (by omega))
          obtain ⟨b1, b2, b3, bL⟩ := wS_R (p := p) sw (by rw [wo _ (by omega), wo 149 (by omega)]; exact pl)
          have bL2 : wL (tRep w p) (tR w p) := wL_lo b2 (fun j _ hj => tRep_lo hp j (by omega)) bL
          have w2 := bL2.2.1
          have e : tMark (tRep w p) (tR w p) (w (194 + 4 * p)) 9 j = tRep w p j := by
            unfold tMark
            rcases tK_spec (tRep w p) (tR w p) (w (194 + 4 * p)) with ⟨a, b, _⟩ | ⟨a, _⟩
            · rw [if_pos a, rc_u_n _ _ (by omega)]
            · rw [if_neg (by omega)]
          rw [e]
          unfold tRep
          rw [rc_u_n _ _ (by omega), rc_u_n _ _ (by omega)]; exact wo j (by omega)
    · rw [if_neg n1]; exact rc_u_n _ _ (by omega)
theorem tStart_x {v : rv} {j : Int} (h165 : v 165 = 0 ∨ v 165 = 1) (h : j < 0 ∨ 199 ≤ j) : tStart v j = v j := by
  unfold tStart tStart1
  by_cases c : v (191 + 4 * (1 - v 165)) = 1 ∧ (v 171 = 1 ∨ (v (191 + 4 * v 165) = 3 ∧ v 171 = 0 ∧ tLen v (v 165) - v 142 ≤ v (193 + 4 * v 165)))
  · rw [if_pos c, rc_u_n _ _ (by omega), rc_u_n _ _ (by omega), rc_u_n _ _ (by omega)]
  · rw [if_neg c]
theorem tWear_x {v : rv} {j : Int} (s : wS v) (hh : wH v) (k : wK 1 v) (h : j < 0 ∨ 199 ≤ j) : tWear v j = v j := by
  obtain ⟨q162, q163, q165, q171, q172, q173, q174, qrow, q191, q195⟩ := id hh
  obtain ⟨k170, kP0, kP1, kQ⟩ := id k
  have kP : ∀ p : Int, p = 0 ∨ p = 1 → wP 1 v p := fun p hp => by rcases hp with rfl | rfl <;> assumption
  unfold tWear
  obtain ⟨f, e165⟩ : ∃ f, f = v 165 := ⟨_, rfl⟩
  rw [← e165] at q165 ⊢
  unfold tWear1
  by_cases c : v (191 + 4 * f) = 3 ∧ 0 ≤ tK v (tR v f) (v (193 + 4 * f))
  · rw [if_pos c]
    obtain ⟨b1, b2, b3, bL⟩ := wS_R s ((kP f q165).1 (Or.inr e165.symm))
    rcases tK_spec v (tR v f) (v (193 + 4 * f)) with ⟨a0, a1, a2⟩ | ⟨a0, _⟩
    · generalize tK v (tR v f) (v (193 + 4 * f)) = i at *
      have w2 := bL.2.1
      by_cases c2 : v (4 + 14 * tR v f + 2 * i) ≤ 1
      · rw [if_pos c2]
        have wo : ∀ j : Int, (141 ≤ j ∨ j < 0) → rc_u v (4 + 14 * tR v f + 2 * i) 0 j = v j := fun j hj => rc_u_n _ _ (by omega)
        generalize rc_u v (4 + 14 * tR v f + 2 * i) 0 = w at *
        have w174 := wo 174 (by omega)
        rw [← wo j (by omega)]
        have d174 : tBrk w f 174 = w 174 := tBrk_o (by omega) (by omega) (by omega)
        unfold tBreak tBrk3
        have e2 : tBrk2 (tBrk w f) f j = w j := by
          unfold tBrk2 tIns
          rw [rc_u_n _ _ (by omega), rc_u_n _ _ (by omega), if_neg (by rw [d174, w174]; omega)]
          exact tBrk_o (by omega) (by omega) (by omega)
        by_cases d : tBrk2 (tBrk w f) f (191 + 4 * (1 - f)) = 2
        · rw [if_pos d, rc_u_n _ _ (by omega)]; exact e2
        · rw [if_neg d]; exact e2
      · rw [if_neg c2, rc_u_n _ _ (by omega)]
    · omega
  · rw [if_neg c]
theorem tAdd_x {v : rv} {c j : Int} (h4 : 0 ≤ v 174 ∧ v 174 ≤ 8) (h : j < 0 ∨ 199 ≤ j) : tAdd v c j = v j := by
  unfold tAdd
  rw [rc_u_n _ _ (by omega), rc_u_n _ _ (by omega)]
theorem tAdd_4 (v : rv) (c : Int) : tAdd v c 174 = v 174 + 1 := by unfold tAdd; rw [rc_u_s]
theorem tRun_x {v : rv} {j : Int} (hh : wH v) (h : j < 0 ∨ 199 ≤ j) : tRun v j = v j := by
  obtain ⟨q162, q163, q165, q171, q172, q173, q174, qrow, q191, q195⟩ := id hh
  unfold tRun
  obtain ⟨f, e165⟩ : ∃ f, f = v 165 := ⟨_, rfl⟩
  rw [← e165] at q165 ⊢
  unfold tRun1
  by_cases c : v (191 + 4 * f) = 3 ∧ v 171 = 0 ∧ tLen v f - (if v (192 + 4 * f) = v 149 - 1 then 0 else v 143) ≤ v (193 + 4 * f)
  · rw [if_pos c]
    by_cases d : v (192 + 4 * f) = v 149 - 1
    · rw [if_pos d, rc_u_n _ _ (by omega), rc_u_n _ _ (by omega), rc_u_n _ _ (by omega)]
    · rw [if_neg d]
      have w4 : rc_u (rc_u v (191 + 4 * f) 4) 171 1 174 = v 174 := by rw [rc_u_n _ _ (by omega), rc_u_n _ _ (by omega)]
      have wj : rc_u (rc_u v (191 + 4 * f) 4) 171 1 j = v j := by rw [rc_u_n _ _ (by omega), rc_u_n _ _ (by omega)]
      generalize rc_u (rc_u v (191 + 4 * f) 4) 171 1 = w at *
      have a := tAdd_x (v := w) (c := 3 * f) (j := j) (by omega) h
      unfold tOrd
      by_cases e : w 149 - w 170 ≤ tThr (tAdd w (3 * f))
      · rw [if_pos e, a]; exact wj
      · rw [if_neg e, tAdd_x (by rw [tAdd_4]; omega) h, a]; exact wj
  · rw [if_neg c]
theorem tChange_x {v : rv} {j : Int} (h165 : v 165 = 0 ∨ v 165 = 1) (h : j < 0 ∨ 199 ≤ j) : tChange v j = v j := by
  unfold tChange tChange1
  by_cases c : v 171 = 1 ∧ v 163 = 0 ∧ v (191 + 4 * (1 - v 165)) = 2 ∧ 0 ≤ v (193 + 4 * (1 - v 165))
  · rw [if_pos c, rc_u_n _ _ (by omega), rc_u_n _ _ (by omega), rc_u_n _ _ (by omega), rc_u_n _ _ (by omega)]
  · rw [if_neg c]
theorem tTick_x {v : rv} {j : Int} (s : wS v) (hh : wH v) (k : wK 0 v) (z : v 163 = 0) (h : j < 0 ∨ 199 ≤ j) : tTick v j = v j := by
  obtain ⟨⟨s1, h1, k1⟩, ⟨s2, h2, k2⟩, ⟨s3, h3, k3⟩, ⟨s4, h4, k4, z4⟩, ⟨s5, h5, k5⟩, ⟨s6, h6, k6⟩, _⟩ := inv_steps s hh k z
  unfold tTick
  rw [tEnd_o (by omega) (by omega), tChange_x h5.2.2.1 h, tRun_x h4 h, tWear_x s3 h3 k3 h, tGo_o (by omega) (by omega), tStart_x h1.2.2.1 h, tWork_x s hh k h]
theorem tPass_x (n : Nat) : ∀ {v : rv}, wS v → wH v → (v 163 = 0 → wK 0 v) → ∀ j : Int, (j < 0 ∨ 199 ≤ j) → tPass n v j = v j := by
  induction n with
  | zero => intro v _ _ _ j _; rfl
  | succ n ih =>
    intro v s hh k j h
    rw [tPass]
    by_cases z : v 163 = 0
    · rw [if_pos z]
      obtain ⟨_, _, _, _, _, _, ⟨s7, h7, k7⟩⟩ := inv_steps s hh (k z) z
      rw [ih s7 h7 k7 j h, tTick_x s hh (k z) z h]
    · rw [if_neg z]
