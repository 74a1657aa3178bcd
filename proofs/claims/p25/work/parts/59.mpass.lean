/-! ===== pure part: ticks of the reference ===== -/
theorem tWork_o {v : rv} {j : Int} (s : wS v) (hh : wH v) (k : wK 0 v) (h : 141 ≤ j ∧ j < 168) : tWork v j = v j := by
  obtain ⟨q162, q163, q165, q171, q172, q173, q174, qrow, q191, q195⟩ := id hh
  obtain ⟨k170, kP0, kP1, kQ⟩ := id k
  have kP : ∀ p : Int, p = 0 ∨ p = 1 → wP 0 v p := fun p hp => by rcases hp with rfl | rfl <;> assumption
  unfold tWork
  by_cases n0 : v 172 < 0
  · rw [if_pos n0]
    by_cases n1 : v 174 ≤ 0
    · rw [if_pos n1]
    · rw [if_neg n1, rc_u_n _ _ (by omega)]; exact tUp_o q174 j (by omega)
  · rw [if_neg n0]
    have wo : ∀ j : Int, j ≠ 173 → rc_u v 173 (v 173 - 1) j = v j := fun j hj => rc_u_n _ _ hj
    have sw : wS (rc_u v 173 (v 173 - 1)) := wS_lo (fun j _ hj => wo j (by omega)) s
    by_cases n1 : v 173 - 1 = 0
    · rw [if_pos n1, rc_u_n _ _ (by omega)]
      generalize rc_u v 173 (v 173 - 1) = w at *
      have hp : v 172 / 3 = 0 ∨ v 172 / 3 = 1 := by omega
      generalize hq : v 172 / 3 = p at *
      unfold tFin
      rw [hq]
      by_cases r0 : v 172 % 3 = 0
      · rw [if_pos r0, rc_u_n _ _ (by omega)]; exact wo j (by omega)
      · rw [if_neg r0]
        by_cases r1 : v 172 % 3 = 1
        · rw [if_pos r1]; unfold tComes; rw [rc_u_n _ _ (by omega), rc_u_n _ _ (by omega), rc_u_n _ _ (by omega)]; exact wo j (by omega)
        · rw [if_neg r1]
          have x := (kQ.2.1 0 p (by omega) (by omega) hp).2.1 (by show v 172 = _; omega)
          have pl := (kP _ hp).1 (Or.inl (by omega))
          obtain ⟨b1, b2, b3, bL⟩ := wS_R (p := p) sw (by rw [wo _ (by omega), wo 149 (by omega)]; exact pl)
          have bL2 : wL (tRep w p) (tR w p) := wL_lo b2 (fun j _ hj => tRep_lo hp j (by omega)) bL
          rw [tMark_o b2 bL2.2.1.2 j (by omega), tRep_lo hp j (by omega)]; exact wo j (by omega)
    · rw [if_neg n1]; exact rc_u_n _ _ (by omega)
/-- the state through a tick, each step's invariants -/
theorem inv_steps {v : rv} (s : wS v) (hh : wH v) (k : wK 0 v) (z : v 163 = 0) :
    (wS (tWork v) ∧ wH (tWork v) ∧ wK 0 (tWork v)) ∧ (wS (tStart (tWork v)) ∧ wH (tStart (tWork v)) ∧ wK 0 (tStart (tWork v))) ∧ (wS (tGo (tStart (tWork v))) ∧ wH (tGo (tStart (tWork v))) ∧ wK 1 (tGo (tStart (tWork v)))) ∧
    (wS (tWear (tGo (tStart (tWork v)))) ∧ wH (tWear (tGo (tStart (tWork v)))) ∧ wK 1 (tWear (tGo (tStart (tWork v)))) ∧ tWear (tGo (tStart (tWork v))) 163 = 0) ∧
    (wS (tRun (tWear (tGo (tStart (tWork v))))) ∧ wH (tRun (tWear (tGo (tStart (tWork v))))) ∧ (tRun (tWear (tGo (tStart (tWork v)))) 163 = 0 → wK 1 (tRun (tWear (tGo (tStart (tWork v))))) ∧ wRr (tRun (tWear (tGo (tStart (tWork v))))))) ∧
    (wS (tChange (tRun (tWear (tGo (tStart (tWork v)))))) ∧ wH (tChange (tRun (tWear (tGo (tStart (tWork v)))))) ∧ (tChange (tRun (tWear (tGo (tStart (tWork v))))) 163 = 0 → wK 0 (tChange (tRun (tWear (tGo (tStart (tWork v)))))))) ∧
    (wS (tTick v) ∧ wH (tTick v) ∧ (tTick v 163 = 0 → wK 0 (tTick v))) := by
  have hz := (tWork_o s hh k (j := 163) (by omega)).trans z
  obtain ⟨s1, h1, k1⟩ := inv_work s hh k
  obtain ⟨s2, h2, k2⟩ := inv_start s1 h1 k1
  obtain ⟨s3, h3, k3⟩ := inv_go s2 h2 k2
  obtain ⟨s4, h4, k4⟩ := inv_wear s3 h3 k3
  have z4 : tWear (tGo (tStart (tWork v))) 163 = 0 := by
    rw [tWear_o s3 h3 k3 (by omega), tGo_o (by omega) (by omega), tStart_o h1.2.2.1 (by omega)]; exact hz
  obtain ⟨s5, h5, k5⟩ := inv_run s4 h4 k4 z4
  obtain ⟨s6, h6, e6, k6⟩ := inv_change s5 h5 k5
  exact ⟨⟨s1, h1, k1⟩, ⟨s2, h2, k2⟩, ⟨s3, h3, k3⟩, ⟨s4, h4, k4, z4⟩, ⟨s5, h5, k5⟩, ⟨s6, h6, fun q => k6 (by rw [← e6]; exact q)⟩, inv_tick s hh k z hz⟩
/-- what is kept when a show runs on -/
def wZ (v : rv) : Prop := wS v ∧ wH v ∧ (v 162 = 1 → v 163 = 0 → wK 0 v)
theorem wK_162 {g : Int} {v : rv} (k : wK g v) : v 162 = 1 := k.1.2.2
theorem inv_pass (n : Nat) : ∀ {v : rv}, wS v → wH v → (v 163 = 0 → wK 0 v) → wS (tPass n v) ∧ wH (tPass n v) ∧ (tPass n v 163 = 0 → wK 0 (tPass n v)) := by
  induction n with
  | zero => exact fun s h k => ⟨s, h, k⟩
  | succ n ih =>
    intro v s h k
    rw [tPass]
    by_cases z : v 163 = 0
    · rw [if_pos z]
      obtain ⟨_, _, _, _, _, _, s7, h7, k7⟩ := inv_steps s h (k z) z
      exact ih s7 h7 k7
    · rw [if_neg z]; exact ⟨s, h, k⟩
