/-! ===== pure part: ticks of the reference ===== -/
theorem tWork_o {v : rv} {j : Int} (s : wS v) (hh : wH v) (k : wK 0 v) (h : 141 ≤ j ∧ j < 168) : tWork v j = v j := by
  obtain ⟨q162, q163, q165, q171, q172, q173, q174, qrow, q191, q195⟩ := id hh
  obtain ⟨k170, kP0, kP1, kQ⟩ := id k
  have kP : ∀ p : Int, p = 0 ∨ p = 1 → wP 0 v p := fun p hp => by rcases hp with rfl | rfl <;> assumption
  unfold tWork
  by_cases n0 : v 172 < 0
  · rw [if_pos n0]
    by_cases n1 : v 174 ≤ 0
    · rw [if_pos n1]
    · rw [if_neg n1, rc_u_n _ _ (by omega)]; exact tUp_o q174 j (by omega)
  · rw [if_neg n0]
    have wo : ∀ j : Int, j ≠ 173 → rc_u v 173 (v 173 - 1) j = v j := fun j hj => rc_u_n _ _ hj
    have sw : wS (rc_u v 173 (v 173 - 1)) := wS_lo (fun j _ hj => wo j (by omega)) s
    by_cases n1 : v 173 - 1 = 0
    · rw [if_pos n1, rc_u_n _ _ (by omega)]
      generalize rc_u v 173 (v 173 - 1) = w at *
      have hp : v 172 / 3 = 0 ∨ v 172 / 3 = 1 := by omega
      generalize hq : v 172 / 3 = p at *
      unfold tFin
      rw [hq]
      by_cases r0 : v 172 % 3 = 0
      · rw [if_pos r0, rc_u_n _ _ (by omega)]; exact wo j (by omega)
      · rw [if_neg r0]
        by_cases r1 : v 172 % 3 = 1
        · rw [if_pos r1]; unfold tComes; rw [rc_u_n _ _ (by omega), rc_u_n _ _ (by omega), rc_u_n _ _ (by omega)]; exact wo j (by omega)
        · rw [if_neg r1]
          have x := (kQ.2.1 0 p (by omega) (by omega) hp).2.1 (by show v 172 = _; omega)
          have pl := (kP _ hp).1 (Or.inl (by omega))
          obtain ⟨b1, b2, b3, bL⟩ := wS_R (p := p) sw (by rw [wo _ (by omega), wo 149 (by omega)]; exact pl)
          have bL2 : wL (tRep w p) (tR w p) := wL_lo b2 (fun j _ hj => tRep_lo hp j (by omega)) bL
          rw [tMark_o b2 bL2.2.1.2 j (by omega), tRep_lo hp j (by omega)]; exact wo j (by omega)
    · rw [if_neg n1]; exact rc_u_n _ _ (by omega)
theorem m_changes2 {G : rc_G} {m : Nat} {I : rc_M} {v : rv} {post : rc_M → Prop} (hh : wH v) (hb : v 163 = 0 → ∀ p : Int, p = 0 ∨ p = 1 → v (191 + 4 * p) = 2 → rc_R (v (193 + 4 * p))) (h : post (rc_w I (m + 1) (tChange v))) : wX8_changes G m (rc_w I (m + 1) v) post := by
  by_cases z : v 163 = 0
  · exact m_changes hh (hb z) h
  · obtain ⟨_, q163, q165, q171, _⟩ := id hh
    unfold wX8_changes
    simp only [rc_w_s]
    have e : tChange v = v := by unfold tChange tChange1; rw [if_neg (fun q => z q.2.1)]
    rw [e] at h
    refine ⟨by unfold rc_R; omega, fun _ => h, fun _ => ⟨by unfold rc_R; omega, fun _ => h, fun q => absurd q z⟩⟩
/-- the state through a tick, each step's invariants -/
theorem inv_steps {v : rv} (s : wS v) (hh : wH v) (k : wK 0 v) (z : v 163 = 0) :
    (wS (tWork v) ∧ wH (tWork v) ∧ wK 0 (tWork v)) ∧ (wS (tStart (tWork v)) ∧ wH (tStart (tWork v)) ∧ wK 0 (tStart (tWork v))) ∧ (wS (tGo (tStart (tWork v))) ∧ wH (tGo (tStart (tWork v))) ∧ wK 1 (tGo (tStart (tWork v)))) ∧
    (wS (tWear (tGo (tStart (tWork v)))) ∧ wH (tWear (tGo (tStart (tWork v)))) ∧ wK 1 (tWear (tGo (tStart (tWork v)))) ∧ tWear (tGo (tStart (tWork v))) 163 = 0) ∧
    (wS (tRun (tWear (tGo (tStart (tWork v))))) ∧ wH (tRun (tWear (tGo (tStart (tWork v))))) ∧ (tRun (tWear (tGo (tStart (tWork v)))) 163 = 0 → wK 1 (tRun (tWear (tGo (tStart (tWork v))))) ∧ wRr (tRun (tWear (tGo (tStart (tWork v))))))) ∧
    (wS (tChange (tRun (tWear (tGo (tStart (tWork v)))))) ∧ wH (tChange (tRun (tWear (tGo (tStart (tWork v)))))) ∧ (tChange (tRun (tWear (tGo (tStart (tWork v))))) 163 = 0 → wK 0 (tChange (tRun (tWear (tGo (tStart (tWork v)))))))) ∧
    (wS (tTick v) ∧ wH (tTick v) ∧ (tTick v 163 = 0 → wK 0 (tTick v))) := by
  have hz := (tWork_o s hh k (j := 163) (by omega)).trans z
  obtain ⟨s1, h1, k1⟩ := inv_work s hh k
  obtain ⟨s2, h2, k2⟩ := inv_start s1 h1 k1
  obtain ⟨s3, h3, k3⟩ := inv_go s2 h2 k2
  obtain ⟨s4, h4, k4⟩ := inv_wear s3 h3 k3
  have z4 : tWear (tGo (tStart (tWork v))) 163 = 0 := by
    rw [tWear_o s3 h3 k3 (by omega), tGo_o (by omega) (by omega), tStart_o h1.2.2.1 (by omega)]; exact hz
  obtain ⟨s5, h5, k5⟩ := inv_run s4 h4 k4 z4
  obtain ⟨s6, h6, e6, k6⟩ := inv_change s5 h5 k5
  exact ⟨⟨s1, h1, k1⟩, ⟨s2, h2, k2⟩, ⟨s3, h3, k3⟩, ⟨s4, h4, k4, z4⟩, ⟨s5, h5, k5⟩, ⟨s6, h6, fun q => k6 (by rw [← e6]; exact q)⟩, inv_tick s hh k z hz⟩
theorem m_ticks {G : rc_G} {m : Nat} {I : rc_M} {v : rv} {post : rc_M → Prop} (s : wS v) (hh : wH v) (k : wK 0 v) (z : v 163 = 0) (h : post (rc_w I (m + 1) (tTick v))) : wX8_ticks G m (rc_w I (m + 1) v) post := by
  obtain ⟨⟨s1, h1, k1⟩, ⟨s2, h2, k2⟩, ⟨s3, h3, k3⟩, ⟨s4, h4, k4, z4⟩, ⟨s5, h5, k5⟩, ⟨s6, h6, k6⟩, _⟩ := inv_steps s hh k z
  unfold wX8_ticks
  refine m_works s hh k (m_starts s1 h1 (by omega) k1 (m_goes h2 (m_wears s3 h3 (by omega) k3 (m_runsOut s4 h4 k4 (m_changes2 h5 (fun q p hp c => ?_) (m_end h6 h))))))
  obtain ⟨k5', _⟩ := k5 q
  have w : wP 1 (tRun (tWear (tGo (tStart (tWork v))))) p := by rcases hp with rfl | rfl; exact k5'.2.1; exact k5'.2.2.1
  have a := w.2.2.2.2 c
  have q171 := h5.2.2.2.1
  generalize tRun (tWear (tGo (tStart (tWork v)))) = u at *
  have w2 : wP 1 u (1 - p) := by rcases hp with rfl | rfl; exact k5'.2.2.1; exact k5'.2.1
  rcases q171 with r | r
  · have b := a.2.2.1 r
    have d := w2.2.2.1 b.1
    unfold rc_R; omega
  · have b := a.2.2.2 r
    unfold rc_R; omega
/-- what is kept when a show runs on -/
def wZ (v : rv) : Prop := wS v ∧ wH v ∧ (v 162 = 1 → v 163 = 0 → wK 0 v)
theorem wK_162 {g : Int} {v : rv} (k : wK g v) : v 162 = 1 := k.1.2.2
theorem inv_pass (n : Nat) : ∀ {v : rv}, wS v → wH v → (v 163 = 0 → wK 0 v) → wS (tPass n v) ∧ wH (tPass n v) ∧ (tPass n v 163 = 0 → wK 0 (tPass n v)) := by
  induction n with
  | zero => exact fun s h k => ⟨s, h, k⟩
  | succ n ih =>
    intro v s h k
    rw [tPass]
    by_cases z : v 163 = 0
    · rw [if_pos z]
      obtain ⟨_, _, _, _, _, _, s7, h7, k7⟩ := inv_steps s h (k z) z
      exact ih s7 h7 k7
    · rw [if_neg z]; exact ⟨s, h, k⟩
theorem m_passes {G : rc_G} {m : Nat} {I : rc_M} {v : rv} {a : Int} {post : Int → rc_M → Prop} (ha : 0 ≤ a ∧ a ≤ 20000) (s : wS v) (hh : wH v) (k : v 163 = 0 → wK 0 v) (h : post (tPassN a.toNat v) (rc_w I (m + 1) (tPass a.toNat v))) :
    wX8_passes G m a (rc_w I (m + 1) v) post := by
  have L : ∀ (d : Nat) (x : Int) (v : rv), 0 ≤ x → a - x = d → wS v → wH v → (v 163 = 0 → wK 0 v) → post (x + tPassN d v) (rc_w I (m + 1) (tPass d v)) → ∃ n, rX8_passes_2 G post m a n x (rc_w I (m + 1) v) := by
    intro d
    induction d with
    | zero =>
      intro x v x0 hd s hh k h
      refine ⟨1, ?_⟩
      show wX8_passes_2 G post m a _ x (rc_w I (m + 1) v)
      unfold wX8_passes_2
      rw [tPassN, tPass, Int.add_zero] at h
      exact ⟨by unfold rc_R; omega, by unfold rc_R; omega, fun _ => h, fun q => absurd q (by omega)⟩
    | succ d ih =>
      intro x v x0 hd s hh k h
      have q163 := hh.2.1
      rw [tPassN, tPass] at h
      by_cases z : v 163 = 0
      · rw [if_pos z, if_pos z] at h
        obtain ⟨_, _, _, _, _, _, s7, h7, k7⟩ := inv_steps s hh (k z) z
        obtain ⟨n, hn⟩ := ih (x + 1) (tTick v) (by omega) (by omega) s7 h7 k7 (by rw [show x + 1 + tPassN d (tTick v) = x + (1 + tPassN d (tTick v)) by omega]; exact h)
        refine ⟨n + 1, ?_⟩
        show wX8_passes_2 G post m a (rX8_passes_2 G post m a n) x (rc_w I (m + 1) v)
        unfold wX8_passes_2
        rw [rc_w_s]
        exact ⟨by unfold rc_R; omega, by unfold rc_R; omega, fun q => absurd q (by omega), fun _ => ⟨by unfold rc_R; omega, fun q => absurd z q, fun _ => m_ticks s hh (k z) z hn⟩⟩
      · rw [if_neg z, if_neg z, Int.add_zero] at h
        refine ⟨1, ?_⟩
        show wX8_passes_2 G post m a _ x (rc_w I (m + 1) v)
        unfold wX8_passes_2
        rw [rc_w_s]
        exact ⟨by unfold rc_R; omega, by unfold rc_R; omega, fun q => absurd q (by omega), fun _ => ⟨by unfold rc_R; omega, fun _ => h, fun q => absurd q z⟩⟩
  exact L a.toNat 0 v (by omega) (by omega) s hh k (by rw [Int.zero_add]; exact h)
