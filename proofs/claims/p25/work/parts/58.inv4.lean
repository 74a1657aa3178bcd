/-! ===== pure part: what a tick keeps, the whole of it ===== -/
def wRr (v : rv) : Prop := ∀ p : Int, p = 0 ∨ p = 1 → v (191 + 4 * p) = 3 → v (193 + 4 * p) ≤ 3000
theorem inv_run {v : rv} (s : wS v) (hh : wH v) (k : wK 1 v) (z : v 163 = 0) : wS (tRun v) ∧ wH (tRun v) ∧ (tRun v 163 = 0 → wK 1 (tRun v) ∧ wRr (tRun v)) := by
  obtain ⟨q162, q163, q165, q171, q172, q173, q174, qrow, q191, q195⟩ := id hh
  obtain ⟨k170, kP0, kP1, kQ⟩ := id k
  have kP : ∀ p : Int, p = 0 ∨ p = 1 → wP 1 v p := fun p hp => by rcases hp with rfl | rfl <;> assumption
  have s1 := s.2.2.2.1
  unfold tRun
  obtain ⟨f, e165⟩ : ∃ f, f = v 165 := ⟨_, rfl⟩
  rw [← e165] at q165 ⊢
  obtain ⟨b1, b2, b3, bL⟩ := wS_R s ((kP f q165).1 (Or.inr e165.symm))
  have wl := bL.1
  have el : tLen v f = v (1 + 14 * tR v f) := rfl
  unfold tRun1
  by_cases c : v (191 + 4 * f) = 3 ∧ v 171 = 0 ∧ tLen v f - (if v (192 + 4 * f) = v 149 - 1 then 0 else v 143) ≤ v (193 + 4 * f)
  · rw [if_pos c]
    by_cases c2 : v (192 + 4 * f) = v 149 - 1
    · rw [if_pos c2]
      generalize hu : rc_u (rc_u (rc_u v (191 + 4 * f) 4) 171 1) 163 1 = u
      have uo : ∀ j : Int, j ≠ 191 + 4 * f → j ≠ 171 → j ≠ 163 → u j = v j := fun j a b d => by rw [← hu, rc_u_n _ _ d, rc_u_n _ _ b, rc_u_n _ _ a]
      have uf : u (191 + 4 * f) = 4 := by rw [← hu, rc_u_n _ _ (by omega), rc_u_n _ _ (by omega), rc_u_s]
      have u171 : u 171 = 1 := by rw [← hu, rc_u_n _ _ (by omega), rc_u_s]
      have u163 : u 163 = 1 := by rw [← hu, rc_u_s]
      have kB : ∀ p : Int, p = 0 ∨ p = 1 → 0 ≤ v (191 + 4 * p) ∧ v (191 + 4 * p) ≤ 5 := fun p hp => by rcases hp with rfl | rfl <;> assumption
      have A3 := wB_both (u := u) q165 (by omega) (by rw [uo _ (by omega) (by omega) (by omega)]; exact kB (1 - f) (by omega))
      refine ⟨wS_lo (fun j _ hj => uo j (by omega) (by omega) (by omega)) s, wH_c hh (uo 162 (by omega) (by omega) (by omega)) (Or.inr u163) (by rw [uo 165 (by omega) (by omega) (by omega)]; omega) (Or.inr u171) (uo 172 (by omega) (by omega) (by omega)) (uo 173 (by omega) (by omega) (by omega)) (uo 174 (by omega) (by omega) (by omega)) (fun k k0 k1 => uo _ (by omega) (by omega) (by omega)) ?_ ?_, fun q => by omega⟩
      · exact A3.1
      · exact A3.2
    · rw [if_neg c2]
      generalize hw : rc_u (rc_u v (191 + 4 * f) 4) 171 1 = w
      have wo : ∀ j : Int, j ≠ 191 + 4 * f → j ≠ 171 → w j = v j := fun j a b => by rw [← hw, rc_u_n _ _ b, rc_u_n _ _ a]
      have wf : w (191 + 4 * f) = 4 := by rw [← hw, rc_u_n _ _ (by omega), rc_u_s]
      have w171 : w 171 = 1 := by rw [← hw, rc_u_s]
      obtain ⟨Q, n174, uo, ur⟩ := wQ_ord q165 q174 kQ c.1 (wo 172 (by omega) (by omega)) (wo 174 (by omega) (by omega)) (fun k k0 k1 => wo _ (by omega) (by omega)) wf (wo _ (by omega) (by omega)) (wo 170 (by omega) (by omega)) (wo 149 (by omega) (by omega))
      generalize tOrd w f = u at *
      have lo : ∀ j : Int, j ≠ 191 + 4 * f → j ≠ 171 → (j < 174 ∨ 185 < j) → u j = v j := fun j a b c => by rw [uo j c, wo j a b]
      have su : wS u := wS_lo (fun j _ hj => lo j (by omega) (by omega) (by omega)) s
      have uf : u (191 + 4 * f) = 4 := by rw [uo _ (by omega)]; exact wf
      have u171 : u 171 = 1 := by rw [uo _ (by omega)]; exact w171
      have u149 := lo 149 (by omega) (by omega) (by omega)
      have u162 := lo 162 (by omega) (by omega) (by omega)
      have u163 := lo 163 (by omega) (by omega) (by omega)
      have u165 := lo 165 (by omega) (by omega) (by omega)
      have u170 := lo 170 (by omega) (by omega) (by omega)
      have u172 := lo 172 (by omega) (by omega) (by omega)
      have u173 := lo 173 (by omega) (by omega) (by omega)
      have rows : ∀ k : Int, 0 ≤ k → k < u 174 → 0 ≤ u (175 + k) ∧ u (175 + k) ≤ 5 := fun k k0 k1 => by
        rcases ur k k0 k1 with ⟨a, b⟩ | b | b
        · rw [b]; exact qrow k k0 a
        · omega
        · omega
      have six := wE_six (v := u) (by omega) Q.1 (fun j j0 j1 => by
        rcases Int.lt_or_eq_of_le j0 with r | r
        · rw [wE_n u (by omega), show (174 : Int) + j = 175 + (j - 1) by omega]
          have := rows (j - 1) (by omega) (by omega)
          omega
        · rw [← r, wE_0, u172]; exact q172)
      have kB : ∀ p : Int, p = 0 ∨ p = 1 → 0 ≤ v (191 + 4 * p) ∧ v (191 + 4 * p) ≤ 5 := fun p hp => by rcases hp with rfl | rfl <;> assumption
      have P := kP f q165
      have y := P.2.2.1 c.1
      have B := kB (1 - f) (by omega)
      have e1 : 1 - (1 - f) = f := by omega
      have ub1 := lo (191 + 4 * (1 - f)) (by omega) (by omega) (by omega)
      have ub2 := lo (192 + 4 * (1 - f)) (by omega) (by omega) (by omega)
      have ub3 := lo (193 + 4 * (1 - f)) (by omega) (by omega) (by omega)
      have A : wP 1 u f := wP_idle (Or.inr (Or.inr uf)) (by rw [lo (192 + 4 * f) (by omega) (by omega) (by omega), u149]; exact P.1 (Or.inl (by omega)))
      obtain ⟨w1, w2, w3, w4, w5⟩ := kP (1 - f) (by omega)
      have n3 : ¬ (v (191 + 4 * (1 - f)) = 3 ∨ v (191 + 4 * (1 - f)) = 5) := fun q => by have := (w2 q).1; omega
      have A1 : wP 1 u (1 - f) := by
        unfold wP
        rw [ub1, ub2, ub3, u149, u165]
        refine ⟨w1, fun q => absurd q n3, fun q => absurd (Or.inl q) n3, fun q => absurd (Or.inr q) n3, fun q => ?_⟩
        have a := w5 q
        have b := a.2.2.1 c.2.1
        rw [e1] at b
        exact ⟨a.1, a.2.1, fun z => by omega, fun _ => ⟨fun z => by omega, by omega⟩⟩
      have A2 := wP_both q165 A A1
      have A3 := wB_both (u := u) q165 (by omega) (show 0 ≤ u (191 + 4 * (1 - f)) ∧ u (191 + 4 * (1 - f)) ≤ 5 by rw [ub1]; exact B)
      have AR : wRr u := fun p hp q => by
        by_cases e : p = f
        · rw [e, uf] at q; omega
        · have e2 : p = 1 - f := by omega
          rw [e2, ub1] at q
          exact absurd (Or.inl q) n3
      have G : (0 ≤ u 191 ∧ u 191 ≤ 5) ∧ (0 ≤ u 195 ∧ u 195 ≤ 5) ∧ wP 1 u 0 ∧ wP 1 u 1 ∧ wRr u := ⟨A3.1, A3.2, A2.1, A2.2, AR⟩
      exact ⟨su, ⟨by rw [u162]; exact q162, by rw [u163]; exact q163, by rw [u165]; omega, Or.inr u171, by rw [u172]; exact q172, by rw [u172, u173]; exact q173, by omega, rows, G.1, G.2.1⟩, fun _ => ⟨⟨by rw [u170, u149, u162]; exact k170, G.2.2.1, G.2.2.2.1, Q⟩, G.2.2.2.2⟩⟩
  · rw [if_neg c]
    refine ⟨s, hh, fun _ => ⟨k, ?_⟩⟩
    have cz : v (191 + 4 * f) = 3 → v (193 + 4 * f) ≤ 3000 := fun a => by
      have b := ((kP f q165).2.1 (Or.inl a)).2
      by_cases d : v (192 + 4 * f) = v 149 - 1
      · rw [if_pos d] at c; omega
      · rw [if_neg d] at c; omega
    intro p hp q
    by_cases e : p = f
    · rw [e] at q ⊢; exact cz q
    · have a := ((kP p hp).2.1 (Or.inl q)).1
      omega
theorem inv_change {v : rv} (s : wS v) (hh : wH v) (k : v 163 = 0 → wK 1 v ∧ wRr v) : wS (tChange v) ∧ wH (tChange v) ∧ tChange v 163 = v 163 ∧ (v 163 = 0 → wK 0 (tChange v)) := by
  obtain ⟨q162, q163, q165, q171, q172, q173, q174, qrow, q191, q195⟩ := id hh
  unfold tChange
  obtain ⟨f, e165⟩ : ∃ f, f = v 165 := ⟨_, rfl⟩
  rw [← e165] at q165 ⊢
  have kB : ∀ p : Int, p = 0 ∨ p = 1 → 0 ≤ v (191 + 4 * p) ∧ v (191 + 4 * p) ≤ 5 := fun p hp => by rcases hp with rfl | rfl <;> assumption
  unfold tChange1
  by_cases c : v 171 = 1 ∧ v 163 = 0 ∧ v (191 + 4 * (1 - f)) = 2 ∧ 0 ≤ v (193 + 4 * (1 - f))
  · rw [if_pos c]
    obtain ⟨⟨k170, kP0, kP1, kQ⟩, kR⟩ := k c.2.1
    have kP : ∀ p : Int, p = 0 ∨ p = 1 → wP 1 v p := fun p hp => by rcases hp with rfl | rfl <;> assumption
    generalize hu : rc_u (rc_u (rc_u (rc_u v (191 + 4 * (1 - f)) 3) 165 (1 - f)) 171 0) 167 (v 167 + v (193 + 4 * (1 - f))) = u
    have uo : ∀ j : Int, j ≠ 191 + 4 * (1 - f) → j ≠ 165 → j ≠ 171 → j ≠ 167 → u j = v j := fun j a b d e => by rw [← hu, rc_u_n _ _ e, rc_u_n _ _ d, rc_u_n _ _ b, rc_u_n _ _ a]
    have ub : u (191 + 4 * (1 - f)) = 3 := by rw [← hu, rc_u_n _ _ (by omega), rc_u_n _ _ (by omega), rc_u_n _ _ (by omega), rc_u_s]
    have u165 : u 165 = 1 - f := by rw [← hu, rc_u_n _ _ (by omega), rc_u_n _ _ (by omega), rc_u_s]
    have u171 : u 171 = 0 := by rw [← hu, rc_u_n _ _ (by omega), rc_u_s]
    have u149 := uo 149 (by omega) (by omega) (by omega) (by omega)
    have uf1 := uo (191 + 4 * f) (by omega) (by omega) (by omega) (by omega)
    have uf2 := uo (192 + 4 * f) (by omega) (by omega) (by omega) (by omega)
    have ub2 := uo (192 + 4 * (1 - f)) (by omega) (by omega) (by omega) (by omega)
    have ub3 := uo (193 + 4 * (1 - f)) (by omega) (by omega) (by omega) (by omega)
    obtain ⟨w1, w2, w3, w4, w5⟩ := kP f q165
    obtain ⟨x1, x2, x3, x4, x5⟩ := kP (1 - f) (by omega)
    have n3 : ¬ (v (191 + 4 * f) = 3 ∨ v (191 + 4 * f) = 5) := fun q => by have := (w2 q).2; omega
    have n2 : ¬ v (191 + 4 * f) = 2 := fun q => by have := (w5 q).1; omega
    have B : wP 0 u (1 - f) := wP_show ub (by rw [ub2, u149]; exact x1 (Or.inl (by omega))) u165 u171 (by
      have := ((x5 c.2.2.1).2.2.2 c.1).2
      rw [ub3]; omega)
    have A : wP 0 u f := by
      unfold wP
      rw [uf1, uf2, u149, u165]
      exact ⟨fun q => w1 (Or.inl (by omega)), fun q => absurd q n3, fun q => absurd (Or.inl q) n3, fun q => absurd (Or.inr q) n3, fun q => absurd q n2⟩
    have A2 := wP_both q165 A B
    have A3 := wB_both (u := u) q165 (show 0 ≤ u (191 + 4 * f) ∧ u (191 + 4 * f) ≤ 5 by rw [uf1]; exact kB f q165) (by omega)
    refine ⟨wS_lo (fun j _ hj => uo j (by omega) (by omega) (by omega) (by omega)) s, wH_c hh (uo 162 (by omega) (by omega) (by omega) (by omega)) (by rw [uo 163 (by omega) (by omega) (by omega) (by omega)]; exact q163) (by rw [u165]; omega) (Or.inl u171) (uo 172 (by omega) (by omega) (by omega) (by omega)) (uo 173 (by omega) (by omega) (by omega) (by omega)) (uo 174 (by omega) (by omega) (by omega) (by omega)) (fun k k0 k1 => uo _ (by omega) (by omega) (by omega) (by omega)) A3.1 A3.2, uo 163 (by omega) (by omega) (by omega) (by omega), fun _ => ⟨?_, A2.1, A2.2, ?_⟩⟩
    · rw [uo 170 (by omega) (by omega) (by omega) (by omega), u149, uo 162 (by omega) (by omega) (by omega) (by omega)]; exact k170
    · exact wQ_st q174.1 kQ (uo 172 (by omega) (by omega) (by omega) (by omega)) (uo 174 (by omega) (by omega) (by omega) (by omega)) (fun k k0 k1 => uo _ (by omega) (by omega) (by omega) (by omega)) (uo 170 (by omega) (by omega) (by omega) (by omega)) u149 (fun p hp => by
        by_cases e : p = f
        · rw [e]; exact Or.inl uf1
        · have e2 : p = 1 - f := by omega
          rw [e2]; exact Or.inr (by omega))
  · rw [if_neg c]
    refine ⟨s, hh, rfl, fun z => ?_⟩
    obtain ⟨⟨k170, kP0, kP1, kQ⟩, kR⟩ := k z
    have A : ∀ p : Int, p = 0 ∨ p = 1 → wP 1 v p → wP 0 v p := fun p hp w => by
      obtain ⟨w1, w2, w3, w4, w5⟩ := w
      refine ⟨w1, w2, fun q => ⟨(w3 q).1, by have := kR p hp q; omega⟩, w4, fun q => ⟨(w5 q).1, (w5 q).2.1, (w5 q).2.2.1, fun y => ⟨fun _ => ?_, ((w5 q).2.2.2 y).2⟩⟩⟩
      have a := (w5 q).1
      have e2 : p = 1 - f := by omega
      subst e2
      rcases Int.lt_or_le (v (193 + 4 * (1 - f))) 0 with r | r
      · exact r
      · exact absurd ⟨y, z, q, r⟩ c
    exact ⟨k170, A 0 (Or.inl rfl) kP0, A 1 (Or.inr rfl) kP1, kQ⟩
theorem tEnd_o {v : rv} {j : Int} (a : j ≠ 164) (b : j ≠ 166) : tEnd v j = v j := by unfold tEnd; rw [rc_u_n _ _ b, rc_u_n _ _ a]
theorem inv_end {v : rv} (s : wS v) (hh : wH v) (k : v 163 = 0 → wK 0 v) : wS (tEnd v) ∧ wH (tEnd v) ∧ tEnd v 163 = v 163 ∧ (v 163 = 0 → wK 0 (tEnd v)) := by
  obtain ⟨q162, q163, q165, q171, q172, q173, q174, qrow, q191, q195⟩ := id hh
  have wo : ∀ j : Int, j ≠ 164 → j ≠ 166 → tEnd v j = v j := fun j a b => tEnd_o a b
  generalize tEnd v = w at *
  refine ⟨wS_lo (fun j _ hj => wo j (by omega) (by omega)) s, wH_c hh (wo 162 (by omega) (by omega)) (by rw [wo 163 (by omega) (by omega)]; exact q163) (by rw [wo 165 (by omega) (by omega)]; exact q165) (by rw [wo 171 (by omega) (by omega)]; exact q171) (wo 172 (by omega) (by omega)) (wo 173 (by omega) (by omega)) (wo 174 (by omega) (by omega)) (fun k k0 k1 => wo _ (by omega) (by omega)) (by rw [wo 191 (by omega) (by omega)]; exact q191) (by rw [wo 195 (by omega) (by omega)]; exact q195), wo 163 (by omega) (by omega), fun z => ?_⟩
  obtain ⟨k170, kP0, kP1, kQ⟩ := k z
  refine ⟨by rw [wo 170 (by omega) (by omega), wo 149 (by omega) (by omega), wo 162 (by omega) (by omega)]; exact k170, wP_c (Or.inl rfl) (wo 149 (by omega) (by omega)) (wo 165 (by omega) (by omega)) (wo 171 (by omega) (by omega)) (fun j hj => wo j (by omega) (by omega)) kP0, wP_c (Or.inr rfl) (wo 149 (by omega) (by omega)) (wo 165 (by omega) (by omega)) (wo 171 (by omega) (by omega)) (fun j hj => wo j (by omega) (by omega)) kP1, ?_⟩
  exact wQ_st q174.1 kQ (wo 172 (by omega) (by omega)) (wo 174 (by omega) (by omega)) (fun k k0 k1 => wo _ (by omega) (by omega)) (wo 170 (by omega) (by omega)) (wo 149 (by omega) (by omega)) (fun p hp => Or.inl (wo _ (by omega) (by omega)))
theorem tStart_o {v : rv} {j : Int} (h165 : v 165 = 0 ∨ v 165 = 1) (h : j < 168) : tStart v j = v j := by
  unfold tStart tStart1
  by_cases c : v (191 + 4 * (1 - v 165)) = 1 ∧ (v 171 = 1 ∨ (v (191 + 4 * v 165) = 3 ∧ v 171 = 0 ∧ tLen v (v 165) - v 142 ≤ v (193 + 4 * v 165)))
  · rw [if_pos c, rc_u_n _ _ (by omega), rc_u_n _ _ (by omega), rc_u_n _ _ (by omega)]
  · rw [if_neg c]
theorem tWear_o {v : rv} {j : Int} (s : wS v) (hh : wH v) (k : wK 1 v) (h : 141 ≤ j ∧ j < 168) : tWear v j = v j := by
  obtain ⟨q162, q163, q165, q171, q172, q173, q174, qrow, q191, q195⟩ := id hh
  obtain ⟨k170, kP0, kP1, kQ⟩ := id k
  have kP : ∀ p : Int, p = 0 ∨ p = 1 → wP 1 v p := fun p hp => by rcases hp with rfl | rfl <;> assumption
  unfold tWear
  obtain ⟨f, e165⟩ : ∃ f, f = v 165 := ⟨_, rfl⟩
  rw [← e165] at q165 ⊢
  unfold tWear1
  by_cases c : v (191 + 4 * f) = 3 ∧ 0 ≤ tK v (tR v f) (v (193 + 4 * f))
  · rw [if_pos c]
    obtain ⟨b1, b2, b3, bL⟩ := wS_R s ((kP f q165).1 (Or.inr e165.symm))
    rcases tK_spec v (tR v f) (v (193 + 4 * f)) with ⟨a0, a1, a2⟩ | ⟨a0, _⟩
    · generalize tK v (tR v f) (v (193 + 4 * f)) = i at *
      have w2 := bL.2.1
      by_cases c2 : v (4 + 14 * tR v f + 2 * i) ≤ 1
      · rw [if_pos c2]
        have wo : ∀ j : Int, 141 ≤ j → rc_u v (4 + 14 * tR v f + 2 * i) 0 j = v j := fun j hj => rc_u_n _ _ (by omega)
        generalize rc_u v (4 + 14 * tR v f + 2 * i) 0 = w at *
        obtain ⟨uo, _⟩ := tBreak_spec (w := w) q165 (by rw [wo 174 (by omega)]; exact q174)
        rw [uo j (by omega) (by omega) (by omega) (by omega) (by omega), wo j (by omega)]
      · rw [if_neg c2, rc_u_n _ _ (by omega)]
    · omega
  · rw [if_neg c]
/-- a tick -/
theorem inv_tick {v : rv} (s : wS v) (hh : wH v) (k : wK 0 v) (z : v 163 = 0) (hz : tWork v 163 = 0) : wS (tTick v) ∧ wH (tTick v) ∧ (tTick v 163 = 0 → wK 0 (tTick v)) := by
  obtain ⟨s1, h1, k1⟩ := inv_work s hh k
  obtain ⟨s2, h2, k2⟩ := inv_start s1 h1 k1
  obtain ⟨s3, h3, k3⟩ := inv_go s2 h2 k2
  obtain ⟨s4, h4, k4⟩ := inv_wear s3 h3 k3
  have z4 : tWear (tGo (tStart (tWork v))) 163 = 0 := by
    rw [tWear_o s3 h3 k3 (by omega), tGo_o (by omega) (by omega), tStart_o h1.2.2.1 (by omega)]; exact hz
  obtain ⟨s5, h5, k5⟩ := inv_run s4 h4 k4 z4
  obtain ⟨s6, h6, e6, k6⟩ := inv_change s5 h5 k5
  obtain ⟨s7, h7, e7, k7⟩ := inv_end s6 h6 (fun q => k6 (by rw [← e6]; exact q))
  exact ⟨s7, h7, fun q => k7 (by rw [← e7]; exact q)⟩
