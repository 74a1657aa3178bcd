/-! ===== pure part: what a tick keeps, the whole of it ===== -/
def wRr (v : rv) : Prop := (v 191 = 3 → v 193 ≤ 3000) ∧ (v 195 = 3 → v 197 ≤ 3000)
theorem inv_run {v : rv} (s : wS v) (hh : wH v) (k : wK 1 v) (z : v 163 = 0) : wS (tRun v) ∧ wH (tRun v) ∧ (tRun v 163 = 0 → wK 1 (tRun v) ∧ wRr (tRun v)) := by
  obtain ⟨q162, q163, q165, q171, q172, q173, q174, qrow, q191, q195⟩ := id hh
  obtain ⟨k170, kP0, kP1, kQ⟩ := id k
  have kP : ∀ p : Int, p = 0 ∨ p = 1 → wP 1 v p := fun p hp => by rcases hp with rfl | rfl <;> assumption
  have s1 := s.2.2.2.1
  unfold tRun
  obtain ⟨f, e165⟩ : ∃ f, f = v 165 := ⟨_, rfl⟩
  rw [← e165] at q165 ⊢
  obtain ⟨b1, b2, b3, bL⟩ := wS_R s ((kP f q165).1 (Or.inr e165.symm))
  have wl := bL.1
  have el : tLen v f = v (1 + 14 * tR v f) := rfl
  unfold tRun1
  by_cases c : v (191 + 4 * f) = 3 ∧ v 171 = 0 ∧ tLen v f - (if v (192 + 4 * f) = v 149 - 1 then 0 else v 143) ≤ v (193 + 4 * f)
  · rw [if_pos c]
    by_cases c2 : v (192 + 4 * f) = v 149 - 1
    · rw [if_pos c2]
      generalize hu : rc_u (rc_u (rc_u v (191 + 4 * f) 4) 171 1) 163 1 = u
      have uo : ∀ j : Int, j ≠ 191 + 4 * f → j ≠ 171 → j ≠ 163 → u j = v j := fun j a b d => by rw [← hu, rc_u_n _ _ d, rc_u_n _ _ b, rc_u_n _ _ a]
      have uf : u (191 + 4 * f) = 4 := by rw [← hu, rc_u_n _ _ (by omega), rc_u_n _ _ (by omega), rc_u_s]
      have u171 : u 171 = 1 := by rw [← hu, rc_u_n _ _ (by omega), rc_u_s]
      have u163 : u 163 = 1 := by rw [← hu, rc_u_s]
      refine ⟨wS_lo (fun j _ hj => uo j (by omega) (by omega) (by omega)) s, wH_c hh (uo 162 (by omega) (by omega) (by omega)) (Or.inr u163) (by rw [uo 165 (by omega) (by omega) (by omega)]; omega) (Or.inr u171) (uo 172 (by omega) (by omega) (by omega)) (uo 173 (by omega) (by omega) (by omega)) (uo 174 (by omega) (by omega) (by omega)) (fun k k0 k1 => uo _ (by omega) (by omega) (by omega)) ?_ ?_, fun q => by omega⟩
      · rcases q165 with rfl | rfl
        · simp only [Int.reduceMul, Int.reduceAdd] at uf; omega
        · rw [uo 191 (by omega) (by omega) (by omega)]; exact q191
      · rcases q165 with rfl | rfl
        · rw [uo 195 (by omega) (by omega) (by omega)]; exact q195
        · simp only [Int.reduceMul, Int.reduceAdd] at uf; omega
    · rw [if_neg c2]
      generalize hw : rc_u (rc_u v (191 + 4 * f) 4) 171 1 = w
      have wo : ∀ j : Int, j ≠ 191 + 4 * f → j ≠ 171 → w j = v j := fun j a b => by rw [← hw, rc_u_n _ _ b, rc_u_n _ _ a]
      have wf : w (191 + 4 * f) = 4 := by rw [← hw, rc_u_n _ _ (by omega), rc_u_s]
      have w171 : w 171 = 1 := by rw [← hw, rc_u_s]
      obtain ⟨Q, n174, uo, ur⟩ := wQ_ord q165 q174 kQ c.1 (wo 172 (by omega) (by omega)) (wo 174 (by omega) (by omega)) (fun k k0 k1 => wo _ (by omega) (by omega)) wf (wo _ (by omega) (by omega)) (wo 170 (by omega) (by omega)) (wo 149 (by omega) (by omega))
      generalize tOrd w f = u at *
      have lo : ∀ j : Int, j ≠ 191 + 4 * f → j ≠ 171 → (j < 174 ∨ 185 < j) → u j = v j := fun j a b c => by rw [uo j c, wo j a b]
      have su : wS u := wS_lo (fun j _ hj => lo j (by omega) (by omega) (by omega)) s
      have uf : u (191 + 4 * f) = 4 := by rw [uo _ (by omega)]; exact wf
      have u171 : u 171 = 1 := by rw [uo _ (by omega)]; exact w171
      have u149 := lo 149 (by omega) (by omega) (by omega)
      have u162 := lo 162 (by omega) (by omega) (by omega)
      have u163 := lo 163 (by omega) (by omega) (by omega)
      have u165 := lo 165 (by omega) (by omega) (by omega)
      have u170 := lo 170 (by omega) (by omega) (by omega)
      have u172 := lo 172 (by omega) (by omega) (by omega)
      have u173 := lo 173 (by omega) (by omega) (by omega)
      have u192 := lo 192 (by omega) (by omega) (by omega)
      have u193 := lo 193 (by omega) (by omega) (by omega)
      have u194 := lo 194 (by omega) (by omega) (by omega)
      have u196 := lo 196 (by omega) (by omega) (by omega)
      have u197 := lo 197 (by omega) (by omega) (by omega)
      have u198 := lo 198 (by omega) (by omega) (by omega)
      have rows : ∀ k : Int, 0 ≤ k → k < u 174 → 0 ≤ u (175 + k) ∧ u (175 + k) ≤ 5 := fun k k0 k1 => by
        rcases ur k k0 k1 with ⟨a, b⟩ | b | b
        · rw [b]; exact qrow k k0 a
        · omega
        · omega
      have six := wE_six (v := u) (by omega) Q.1 (fun j j0 j1 => by
        rcases Int.lt_or_eq_of_le j0 with r | r
        · rw [wE_n u (by omega), show (174 : Int) + j = 175 + (j - 1) by omega]
          have := rows (j - 1) (by omega) (by omega)
          omega
        · rw [← r, wE_0, u172]; exact q172)
      have G : (0 ≤ u 191 ∧ u 191 ≤ 5) ∧ (0 ≤ u 195 ∧ u 195 ≤ 5) ∧ wP 1 u 0 ∧ wP 1 u 1 ∧ wRr u := by
        unfold wRr
        rw [wP0] at kP0 ⊢
        rw [wP1] at kP1 ⊢
        rcases q165 with rfl | rfl <;> simp only [Int.reduceMul, Int.reduceSub, Int.reduceAdd] at lo uf c
        · have u195 := lo 195 (by omega) (by omega) (by omega)
          omega
        · have u191 := lo 191 (by omega) (by omega) (by omega)
          omega
      exact ⟨su, ⟨by rw [u162]; exact q162, by rw [u163]; exact q163, by rw [u165]; omega, Or.inr u171, by rw [u172]; exact q172, by rw [u172, u173]; exact q173, by omega, rows, G.1, G.2.1⟩, fun _ => ⟨⟨by rw [u170, u149, u162]; exact k170, G.2.2.1, G.2.2.2.1, Q⟩, G.2.2.2.2⟩⟩
  · rw [if_neg c]
    refine ⟨s, hh, fun _ => ⟨k, ?_⟩⟩
    have cz : v (191 + 4 * f) = 3 → v (193 + 4 * f) ≤ 3000 := fun a => by
      have b := ((kP f q165).2.1 (Or.inl a)).2
      by_cases d : v (192 + 4 * f) = v 149 - 1
      · rw [if_pos d] at c; omega
      · rw [if_neg d] at c; omega
    rw [wP0] at kP0
    rw [wP1] at kP1
    unfold wRr
    rcases q165 with rfl | rfl <;> simp only [Int.reduceMul, Int.reduceSub, Int.reduceAdd] at cz <;> omega
theorem tChange_o {v : rv} {j : Int} (h165 : v 165 = 0 ∨ v 165 = 1) (a : j ≠ 191) (b : j ≠ 195) (c : j ≠ 165) (d : j ≠ 171) (e : j ≠ 167) : tChange v j = v j := by
  unfold tChange tChange1
  by_cases q : v 171 = 1 ∧ v 163 = 0 ∧ v (191 + 4 * (1 - v 165)) = 2 ∧ 0 ≤ v (193 + 4 * (1 - v 165))
  · rw [if_pos q, rc_u_n _ _ e, rc_u_n _ _ d, rc_u_n _ _ c, rc_u_n _ _ (by omega)]
  · rw [if_neg q]
theorem inv_change {v : rv} (s : wS v) (hh : wH v) (k : v 163 = 0 → wK 1 v ∧ wRr v) : wS (tChange v) ∧ wH (tChange v) ∧ tChange v 163 = v 163 ∧ (v 163 = 0 → wK 0 (tChange v)) := by
  obtain ⟨q162, q163, q165, q171, q172, q173, q174, qrow, q191, q195⟩ := id hh
  have uo := fun j a b c d e => tChange_o (v := v) (j := j) q165 a b c d e
  have us : (tChange v 191 = v 191 ∧ tChange v 195 = v 195 ∧ tChange v 165 = v 165 ∧ tChange v 171 = v 171 ∧ ¬ (v 171 = 1 ∧ v 163 = 0 ∧ (v 165 = 1 ∧ v 191 = 2 ∧ 0 ≤ v 193 ∨ v 165 = 0 ∧ v 195 = 2 ∧ 0 ≤ v 197))) ∨
      (tChange v 171 = 0 ∧ v 171 = 1 ∧ v 163 = 0 ∧ ((v 165 = 1 ∧ v 191 = 2 ∧ 0 ≤ v 193 ∧ tChange v 191 = 3 ∧ tChange v 195 = v 195 ∧ tChange v 165 = 0) ∨ (v 165 = 0 ∧ v 195 = 2 ∧ 0 ≤ v 197 ∧ tChange v 195 = 3 ∧ tChange v 191 = v 191 ∧ tChange v 165 = 1))) := by
    unfold tChange
    rcases q165 with f | f <;> rw [f] <;> unfold tChange1 <;> simp only [Int.reduceMul, Int.reduceSub, Int.reduceAdd]
    · by_cases q : v 171 = 1 ∧ v 163 = 0 ∧ v 195 = 2 ∧ 0 ≤ v 197
      · right
        rw [if_pos q]
        exact ⟨rfl, q.1, q.2.1, Or.inr ⟨rfl, q.2.2.1, q.2.2.2, rfl, rfl, rfl⟩⟩
      · left
        rw [if_neg q]
        refine ⟨rfl, rfl, f, rfl, ?_⟩
        omega
    · by_cases q : v 171 = 1 ∧ v 163 = 0 ∧ v 191 = 2 ∧ 0 ≤ v 193
      · right
        rw [if_pos q]
        exact ⟨rfl, q.1, q.2.1, Or.inl ⟨rfl, q.2.2.1, q.2.2.2, rfl, rfl, rfl⟩⟩
      · left
        rw [if_neg q]
        refine ⟨rfl, rfl, f, rfl, ?_⟩
        omega
  generalize tChange v = u at *
  have u149 := uo 149 (by omega) (by omega) (by omega) (by omega) (by omega)
  have u162 := uo 162 (by omega) (by omega) (by omega) (by omega) (by omega)
  have u163 := uo 163 (by omega) (by omega) (by omega) (by omega) (by omega)
  have u170 := uo 170 (by omega) (by omega) (by omega) (by omega) (by omega)
  have u172 := uo 172 (by omega) (by omega) (by omega) (by omega) (by omega)
  have u173 := uo 173 (by omega) (by omega) (by omega) (by omega) (by omega)
  have u174 := uo 174 (by omega) (by omega) (by omega) (by omega) (by omega)
  have u192 := uo 192 (by omega) (by omega) (by omega) (by omega) (by omega)
  have u193 := uo 193 (by omega) (by omega) (by omega) (by omega) (by omega)
  have u194 := uo 194 (by omega) (by omega) (by omega) (by omega) (by omega)
  have u196 := uo 196 (by omega) (by omega) (by omega) (by omega) (by omega)
  have u197 := uo 197 (by omega) (by omega) (by omega) (by omega) (by omega)
  have u198 := uo 198 (by omega) (by omega) (by omega) (by omega) (by omega)
  have ur : ∀ k : Int, 0 ≤ k → k < v 174 → u (175 + k) = v (175 + k) := fun k k0 k1 => uo _ (by omega) (by omega) (by omega) (by omega) (by omega)
  refine ⟨wS_lo (fun j _ hj => by
      by_cases c : j = 165
      · omega
      · exact uo j (by omega) (by omega) c (by omega) (by omega)) s, wH_c hh u162 (by rw [u163]; exact q163) (by omega) (by omega) u172 u173 u174 ur (by omega) (by omega), u163, fun z => ?_⟩
  obtain ⟨⟨k170, kP0, kP1, kQ⟩, kR⟩ := k z
  rw [wP0] at kP0
  rw [wP1] at kP1
  unfold wRr at kR
  refine ⟨by rw [u170, u149, u162]; exact k170, ?_, ?_, ?_⟩
  · rw [wP0]; clear q172 q173 q174 qrow ur uo; omega
  · rw [wP1]; clear q172 q173 q174 qrow ur uo; omega
  · refine wQ_st q174.1 kQ u172 u174 ur u170 u149 (fun p hp => ?_)
    rcases hp with rfl | rfl <;> simp only [Int.reduceMul, Int.reduceAdd] <;> omega
theorem tEnd_o {v : rv} {j : Int} (a : j ≠ 164) (b : j ≠ 166) : tEnd v j = v j := by unfold tEnd; rw [rc_u_n _ _ b, rc_u_n _ _ a]
theorem inv_end {v : rv} (s : wS v) (hh : wH v) (k : v 163 = 0 → wK 0 v) : wS (tEnd v) ∧ wH (tEnd v) ∧ tEnd v 163 = v 163 ∧ (v 163 = 0 → wK 0 (tEnd v)) := by
  obtain ⟨q162, q163, q165, q171, q172, q173, q174, qrow, q191, q195⟩ := id hh
  have wo : ∀ j : Int, j ≠ 164 → j ≠ 166 → tEnd v j = v j := fun j a b => tEnd_o a b
  generalize tEnd v = w at *
  refine ⟨wS_lo (fun j _ hj => wo j (by omega) (by omega)) s, wH_c hh (wo 162 (by omega) (by omega)) (by rw [wo 163 (by omega) (by omega)]; exact q163) (by rw [wo 165 (by omega) (by omega)]; exact q165) (by rw [wo 171 (by omega) (by omega)]; exact q171) (wo 172 (by omega) (by omega)) (wo 173 (by omega) (by omega)) (wo 174 (by omega) (by omega)) (fun k k0 k1 => wo _ (by omega) (by omega)) (by rw [wo 191 (by omega) (by omega)]; exact q191) (by rw [wo 195 (by omega) (by omega)]; exact q195), wo 163 (by omega) (by omega), fun z => ?_⟩
  obtain ⟨k170, kP0, kP1, kQ⟩ := k z
  refine ⟨by rw [wo 170 (by omega) (by omega), wo 149 (by omega) (by omega), wo 162 (by omega) (by omega)]; exact k170, wP_c (Or.inl rfl) (wo 149 (by omega) (by omega)) (wo 165 (by omega) (by omega)) (wo 171 (by omega) (by omega)) (fun j hj => wo j (by omega) (by omega)) kP0, wP_c (Or.inr rfl) (wo 149 (by omega) (by omega)) (wo 165 (by omega) (by omega)) (wo 171 (by omega) (by omega)) (fun j hj => wo j (by omega) (by omega)) kP1, ?_⟩
  exact wQ_st q174.1 kQ (wo 172 (by omega) (by omega)) (wo 174 (by omega) (by omega)) (fun k k0 k1 => wo _ (by omega) (by omega)) (wo 170 (by omega) (by omega)) (wo 149 (by omega) (by omega)) (fun p hp => Or.inl (wo _ (by omega) (by omega)))
theorem tStart_o {v : rv} {j : Int} (h165 : v 165 = 0 ∨ v 165 = 1) (h : j < 168) : tStart v j = v j := by
  unfold tStart tStart1
  by_cases c : v (191 + 4 * (1 - v 165)) = 1 ∧ (v 171 = 1 ∨ (v (191 + 4 * v 165) = 3 ∧ v 171 = 0 ∧ tLen v (v 165) - v 142 ≤ v (193 + 4 * v 165)))
  · rw [if_pos c, rc_u_n _ _ (by omega), rc_u_n _ _ (by omega), rc_u_n _ _ (by omega)]
  · rw [if_neg c]
theorem tWear_o {v : rv} {j : Int} (s : wS v) (hh : wH v) (k : wK 1 v) (h : 141 ≤ j ∧ j < 168) : tWear v j = v j := by
  obtain ⟨q162, q163, q165, q171, q172, q173, q174, qrow, q191, q195⟩ := id hh
  obtain ⟨k170, kP0, kP1, kQ⟩ := id k
  have kP : ∀ p : Int, p = 0 ∨ p = 1 → wP 1 v p := fun p hp => by rcases hp with rfl | rfl <;> assumption
  unfold tWear
  obtain ⟨f, e165⟩ : ∃ f, f = v 165 := ⟨_, rfl⟩
  rw [← e165] at q165 ⊢
  unfold tWear1
  by_cases c : v (191 + 4 * f) = 3 ∧ 0 ≤ tK v (tR v f) (v (193 + 4 * f))
  · rw [if_pos c]
    obtain ⟨b1, b2, b3, bL⟩ := wS_R s ((kP f q165).1 (Or.inr e165.symm))
    rcases tK_spec v (tR v f) (v (193 + 4 * f)) with ⟨a0, a1, a2⟩ | ⟨a0, _⟩
    · generalize tK v (tR v f) (v (193 + 4 * f)) = i at *
      have w2 := bL.2.1
      by_cases c2 : v (4 + 14 * tR v f + 2 * i) ≤ 1
      · rw [if_pos c2]
        have wo : ∀ j : Int, 141 ≤ j → rc_u v (4 + 14 * tR v f + 2 * i) 0 j = v j := fun j hj => rc_u_n _ _ (by omega)
        generalize rc_u v (4 + 14 * tR v f + 2 * i) 0 = w at *
        obtain ⟨uo, _⟩ := tBreak_spec (w := w) q165 (by rw [wo 174 (by omega)]; exact q174)
        rw [uo j (by omega) (by omega) (by omega) (by omega) (by omega), wo j (by omega)]
      · rw [if_neg c2, rc_u_n _ _ (by omega)]
    · omega
  · rw [if_neg c]
/-- a tick -/
theorem inv_tick {v : rv} (s : wS v) (hh : wH v) (k : wK 0 v) (z : v 163 = 0) (hz : tWork v 163 = 0) : wS (tTick v) ∧ wH (tTick v) ∧ (tTick v 163 = 0 → wK 0 (tTick v)) := by
  obtain ⟨s1, h1, k1⟩ := inv_work s hh k
  obtain ⟨s2, h2, k2⟩ := inv_start s1 h1 k1
  obtain ⟨s3, h3, k3⟩ := inv_go s2 h2 k2
  obtain ⟨s4, h4, k4⟩ := inv_wear s3 h3 k3
  have z4 : tWear (tGo (tStart (tWork v))) 163 = 0 := by
    rw [tWear_o s3 h3 k3 (by omega), tGo_o (by omega) (by omega), tStart_o h1.2.2.1 (by omega)]; exact hz
  obtain ⟨s5, h5, k5⟩ := inv_run s4 h4 k4 z4
  obtain ⟨s6, h6, e6, k6⟩ := inv_change s5 h5 k5
  obtain ⟨s7, h7, e7, k7⟩ := inv_end s6 h6 (fun q => k6 (by rw [← e6]; exact q))
  exact ⟨s7, h7, fun q => k7 (by rw [← e7]; exact q)⟩
