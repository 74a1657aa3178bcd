/-! ===== pure part: what a tick keeps, its other steps ===== -/
theorem wQ_st {u v : rv} (q174 : 0 ≤ v 174) (q : wQ v) (h2 : u 172 = v 172) (h3 : u 174 = v 174) (h4 : ∀ k : Int, 0 ≤ k → k < v 174 → u (175 + k) = v (175 + k)) (h7 : u 170 = v 170) (h8 : u 149 = v 149)
    (h5 : ∀ p : Int, p = 0 ∨ p = 1 → u (191 + 4 * p) = v (191 + 4 * p) ∨ (v (191 + 4 * p) ≠ 0 ∧ v (191 + 4 * p) ≠ 4 ∧ v (191 + 4 * p) ≠ 5)) : wQ u := by
  obtain ⟨d, o, t⟩ := q
  have we : ∀ j : Int, 0 ≤ j → j ≤ v 174 → wE u j = wE v j := fun j j0 j1 => by
    rcases Int.lt_or_eq_of_le j0 with r | r
    · rw [wE_n u (by omega), wE_n v (by omega), show (174 : Int) + j = 175 + (j - 1) by omega]; exact h4 _ (by omega) (by omega)
    · rw [← r]; exact h2
  refine ⟨fun i j i0 i1 j1 => ?_, fun j p j0 j1 hp => ?_, ?_⟩
  · rw [h3] at j1; rw [we i i0 (by omega), we j (by omega) j1]; exact d i j i0 i1 j1
  · rw [h3] at j1
    have oj := o j p j0 j1 hp
    rw [we j j0 j1]
    rcases h5 p hp with e | e
    · rw [e]
      refine ⟨oj.1, oj.2.1, fun y => ?_⟩
      rcases oj.2.2 y with z | ⟨z, i, i0, i1, i2⟩
      · exact Or.inl z
      · exact Or.inr ⟨z, i, i0, i1, by rw [we i i0 (by omega)]; exact i2⟩
    · refine ⟨fun y => absurd (oj.1 y) e.2.1, fun y => absurd (oj.2.1 y) e.2.2, fun y => ?_⟩
      rcases oj.2.2 y with z | z
      · exact absurd z e.1
      · exact absurd z.1 e.2.1
  · unfold tThr at t ⊢
    rw [h2, h3, h7, h8, tCnt_c (u := u) (v := v) _ (fun k k0 k1 => h4 k k0 (by omega))]; exact t
theorem wH_c {u v : rv} (hh : wH v) (h162 : u 162 = v 162) (h163 : u 163 = 0 ∨ u 163 = 1) (h165 : u 165 = 0 ∨ u 165 = 1) (h171 : u 171 = 0 ∨ u 171 = 1) (h172 : u 172 = v 172) (h173 : u 173 = v 173) (h174 : u 174 = v 174)
    (hr : ∀ k : Int, 0 ≤ k → k < v 174 → u (175 + k) = v (175 + k)) (h191 : 0 ≤ u 191 ∧ u 191 ≤ 5) (h195 : 0 ≤ u 195 ∧ u 195 ≤ 5) : wH u := by
  obtain ⟨q162, q163, q165, q171, q172, q173, q174, qrow, q191, q195⟩ := hh
  refine ⟨by rw [h162]; exact q162, h163, h165, h171, by rw [h172]; exact q172, by rw [h172, h173]; exact q173, by rw [h174]; exact q174, fun k k0 k1 => ?_, h191, h195⟩
  rw [h174] at k1; rw [hr k k0 k1]; exact qrow k k0 k1
theorem inv_start {v : rv} (s : wS v) (hh : wH v) (k : wK 0 v) : wS (tStart v) ∧ wH (tStart v) ∧ wK 0 (tStart v) := by
  obtain ⟨q162, q163, q165, q171, q172, q173, q174, qrow, q191, q195⟩ := id hh
  obtain ⟨k170, kP0, kP1, kQ⟩ := id k
  rw [wP0] at kP0
  rw [wP1] at kP1
  have s1 := s.2.2.2.1.1
  unfold tStart
  rcases q165 with f | f <;> rw [f] <;> unfold tStart1 <;> simp only [Int.reduceMul, Int.reduceSub, Int.reduceAdd]
  · by_cases c : v 195 = 1 ∧ (v 171 = 1 ∨ v 191 = 3 ∧ v 171 = 0 ∧ tLen v 0 - v 142 ≤ v 193)
    · rw [if_pos c]
      generalize (v 168 + if v 171 = 1 ∨ tLen v 0 - v 142 < v 193 then 1 else 0) = z
      generalize hu : rc_u (rc_u (rc_u v 195 2) 197 (-v 141)) 168 z = u
      have uo : ∀ j : Int, j ≠ 195 → j ≠ 197 → j ≠ 168 → u j = v j := fun j a b d => by rw [← hu, rc_u_n _ _ d, rc_u_n _ _ b, rc_u_n _ _ a]
      have u195 : u 195 = 2 := by rw [← hu]; rfl
      have u197 : u 197 = -v 141 := by rw [← hu]; rfl
      refine ⟨wS_lo (fun j _ hj => uo j (by omega) (by omega) (by omega)) s, wH_c hh (uo 162 (by omega) (by omega) (by omega)) (by rw [uo 163 (by omega) (by omega) (by omega)]; exact q163) (by rw [uo 165 (by omega) (by omega) (by omega)]; omega) (by rw [uo 171 (by omega) (by omega) (by omega)]; exact q171) (uo 172 (by omega) (by omega) (by omega)) (uo 173 (by omega) (by omega) (by omega)) (uo 174 (by omega) (by omega) (by omega)) (fun k k0 k1 => uo _ (by omega) (by omega) (by omega)) (by rw [uo 191 (by omega) (by omega) (by omega)]; exact q191) (by omega), ?_, ?_, ?_, ?_⟩
      · rw [uo 170 (by omega) (by omega) (by omega), uo 149 (by omega) (by omega) (by omega), uo 162 (by omega) (by omega) (by omega)]; exact k170
      · rw [wP0, uo 191 (by omega) (by omega) (by omega), uo 165 (by omega) (by omega) (by omega), uo 192 (by omega) (by omega) (by omega), uo 149 (by omega) (by omega) (by omega), uo 171 (by omega) (by omega) (by omega), uo 193 (by omega) (by omega) (by omega), uo 194 (by omega) (by omega) (by omega), u195, u197]; omega
      · rw [wP1, uo 191 (by omega) (by omega) (by omega), uo 165 (by omega) (by omega) (by omega), uo 196 (by omega) (by omega) (by omega), uo 149 (by omega) (by omega) (by omega), uo 171 (by omega) (by omega) (by omega), uo 193 (by omega) (by omega) (by omega), uo 198 (by omega) (by omega) (by omega), u195, u197]; omega
      · exact wQ_st q174.1 kQ (uo 172 (by omega) (by omega) (by omega)) (uo 174 (by omega) (by omega) (by omega)) (fun k k0 k1 => uo _ (by omega) (by omega) (by omega)) (uo 170 (by omega) (by omega) (by omega)) (uo 149 (by omega) (by omega) (by omega)) (fun p hp => by
          rcases hp with rfl | rfl
          · exact Or.inl (uo 191 (by omega) (by omega) (by omega))
          · refine Or.inr ?_
            show v 195 ≠ 0 ∧ v 195 ≠ 4 ∧ v 195 ≠ 5
            omega)
    · rw [if_neg c]; exact ⟨s, hh, k⟩
  · by_cases c : v 191 = 1 ∧ (v 171 = 1 ∨ v 195 = 3 ∧ v 171 = 0 ∧ tLen v 1 - v 142 ≤ v 197)
    · rw [if_pos c]
      generalize (v 168 + if v 171 = 1 ∨ tLen v 1 - v 142 < v 197 then 1 else 0) = z
      generalize hu : rc_u (rc_u (rc_u v 191 2) 193 (-v 141)) 168 z = u
      have uo : ∀ j : Int, j ≠ 191 → j ≠ 193 → j ≠ 168 → u j = v j := fun j a b d => by rw [← hu, rc_u_n _ _ d, rc_u_n _ _ b, rc_u_n _ _ a]
      have u191 : u 191 = 2 := by rw [← hu]; rfl
      have u193 : u 193 = -v 141 := by rw [← hu]; rfl
      refine ⟨wS_lo (fun j _ hj => uo j (by omega) (by omega) (by omega)) s, wH_c hh (uo 162 (by omega) (by omega) (by omega)) (by rw [uo 163 (by omega) (by omega) (by omega)]; exact q163) (by rw [uo 165 (by omega) (by omega) (by omega)]; omega) (by rw [uo 171 (by omega) (by omega) (by omega)]; exact q171) (uo 172 (by omega) (by omega) (by omega)) (uo 173 (by omega) (by omega) (by omega)) (uo 174 (by omega) (by omega) (by omega)) (fun k k0 k1 => uo _ (by omega) (by omega) (by omega)) (by omega) (by rw [uo 195 (by omega) (by omega) (by omega)]; exact q195), ?_, ?_, ?_, ?_⟩
      · rw [uo 170 (by omega) (by omega) (by omega), uo 149 (by omega) (by omega) (by omega), uo 162 (by omega) (by omega) (by omega)]; exact k170
      · rw [wP0, u191, uo 165 (by omega) (by omega) (by omega), uo 192 (by omega) (by omega) (by omega), uo 149 (by omega) (by omega) (by omega), uo 171 (by omega) (by omega) (by omega), u193, uo 194 (by omega) (by omega) (by omega), uo 195 (by omega) (by omega) (by omega), uo 197 (by omega) (by omega) (by omega)]; omega
      · rw [wP1, u191, uo 165 (by omega) (by omega) (by omega), uo 196 (by omega) (by omega) (by omega), uo 149 (by omega) (by omega) (by omega), uo 171 (by omega) (by omega) (by omega), u193, uo 198 (by omega) (by omega) (by omega), uo 195 (by omega) (by omega) (by omega), uo 197 (by omega) (by omega) (by omega)]; omega
      · exact wQ_st q174.1 kQ (uo 172 (by omega) (by omega) (by omega)) (uo 174 (by omega) (by omega) (by omega)) (fun k k0 k1 => uo _ (by omega) (by omega) (by omega)) (uo 170 (by omega) (by omega) (by omega)) (uo 149 (by omega) (by omega) (by omega)) (fun p hp => by
          rcases hp with rfl | rfl
          · refine Or.inr ?_
            show v 191 ≠ 0 ∧ v 191 ≠ 4 ∧ v 191 ≠ 5
            omega
          · exact Or.inl (uo 195 (by omega) (by omega) (by omega)))
    · rw [if_neg c]; exact ⟨s, hh, k⟩
theorem tGo_o {v : rv} {j : Int} (h : j ≠ 193) (h2 : j ≠ 197) : tGo v j = v j := by
  unfold tGo; rw [tGo1_n (by omega), tGo1_n (by omega)]
theorem tGo_193 (v : rv) : tGo v 193 = v 193 + (if v 191 = 2 ∨ v 191 = 3 then 1 else 0) := by
  unfold tGo; rw [tGo1_n (by omega)]; unfold tGo1
  simp only [Int.reduceMul, Int.reduceAdd]
  by_cases c : v 191 = 2 ∨ v 191 = 3
  · rw [if_pos c, if_pos c, rc_u_s]
  · rw [if_neg c, if_neg c]; omega
theorem tGo_197 (v : rv) : tGo v 197 = v 197 + (if v 195 = 2 ∨ v 195 = 3 then 1 else 0) := by
  have e : ∀ j : Int, j ≠ 193 → tGo1 v 0 j = v j := fun j hj => tGo1_n (by omega)
  unfold tGo
  generalize tGo1 v 0 = w at *
  unfold tGo1
  simp only [Int.reduceMul, Int.reduceAdd]
  rw [e 195 (by omega)]
  by_cases c : v 195 = 2 ∨ v 195 = 3
  · rw [if_pos c, if_pos c, rc_u_s, e 197 (by omega)]
  · rw [if_neg c, if_neg c, e 197 (by omega)]; omega
theorem inv_go {v : rv} (s : wS v) (hh : wH v) (k : wK 0 v) : wS (tGo v) ∧ wH (tGo v) ∧ wK 1 (tGo v) := by
  obtain ⟨q162, q163, q165, q171, q172, q173, q174, qrow, q191, q195⟩ := id hh
  obtain ⟨k170, kP0, kP1, kQ⟩ := id k
  rw [wP0] at kP0
  rw [wP1] at kP1
  have u193 := tGo_193 v
  have u197 := tGo_197 v
  have uo : ∀ j : Int, j ≠ 193 → j ≠ 197 → tGo v j = v j := fun j a b => tGo_o a b
  generalize tGo v = u at *
  refine ⟨wS_lo (fun j _ hj => uo j (by omega) (by omega)) s, wH_c hh (uo 162 (by omega) (by omega)) (by rw [uo 163 (by omega) (by omega)]; exact q163) (by rw [uo 165 (by omega) (by omega)]; exact q165) (by rw [uo 171 (by omega) (by omega)]; exact q171) (uo 172 (by omega) (by omega)) (uo 173 (by omega) (by omega)) (uo 174 (by omega) (by omega)) (fun k k0 k1 => uo _ (by omega) (by omega)) (by rw [uo 191 (by omega) (by omega)]; exact q191) (by rw [uo 195 (by omega) (by omega)]; exact q195), ?_, ?_, ?_, ?_⟩
  · rw [uo 170 (by omega) (by omega), uo 149 (by omega) (by omega), uo 162 (by omega) (by omega)]; exact k170
  · rw [wP0, uo 191 (by omega) (by omega), uo 165 (by omega) (by omega), uo 192 (by omega) (by omega), uo 149 (by omega) (by omega), uo 171 (by omega) (by omega), uo 194 (by omega) (by omega), uo 195 (by omega) (by omega)]; omega
  · rw [wP1, uo 191 (by omega) (by omega), uo 165 (by omega) (by omega), uo 196 (by omega) (by omega), uo 149 (by omega) (by omega), uo 171 (by omega) (by omega), uo 198 (by omega) (by omega), uo 195 (by omega) (by omega)]; omega
  · exact wQ_st q174.1 kQ (uo 172 (by omega) (by omega)) (uo 174 (by omega) (by omega)) (fun k k0 k1 => uo _ (by omega) (by omega)) (uo 170 (by omega) (by omega)) (uo 149 (by omega) (by omega)) (fun p hp => Or.inl (uo _ (by omega) (by omega)))
