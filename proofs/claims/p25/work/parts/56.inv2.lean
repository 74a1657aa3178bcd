/-! ===== pure part: what a tick keeps, its other steps ===== -/
theorem wQ_st {u v : rv} (q174 : 0 ≤ v 174) (q : wQ v) (h2 : u 172 = v 172) (h3 : u 174 = v 174) (h4 : ∀ k : Int, 0 ≤ k → k < v 174 → u (175 + k) = v (175 + k)) (h7 : u 170 = v 170) (h8 : u 149 = v 149)
    (h5 : ∀ p : Int, p = 0 ∨ p = 1 → u (191 + 4 * p) = v (191 + 4 * p) ∨ (v (191 + 4 * p) ≠ 0 ∧ v (191 + 4 * p) ≠ 4 ∧ v (191 + 4 * p) ≠ 5)) : wQ u := by
  obtain ⟨d, o, t⟩ := q
  have we : ∀ j : Int, 0 ≤ j → j ≤ v 174 → wE u j = wE v j := fun j j0 j1 => by
    rcases Int.lt_or_eq_of_le j0 with r | r
    · rw [wE_n u (by omega), wE_n v (by omega), show (174 : Int) + j = 175 + (j - 1) by omega]; exact h4 _ (by omega) (by omega)
    · rw [← r]; exact h2
  refine ⟨fun i j i0 i1 j1 => ?_, fun j p j0 j1 hp => ?_, ?_⟩
  · rw [h3] at j1; rw [we i i0 (by omega), we j (by omega) j1]; exact d i j i0 i1 j1
  · rw [h3] at j1
    have oj := o j p j0 j1 hp
    rw [we j j0 j1]
    rcases h5 p hp with e | e
    · rw [e]
      refine ⟨oj.1, oj.2.1, fun y => ?_⟩
      rcases oj.2.2 y with z | ⟨z, i, i0, i1, i2⟩
      · exact Or.inl z
      · exact Or.inr ⟨z, i, i0, i1, by rw [we i i0 (by omega)]; exact i2⟩
    · refine ⟨fun y => absurd (oj.1 y) e.2.1, fun y => absurd (oj.2.1 y) e.2.2, fun y => ?_⟩
      rcases oj.2.2 y with z | z
      · exact absurd z e.1
      · exact absurd z.1 e.2.1
  · unfold tThr at t ⊢
    rw [h2, h3, h7, h8, tCnt_c (u := u) (v := v) _ (fun k k0 k1 => h4 k k0 (by omega))]; exact t
theorem wH_c {u v : rv} (hh : wH v) (h162 : u 162 = v 162) (h163 : u 163 = 0 ∨ u 163 = 1) (h165 : u 165 = 0 ∨ u 165 = 1) (h171 : u 171 = 0 ∨ u 171 = 1) (h172 : u 172 = v 172) (h173 : u 173 = v 173) (h174 : u 174 = v 174)
    (hr : ∀ k : Int, 0 ≤ k → k < v 174 → u (175 + k) = v (175 + k)) (h191 : 0 ≤ u 191 ∧ u 191 ≤ 5) (h195 : 0 ≤ u 195 ∧ u 195 ≤ 5) : wH u := by
  obtain ⟨q162, q163, q165, q171, q172, q173, q174, qrow, q191, q195⟩ := hh
  refine ⟨by rw [h162]; exact q162, h163, h165, h171, by rw [h172]; exact q172, by rw [h172, h173]; exact q173, by rw [h174]; exact q174, fun k k0 k1 => ?_, h191, h195⟩
  rw [h174] at k1; rw [hr k k0 k1]; exact qrow k k0 k1
theorem inv_start {v : rv} (s : wS v) (hh : wH v) (k : wK 0 v) : wS (tStart v) ∧ wH (tStart v) ∧ wK 0 (tStart v) := by
  obtain ⟨q162, q163, q165, q171, q172, q173, q174, qrow, q191, q195⟩ := id hh
  obtain ⟨k170, kP0, kP1, kQ⟩ := id k
  have kP : ∀ p : Int, p = 0 ∨ p = 1 → wP 0 v p := fun p hp => by rcases hp with rfl | rfl <;> assumption
  have kB : ∀ p : Int, p = 0 ∨ p = 1 → 0 ≤ v (191 + 4 * p) ∧ v (191 + 4 * p) ≤ 5 := fun p hp => by rcases hp with rfl | rfl <;> assumption
  have s1 := s.2.2.2.1.1
  unfold tStart
  obtain ⟨f, e165⟩ : ∃ f, f = v 165 := ⟨_, rfl⟩
  rw [← e165] at q165 ⊢
  unfold tStart1
  by_cases c : v (191 + 4 * (1 - f)) = 1 ∧ (v 171 = 1 ∨ (v (191 + 4 * f) = 3 ∧ v 171 = 0 ∧ tLen v f - v 142 ≤ v (193 + 4 * f)))
  · rw [if_pos c]
    generalize (v 168 + if v 171 = 1 ∨ tLen v f - v 142 < v (193 + 4 * f) then 1 else 0) = z
    generalize hu : rc_u (rc_u (rc_u v (191 + 4 * (1 - f)) 2) (193 + 4 * (1 - f)) (-v 141)) 168 z = u
    have uo : ∀ j : Int, j ≠ 191 + 4 * (1 - f) → j ≠ 193 + 4 * (1 - f) → j ≠ 168 → u j = v j := fun j a b d => by rw [← hu, rc_u_n _ _ d, rc_u_n _ _ b, rc_u_n _ _ a]
    have ub : u (191 + 4 * (1 - f)) = 2 := by rw [← hu, rc_u_n _ _ (by omega), rc_u_n _ _ (by omega), rc_u_s]
    have ub3 : u (193 + 4 * (1 - f)) = -v 141 := by rw [← hu, rc_u_n _ _ (by omega), rc_u_s]
    have u149 := uo 149 (by omega) (by omega) (by omega)
    have u165 := uo 165 (by omega) (by omega) (by omega)
    have u171 := uo 171 (by omega) (by omega) (by omega)
    have uf := uo (191 + 4 * f) (by omega) (by omega) (by omega)
    have uf3 := uo (193 + 4 * f) (by omega) (by omega) (by omega)
    have P := kP f q165
    have e1 : 1 - (1 - f) = f := by omega
    have O := kP (1 - f) (by omega)
    have A : wP 0 u f := wP_oth P u149 u165 u171 uf (uo _ (by omega) (by omega) (by omega)) uf3 (uo _ (by omega) (by omega) (by omega)) (fun q _ => by have := (P.2.2.2.2 q).1; omega)
    have B : wP 0 u (1 - f) := wP_st ub (by rw [uo (192 + 4 * (1 - f)) (by omega) (by omega) (by omega), u149]; exact O.1 (Or.inl (by omega))) (by rw [u165]; omega) (by omega) (fun q => by
      rw [e1, uf, uf3, ub3]
      have a := P.2.2.1
      rw [u171] at q
      omega) (fun q => by rw [ub3]; omega)
    have A2 := wP_both q165 A B
    have A3 := wB_both (u := u) q165 (by rw [uf]; exact kB f q165) (by omega)
    refine ⟨wS_lo (fun j _ hj => uo j (by omega) (by omega) (by omega)) s, wH_c hh (uo 162 (by omega) (by omega) (by omega)) (by rw [uo 163 (by omega) (by omega) (by omega)]; exact q163) (by rw [u165]; omega) (by rw [u171]; exact q171) (uo 172 (by omega) (by omega) (by omega)) (uo 173 (by omega) (by omega) (by omega)) (uo 174 (by omega) (by omega) (by omega)) (fun k k0 k1 => uo _ (by omega) (by omega) (by omega)) A3.1 A3.2, ?_, A2.1, A2.2, ?_⟩
    · rw [uo 170 (by omega) (by omega) (by omega), u149, uo 162 (by omega) (by omega) (by omega)]; exact k170
    · exact wQ_st q174.1 kQ (uo 172 (by omega) (by omega) (by omega)) (uo 174 (by omega) (by omega) (by omega)) (fun k k0 k1 => uo _ (by omega) (by omega) (by omega)) (uo 170 (by omega) (by omega) (by omega)) u149 (fun p hp => by
        by_cases e : p = f
        · rw [e]; exact Or.inl uf
        · have e2 : p = 1 - f := by omega
          rw [e2]; exact Or.inr (by omega))
  · rw [if_neg c]; exact ⟨s, hh, k⟩
theorem tGo_o {v : rv} {j : Int} (h : j ≠ 193) (h2 : j ≠ 197) : tGo v j = v j := by
  unfold tGo; rw [tGo1_n (by omega), tGo1_n (by omega)]
theorem tGo_193 (v : rv) : tGo v 193 = v 193 + (if v 191 = 2 ∨ v 191 = 3 then 1 else 0) := by
  unfold tGo; rw [tGo1_n (by omega)]; unfold tGo1
  simp only [Int.reduceMul, Int.reduceAdd]
  by_cases c : v 191 = 2 ∨ v 191 = 3
  · rw [if_pos c, if_pos c, rc_u_s]
  · rw [if_neg c, if_neg c]; omega
theorem tGo_197 (v : rv) : tGo v 197 = v 197 + (if v 195 = 2 ∨ v 195 = 3 then 1 else 0) := by
  have e : ∀ j : Int, j ≠ 193 → tGo1 v 0 j = v j := fun j hj => tGo1_n (by omega)
  unfold tGo
  generalize tGo1 v 0 = w at *
  unfold tGo1
  simp only [Int.reduceMul, Int.reduceAdd]
  rw [e 195 (by omega)]
  by_cases c : v 195 = 2 ∨ v 195 = 3
  · rw [if_pos c, if_pos c, rc_u_s, e 197 (by omega)]
  · rw [if_neg c, if_neg c, e 197 (by omega)]; omega
theorem inv_go {v : rv} (s : wS v) (hh : wH v) (k : wK 0 v) : wS (tGo v) ∧ wH (tGo v) ∧ wK 1 (tGo v) := by
  obtain ⟨q162, q163, q165, q171, q172, q173, q174, qrow, q191, q195⟩ := id hh
  obtain ⟨k170, kP0, kP1, kQ⟩ := id k
  have kP : ∀ p : Int, p = 0 ∨ p = 1 → wP 0 v p := fun p hp => by rcases hp with rfl | rfl <;> assumption
  have ufr : ∀ p : Int, p = 0 ∨ p = 1 → tGo v (193 + 4 * p) = v (193 + 4 * p) + (if v (191 + 4 * p) = 2 ∨ v (191 + 4 * p) = 3 then 1 else 0) := fun p hp => by
    rcases hp with rfl | rfl
    · exact tGo_193 v
    · exact tGo_197 v
  have uo : ∀ j : Int, j ≠ 193 → j ≠ 197 → tGo v j = v j := fun j a b => tGo_o a b
  generalize tGo v = u at *
  have A : ∀ p : Int, p = 0 ∨ p = 1 → wP 1 u p := fun p hp => by
    obtain ⟨w1, w2, w3, w4, w5⟩ := kP p hp
    have f1 := ufr p hp
    have f2 := ufr (1 - p) (by omega)
    unfold wP
    rw [uo (191 + 4 * p) (by omega) (by omega), uo (192 + 4 * p) (by omega) (by omega), uo (194 + 4 * p) (by omega) (by omega), uo (191 + 4 * (1 - p)) (by omega) (by omega), uo 149 (by omega) (by omega), uo 165 (by omega) (by omega), uo 171 (by omega) (by omega)]
    refine ⟨w1, w2, fun q => ?_, fun q => ?_, fun q => ?_⟩
    · have a := w3 q
      rw [if_pos (Or.inr q)] at f1
      clear w1 w2 w3 w4 w5 f2 q171 q173
      omega
    · have a := w4 q
      rw [if_neg (by omega)] at f1
      clear w1 w2 w3 w4 w5 f2 q171 q173
      omega
    · have a := w5 q
      rw [if_pos (Or.inl q)] at f1
      refine ⟨a.1, by omega, fun z => ?_, fun z => ⟨fun y => by omega, ?_⟩⟩
      · have b := a.2.2.1 z
        rw [if_pos (Or.inr b.1)] at f2
        exact ⟨b.1, by omega⟩
      · have b := (a.2.2.2 z).1 rfl
        omega
  refine ⟨wS_lo (fun j _ hj => uo j (by omega) (by omega)) s, wH_c hh (uo 162 (by omega) (by omega)) (by rw [uo 163 (by omega) (by omega)]; exact q163) (by rw [uo 165 (by omega) (by omega)]; exact q165) (by rw [uo 171 (by omega) (by omega)]; exact q171) (uo 172 (by omega) (by omega)) (uo 173 (by omega) (by omega)) (uo 174 (by omega) (by omega)) (fun k k0 k1 => uo _ (by omega) (by omega)) (by rw [uo 191 (by omega) (by omega)]; exact q191) (by rw [uo 195 (by omega) (by omega)]; exact q195), ?_, A 0 (Or.inl rfl), A 1 (Or.inr rfl), ?_⟩
  · rw [uo 170 (by omega) (by omega), uo 149 (by omega) (by omega), uo 162 (by omega) (by omega)]; exact k170
  · exact wQ_st q174.1 kQ (uo 172 (by omega) (by omega)) (uo 174 (by omega) (by omega)) (fun k k0 k1 => uo _ (by omega) (by omega)) (uo 170 (by omega) (by omega)) (uo 149 (by omega) (by omega)) (fun p hp => Or.inl (uo _ (by omega) (by omega)))
