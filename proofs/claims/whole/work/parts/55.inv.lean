/-! ===== pure part: what a tick keeps ===== -/
theorem wP0 {g : Int} {v : rv} : wP g v 0 ↔ (((v 191 ≠ 0 ∨ v 165 = 0) → 0 ≤ v 192 ∧ v 192 < v 149) ∧ (v 191 = 3 ∨ v 191 = 5 → v 165 = 0 ∧ v 171 = 0) ∧ (v 191 = 3 → 0 ≤ v 193 ∧ v 193 ≤ 3000 + g) ∧
    (v 191 = 5 → 0 ≤ v 194 ∧ v 194 ≤ 3001 ∧ v 194 = v 193) ∧ (v 191 = 2 → v 165 = 1 ∧ -90 ≤ v 193 ∧ (v 171 = 0 → v 195 = 3 ∧ v 193 < v 197) ∧ (v 171 = 1 → (g = 0 → v 193 < 0) ∧ v 193 ≤ 3000))) := Iff.rfl
theorem wP1 {g : Int} {v : rv} : wP g v 1 ↔ (((v 195 ≠ 0 ∨ v 165 = 1) → 0 ≤ v 196 ∧ v 196 < v 149) ∧ (v 195 = 3 ∨ v 195 = 5 → v 165 = 1 ∧ v 171 = 0) ∧ (v 195 = 3 → 0 ≤ v 197 ∧ v 197 ≤ 3000 + g) ∧
    (v 195 = 5 → 0 ≤ v 198 ∧ v 198 ≤ 3001 ∧ v 198 = v 197) ∧ (v 195 = 2 → v 165 = 0 ∧ -90 ≤ v 197 ∧ (v 171 = 0 → v 191 = 3 ∧ v 197 < v 193) ∧ (v 171 = 1 → (g = 0 → v 197 < 0) ∧ v 197 ≤ 3000))) := Iff.rfl
theorem wP_c {g : Int} {u v : rv} {p : Int} (hp : p = 0 ∨ p = 1) (h149 : u 149 = v 149) (h165 : u 165 = v 165) (h171 : u 171 = v 171) (h : ∀ j : Int, 191 ≤ j → u j = v j) (w : wP g v p) : wP g u p := by
  unfold wP at *
  rw [h149, h165, h171, h (191 + 4 * p) (by omega), h (192 + 4 * p) (by omega), h (193 + 4 * p) (by omega), h (194 + 4 * p) (by omega), h (191 + 4 * (1 - p)) (by omega), h (193 + 4 * (1 - p)) (by omega)]
  exact w
theorem tTicks_le {v : rv} {c : Int} (s : wS v) (h : 0 ≤ c ∧ c ≤ 5) (h1 : c % 3 = 0 → 0 ≤ v (192 + 4 * (c / 3)) ∧ v (192 + 4 * (c / 3)) < v 149) : 1 ≤ tTicks v c ∧ tTicks v c ≤ 4000 := by
  have s1 := s.2.2.2.1
  unfold tTicks
  by_cases c1 : c % 3 = 1
  · rw [if_pos c1]; omega
  · rw [if_neg c1]
    by_cases c2 : c % 3 = 2
    · rw [if_pos c2]; omega
    · rw [if_neg c2]
      obtain ⟨b1, b2, b3, bL⟩ := wS_R s (h1 (by omega))
      have wl := bL.1
      have e : tLen v (c / 3) = v (1 + 14 * tR v (c / 3)) := rfl
      have a0 : 0 ≤ tLen v (c / 3) + v 145 - 1 := by omega
      have a1 := Int.ediv_nonneg a0 (show 0 ≤ v 145 by omega)
      have a2 := Int.ediv_le_self (v 145) a0
      omega
theorem tUp_o {v : rv} (q174 : 0 ≤ v 174 ∧ v 174 ≤ 6) (j : Int) (hj : j < 172 ∨ 181 < j) : tUp v j = v j := by
  have e174 : rc_u (rc_u v 172 (v 175)) 174 (v 174 - 1) 174 = v 174 - 1 := by rw [rc_u_s]
  unfold tUp tShift
  rw [if_neg (by rw [e174]; omega), rc_u_n _ _ (by omega), rc_u_n _ _ (by omega)]
theorem inv_up {v : rv} (s : wS v) (hh : wH v) (k : wK 0 v) (n0 : v 172 < 0) (n1 : ¬ v 174 ≤ 0) : wS (rc_u (tUp v) 173 (tTicks (tUp v) (v 175))) ∧ wH (rc_u (tUp v) 173 (tTicks (tUp v) (v 175))) ∧ wK 0 (rc_u (tUp v) 173 (tTicks (tUp v) (v 175))) := by
  obtain ⟨q162, q163, q165, q171, q172, q173, q174, qrow, q191, q195⟩ := id hh
  obtain ⟨k170, kP0, kP1, kQ⟩ := id k
  have kP : ∀ p : Int, p = 0 ∨ p = 1 → wP 0 v p := fun p hp => by rcases hp with rfl | rfl <;> assumption
  have up := tUp_o q174
  have sU : wS (tUp v) := wS_lo (fun j _ hj => up j (by omega)) s
  have r0 := qrow 0 (by omega) (by omega)
  have r0' : 0 ≤ v 175 ∧ v 175 ≤ 5 := by simpa using r0
  have T := tTicks_le (v := tUp v) (c := v 175) sU r0' (fun q => by
    have hp : v 175 / 3 = 0 ∨ v 175 / 3 = 1 := by omega
    rw [up _ (by omega), up 149 (by omega)]
    have x := (kQ.2.1 1 (v 175 / 3) (by omega) (by omega) hp).1 (by rw [wE_n v (by omega)]; show v 175 = _; omega)
    exact (kP _ hp).1 (Or.inl (by omega)))
  generalize hT : tTicks (tUp v) (v 175) = T at T ⊢
  generalize hu : rc_u (tUp v) 173 T = u
  have e174 : rc_u (rc_u v 172 (v 175)) 174 (v 174 - 1) 174 = v 174 - 1 := by rw [rc_u_s]
  have uo : ∀ j : Int, j < 172 ∨ 181 < j → u j = v j := fun j hj => by rw [← hu, rc_u_n _ _ (by omega)]; exact up j hj
  have u173 : u 173 = T := by rw [← hu, rc_u_s]
  have u172 : u 172 = v 175 := by
    rw [← hu, rc_u_n _ _ (by omega)]; unfold tUp tShift; rw [if_neg (by omega), rc_u_n _ _ (by omega), rc_u_s]
  have u174 : u 174 = v 174 - 1 := by
    rw [← hu, rc_u_n _ _ (by omega)]; unfold tUp tShift; rw [if_neg (by omega), rc_u_s]
  have ur : ∀ k : Int, 0 ≤ k → k < v 174 - 1 → u (175 + k) = v (176 + k) := fun k k0 k1 => by
    rw [← hu, rc_u_n _ _ (by omega)]; unfold tUp tShift; rw [e174, if_pos (by omega), rc_u_n _ _ (by omega), rc_u_n _ _ (by omega), show (175 : Int) + k + 1 = 176 + k by omega]
  have us : ∀ j : Int, 191 ≤ j → u j = v j := fun j hj => uo j (by omega)
  refine ⟨wS_lo (fun j _ hj => uo j (by omega)) s, ⟨by rw [uo 162 (by omega)]; exact q162, by rw [uo 163 (by omega)]; exact q163, by rw [uo 165 (by omega)]; exact q165, by rw [uo 171 (by omega)]; exact q171, by rw [u172]; omega, fun _ => by rw [u173]; exact T, by rw [u174]; omega, fun k k0 k1 => ?_, by rw [us 191 (by omega)]; exact q191, by rw [us 195 (by omega)]; exact q195⟩, ?_, ?_, ?_, ?_⟩
  · rw [u174] at k1
    rw [ur k k0 k1, show (176 : Int) + k = 175 + (k + 1) by omega]; exact qrow _ (by omega) (by omega)
  · rw [uo 170 (by omega), uo 149 (by omega), uo 162 (by omega)]; exact k170
  · exact wP_c (Or.inl rfl) (uo 149 (by omega)) (uo 165 (by omega)) (uo 171 (by omega)) us kP0
  · exact wP_c (Or.inr rfl) (uo 149 (by omega)) (uo 165 (by omega)) (uo 171 (by omega)) us kP1
  · exact wQ_up (by omega) qrow kQ (by omega) u172 u174 ur (fun p hp => us _ (by omega)) (uo 170 (by omega)) (uo 149 (by omega))
theorem inv_fin {v u : rv} (s : wS v) (hh : wH v) (k : wK 0 v) (n0 : 0 ≤ v 172) (hs : wS u) (h2 : u 172 = -1) (ho : ∀ j : Int, 149 ≤ j → j ≠ 170 → j ≠ 172 → j ≠ 173 → j ≠ 191 + 4 * (v 172 / 3) → j ≠ 192 + 4 * (v 172 / 3) → j ≠ 193 + 4 * (v 172 / 3) → u j = v j)
    (h0 : v 172 % 3 = 0 → u (191 + 4 * (v 172 / 3)) = 0 ∧ u (192 + 4 * (v 172 / 3)) = v (192 + 4 * (v 172 / 3)) ∧ u 170 = v 170)
    (h1 : v 172 % 3 = 1 → u (191 + 4 * (v 172 / 3)) = 1 ∧ u (192 + 4 * (v 172 / 3)) = v 170 ∧ u 170 = v 170 + 1)
    (h3 : v 172 % 3 = 2 → u (191 + 4 * (v 172 / 3)) = 3 ∧ u (192 + 4 * (v 172 / 3)) = v (192 + 4 * (v 172 / 3)) ∧ u 170 = v 170 ∧ 0 ≤ u (193 + 4 * (v 172 / 3)) ∧ u (193 + 4 * (v 172 / 3)) ≤ 3000) : wS u ∧ wH u ∧ wK 0 u := by
  obtain ⟨q162, q163, q165, q171, q172, q173, q174, qrow, q191, q195⟩ := id hh
  obtain ⟨k170, kP0, kP1, kQ⟩ := id k
  have c0 : wE v 0 = v 172 := rfl
  have u149 := ho 149 (by omega) (by omega) (by omega) (by omega) (by omega) (by omega) (by omega)
  have u162 := ho 162 (by omega) (by omega) (by omega) (by omega) (by omega) (by omega) (by omega)
  have u163 := ho 163 (by omega) (by omega) (by omega) (by omega) (by omega) (by omega) (by omega)
  have u165 := ho 165 (by omega) (by omega) (by omega) (by omega) (by omega) (by omega) (by omega)
  have u171 := ho 171 (by omega) (by omega) (by omega) (by omega) (by omega) (by omega) (by omega)
  have u174 := ho 174 (by omega) (by omega) (by omega) (by omega) (by omega) (by omega) (by omega)
  have urow : ∀ k : Int, 0 ≤ k → k < v 174 → u (175 + k) = v (175 + k) := fun k k0 k1 => ho _ (by omega) (by omega) (by omega) (by omega) (by omega) (by omega) (by omega)
  have Q : wQ u := by
    refine wQ_fin hh kQ n0 h2 u174 urow (fun p hp np => ho _ (by omega) (by omega) (by omega) (by omega) (by omega) (by omega) (by omega)) (fun q => (h0 q).1) ?_ u149
    rcases (show v 172 % 3 = 0 ∨ v 172 % 3 = 1 ∨ v 172 % 3 = 2 by omega) with r | r | r
    · rw [if_neg (by omega), (h0 r).2.2]; omega
    · rw [if_pos r]; exact (h1 r).2.2
    · rw [if_neg (by omega), (h3 r).2.2.1]; omega
  have o0 := kQ.2.1 0 0 (by omega) (by omega) (Or.inl rfl)
  have o1 := kQ.2.1 0 1 (by omega) (by omega) (Or.inr rfl)
  rw [c0] at o0 o1
  have t := kQ.2.2
  have t0 := tCnt_le v (v 174).toNat
  have tt : v 172 % 3 = 1 → v 170 + 1 ≤ v 149 := fun q => by
    unfold tThr at t; rw [if_pos ⟨n0, q⟩] at t; omega
  have th0 : v 172 = 1 → v 191 = 0 := fun q => by
    rcases o0.2.2 (by omega) with z | ⟨_, i, i0, i1, _⟩
    · exact z
    · omega
  have th1 : v 172 = 4 → v 195 = 0 := fun q => by
    rcases o1.2.2 (by omega) with z | ⟨_, i, i0, i1, _⟩
    · exact z
    · omega
  have cl0 : v 172 = 0 → v 191 = 4 := fun q => o0.1 (by omega)
  have cl1 : v 172 = 3 → v 195 = 4 := fun q => o1.1 (by omega)
  have re0 : v 172 = 2 → v 191 = 5 := fun q => o0.2.1 (by omega)
  have re1 : v 172 = 5 → v 195 = 5 := fun q => o1.2.1 (by omega)
  clear o0 o1
  rw [wP0] at kP0
  rw [wP1] at kP1
  have row : ∀ k : Int, 0 ≤ k → k < u 174 → 0 ≤ u (175 + k) ∧ u (175 + k) ≤ 5 := fun k k0 k1 => by
    rw [u174] at k1; rw [urow k k0 k1]; exact qrow k k0 k1
  suffices A : (0 ≤ u 191 ∧ u 191 ≤ 5) ∧ (0 ≤ u 195 ∧ u 195 ≤ 5) ∧ (1 ≤ u 170 ∧ u 170 ≤ u 149 ∧ u 162 = 1) ∧ wP 0 u 0 ∧ wP 0 u 1 by
    exact ⟨hs, ⟨by rw [u162]; exact q162, by rw [u163]; exact q163, by rw [u165]; exact q165, by rw [u171]; exact q171, by omega, fun q => by omega, by omega, row, A.1, A.2.1⟩, A.2.2.1, A.2.2.2.1, A.2.2.2.2, Q⟩
  rw [wP0, wP1]
  rcases (show v 172 = 0 ∨ v 172 = 1 ∨ v 172 = 2 ∨ v 172 = 3 ∨ v 172 = 4 ∨ v 172 = 5 by omega) with c | c | c | c | c | c <;> rw [c] at h0 h1 h3 ho
  · have a := h0 (by decide)
    have b1 := ho 194 (by decide) (by decide) (by decide) (by decide) (by decide) (by decide) (by decide)
    have b2 := ho 195 (by decide) (by decide) (by decide) (by decide) (by decide) (by decide) (by decide)
    have b3 := ho 196 (by decide) (by decide) (by decide) (by decide) (by decide) (by decide) (by decide)
    have b4 := ho 197 (by decide) (by decide) (by decide) (by decide) (by decide) (by decide) (by decide)
    have b5 := ho 198 (by decide) (by decide) (by decide) (by decide) (by decide) (by decide) (by decide)
    simp at a
    omega
  · have a := h1 (by decide)
    have b1 := ho 194 (by decide) (by decide) (by decide) (by decide) (by decide) (by decide) (by decide)
    have b2 := ho 195 (by decide) (by decide) (by decide) (by decide) (by decide) (by decide) (by decide)
    have b3 := ho 196 (by decide) (by decide) (by decide) (by decide) (by decide) (by decide) (by decide)
    have b4 := ho 197 (by decide) (by decide) (by decide) (by decide) (by decide) (by decide) (by decide)
    have b5 := ho 198 (by decide) (by decide) (by decide) (by decide) (by decide) (by decide) (by decide)
    simp at a
    omega
  · have a := h3 (by decide)
    have b1 := ho 194 (by decide) (by decide) (by decide) (by decide) (by decide) (by decide) (by decide)
    have b2 := ho 195 (by decide) (by decide) (by decide) (by decide) (by decide) (by decide) (by decide)
    have b3 := ho 196 (by decide) (by decide) (by decide) (by decide) (by decide) (by decide) (by decide)
    have b4 := ho 197 (by decide) (by decide) (by decide) (by decide) (by decide) (by decide) (by decide)
    have b5 := ho 198 (by decide) (by decide) (by decide) (by decide) (by decide) (by decide) (by decide)
    simp at a
    omega
  · have a := h0 (by decide)
    have b1 := ho 194 (by decide) (by decide) (by decide) (by decide) (by decide) (by decide) (by decide)
    have b2 := ho 191 (by decide) (by decide) (by decide) (by decide) (by decide) (by decide) (by decide)
    have b3 := ho 192 (by decide) (by decide) (by decide) (by decide) (by decide) (by decide) (by decide)
    have b4 := ho 193 (by decide) (by decide) (by decide) (by decide) (by decide) (by decide) (by decide)
    have b5 := ho 198 (by decide) (by decide) (by decide) (by decide) (by decide) (by decide) (by decide)
    simp at a
    omega
  · have a := h1 (by decide)
    have b1 := ho 194 (by decide) (by decide) (by decide) (by decide) (by decide) (by decide) (by decide)
    have b2 := ho 191 (by decide) (by decide) (by decide) (by decide) (by decide) (by decide) (by decide)
    have b3 := ho 192 (by decide) (by decide) (by decide) (by decide) (by decide) (by decide) (by decide)
    have b4 := ho 193 (by decide) (by decide) (by decide) (by decide) (by decide) (by decide) (by decide)
    have b5 := ho 198 (by decide) (by decide) (by decide) (by decide) (by decide) (by decide) (by decide)
    simp at a
    omega
  · have a := h3 (by decide)
    have b1 := ho 194 (by decide) (by decide) (by decide) (by decide) (by decide) (by decide) (by decide)
    have b2 := ho 191 (by decide) (by decide) (by decide) (by decide) (by decide) (by decide) (by decide)
    have b3 := ho 192 (by decide) (by decide) (by decide) (by decide) (by decide) (by decide) (by decide)
    have b4 := ho 193 (by decide) (by decide) (by decide) (by decide) (by decide) (by decide) (by decide)
    have b5 := ho 198 (by decide) (by decide) (by decide) (by decide) (by decide) (by decide) (by decide)
    simp at a
    omega
theorem wL_c0 {v u : rv} (h : ∀ j : Int, 173 ≠ j → u j = v j) (s : wS v) : wS u := wS_lo (fun j _ hj => h j (by omega)) s
theorem tMark_o {w : rv} {i fr x : Int} (hi : 0 ≤ i ∧ i < 10) (w2 : w (2 + 14 * i) ≤ 6) (j : Int) (hj : 141 ≤ j) : tMark w i fr x j = w j := by
  unfold tMark
  rcases tK_spec w i fr with ⟨a, b, _⟩ | ⟨a, _⟩
  · rw [if_pos a, rc_u_n _ _ (by omega)]
  · rw [if_neg (by omega)]
theorem inv_work {v : rv} (s : wS v) (hh : wH v) (k : wK 0 v) : wS (tWork v) ∧ wH (tWork v) ∧ wK 0 (tWork v) := by
  obtain ⟨q162, q163, q165, q171, q172, q173, q174, qrow, q191, q195⟩ := id hh
  obtain ⟨k170, kP0, kP1, kQ⟩ := id k
  have kP : ∀ p : Int, p = 0 ∨ p = 1 → wP 0 v p := fun p hp => by rcases hp with rfl | rfl <;> assumption
  unfold tWork
  by_cases n0 : v 172 < 0
  · rw [if_pos n0]
    by_cases n1 : v 174 ≤ 0
    · rw [if_pos n1]; exact ⟨s, hh, k⟩
    · rw [if_neg n1]; exact inv_up s hh k n0 n1
  · rw [if_neg n0]
    have q := q173 (by omega)
    have wo : ∀ j : Int, j ≠ 173 → rc_u v 173 (v 173 - 1) j = v j := fun j hj => rc_u_n _ _ hj
    have ws : rc_u v 173 (v 173 - 1) 173 = v 173 - 1 := rc_u_s _ _ _
    have sw : wS (rc_u v 173 (v 173 - 1)) := wS_lo (fun j _ hj => wo j (by omega)) s
    by_cases n1 : v 173 - 1 = 0
    · rw [if_pos n1]
      generalize rc_u v 173 (v 173 - 1) = w at *
      have hp : v 172 / 3 = 0 ∨ v 172 / 3 = 1 := by omega
      have uo : ∀ j : Int, j ≠ 172 → rc_u (tFin w (v 172)) 172 (-1) j = tFin w (v 172) j := fun j hj => rc_u_n _ _ hj
      have us : rc_u (tFin w (v 172)) 172 (-1) 172 = -1 := rc_u_s _ _ _
      generalize hq : v 172 / 3 = p at *
      rcases (show v 172 % 3 = 0 ∨ v 172 % 3 = 1 ∨ v 172 % 3 = 2 by omega) with r | r | r
      · have e : tFin w (v 172) = rc_u w (191 + 4 * p) 0 := by unfold tFin; rw [if_pos r, hq]
        rw [e] at uo us ⊢
        refine inv_fin s hh k (by omega) (wS_lo (fun j _ hj => by rw [uo j (by omega), rc_u_n _ _ (by omega)]) sw) us (fun j j0 j1 j2 j3 j4 j5 j6 => ?_) (fun _ => ?_) (fun c => absurd c (by omega)) (fun c => absurd c (by omega))
        · rw [hq] at j4; rw [uo j j2, rc_u_n _ _ j4, wo j j3]
        · rw [hq]
          exact ⟨by rw [uo _ (by omega), rc_u_s], by rw [uo _ (by omega), rc_u_n _ _ (by omega), wo _ (by omega)], by rw [uo _ (by omega), rc_u_n _ _ (by omega), wo _ (by omega)]⟩
      · have e : tFin w (v 172) = tComes w p := by unfold tFin; rw [if_neg (by omega), if_pos r, hq]
        have t : ∀ j : Int, j ≠ 170 → j ≠ 191 + 4 * p → j ≠ 192 + 4 * p → tComes w p j = w j := fun j a b c => by unfold tComes; rw [rc_u_n _ _ a, rc_u_n _ _ c, rc_u_n _ _ b]
        rw [e] at uo us ⊢
        refine inv_fin s hh k (by omega) (wS_lo (fun j _ hj => by rw [uo j (by omega), t j (by omega) (by omega) (by omega)]) sw) us (fun j j0 j1 j2 j3 j4 j5 j6 => ?_) (fun c => absurd c (by omega)) (fun _ => ?_) (fun c => absurd c (by omega))
        · rw [hq] at j4 j5; rw [uo j j2, t j j1 j4 j5, wo j j3]
        · rw [hq]
          refine ⟨?_, ?_, ?_⟩
          · rw [uo _ (by omega)]; unfold tComes; rw [rc_u_n _ _ (by omega), rc_u_n _ _ (by omega), rc_u_s]
          · rw [uo _ (by omega)]; unfold tComes; rw [rc_u_n _ _ (by omega), rc_u_s, wo _ (by omega)]
          · rw [uo _ (by omega)]; unfold tComes; rw [rc_u_s, wo _ (by omega)]
      · have e : tFin w (v 172) = tMark (tRep w p) (tR w p) (w (194 + 4 * p)) 9 := by unfold tFin; rw [if_neg (by omega), if_neg (by omega), hq]
        rw [e] at uo us ⊢
        have x := (kQ.2.1 0 p (by omega) (by omega) hp).2.1 (by show v 172 = _; omega)
        have y := kP _ hp
        have z := y.2.2.2.1 x
        have pl := y.1 (Or.inl (by omega))
        obtain ⟨b1, b2, b3, bL⟩ := wS_R (p := p) sw (by rw [wo _ (by omega), wo 149 (by omega)]; exact pl)
        have lo := fun j hj => tRep_lo (v := w) hp j hj
        have bL2 : wL (tRep w p) (tR w p) := wL_lo b2 (fun j _ hj => lo j (by omega)) bL
        have mo := fun j hj => tMark_o (w := tRep w p) (i := tR w p) (fr := w (194 + 4 * p)) (x := 9) b2 bL2.2.1.2 j hj
        have sR : wS (tRep w p) := wS_lo (fun j _ hj => lo j (by omega)) sw
        have sM : wS (tMark (tRep w p) (tR w p) (w (194 + 4 * p)) 9) := by
          unfold tMark
          rcases tK_spec (tRep w p) (tR w p) (w (194 + 4 * p)) with ⟨a, b, _⟩ | ⟨a, _⟩
          · rw [if_pos a]; exact wS_str sR ⟨b2.1, by rw [lo 0 (by omega)]; exact b3⟩ ⟨a, b⟩ (by omega)
          · rw [if_neg (by omega)]; exact sR
        refine inv_fin s hh k (by omega) (wS_lo (fun j _ hj => uo j (by omega)) sM) us (fun j j0 j1 j2 j3 j4 j5 j6 => ?_) (fun c => absurd c (by omega)) (fun c => absurd c (by omega)) (fun _ => ?_)
        · rw [hq] at j4 j6; rw [uo j j2, mo j (by omega)]; unfold tRep; rw [rc_u_n _ _ j6, rc_u_n _ _ j4, wo j j3]
        · rw [hq]
          have wl := bL.1
          have s8 := sw.2.2.2.1.2.2.2.2.2.2.2
          have e194 := wo (194 + 4 * p) (by omega)
          have ef : tMark (tRep w p) (tR w p) (w (194 + 4 * p)) 9 (193 + 4 * p) = min (w (194 + 4 * p) + w 148) (tLen w p) := by
            rw [mo _ (by omega)]; unfold tRep; rw [rc_u_s]
          have el : tLen w p = w (1 + 14 * tR w p) := rfl
          refine ⟨?_, ?_, ?_, ?_, ?_⟩
          · rw [uo _ (by omega), mo _ (by omega)]; unfold tRep; rw [rc_u_n _ _ (by omega), rc_u_s]
          · rw [uo _ (by omega), mo _ (by omega)]; unfold tRep; rw [rc_u_n _ _ (by omega), rc_u_n _ _ (by omega), wo _ (by omega)]
          · rw [uo _ (by omega), mo _ (by omega)]; unfold tRep; rw [rc_u_n _ _ (by omega), rc_u_n _ _ (by omega), wo _ (by omega)]
          · rw [uo _ (by omega), ef]; omega
          · rw [uo _ (by omega), ef]; omega
    · rw [if_neg n1]
      generalize rc_u v 173 (v 173 - 1) = w at *
      have we : ∀ j : Int, 0 ≤ j → wE w j = wE v j := fun j j0 => by
        unfold wE
        by_cases c : j = 0
        · rw [if_pos c]; exact wo _ (by omega)
        · rw [if_neg c]; exact wo _ (by omega)
      refine ⟨sw, ⟨by rw [wo 162 (by omega)]; exact q162, by rw [wo 163 (by omega)]; exact q163, by rw [wo 165 (by omega)]; exact q165, by rw [wo 171 (by omega)]; exact q171, by rw [wo 172 (by omega)]; exact q172, fun _ => by rw [ws]; omega, by rw [wo 174 (by omega)]; exact q174, fun k k0 k1 => ?_, by rw [wo 191 (by omega)]; exact q191, by rw [wo 195 (by omega)]; exact q195⟩, ?_, ?_, ?_, ?_⟩
      · rw [wo 174 (by omega)] at k1; rw [wo _ (by omega)]; exact qrow k k0 k1
      · rw [wo 170 (by omega), wo 149 (by omega), wo 162 (by omega)]; exact k170
      · exact wP_c (Or.inl rfl) (wo 149 (by omega)) (wo 165 (by omega)) (wo 171 (by omega)) (fun j hj => wo j (by omega)) kP0
      · exact wP_c (Or.inr rfl) (wo 149 (by omega)) (wo 165 (by omega)) (wo 171 (by omega)) (fun j hj => wo j (by omega)) kP1
      · obtain ⟨d, o, t⟩ := kQ
        exact ⟨fun i j i0 i1 j1 => by rw [wo 174 (by omega)] at j1; rw [we i i0, we j (by omega)]; exact d i j i0 i1 j1, fun j p j0 j1 hp => by
          rw [wo 174 (by omega)] at j1
          rw [we j j0, wo (191 + 4 * p) (by omega)]
          have oj := o j p j0 j1 hp
          refine ⟨oj.1, oj.2.1, fun y => ?_⟩
          rcases oj.2.2 y with z | ⟨z, i, i0, i1, i2⟩
          · exact Or.inl z
          · exact Or.inr ⟨z, i, i0, i1, by rw [we i i0]; exact i2⟩, by
          unfold tThr at t ⊢
          rw [wo 172 (by omega), wo 174 (by omega), wo 170 (by omega), wo 149 (by omega), tCnt_c (u := w) (v := v) _ (fun k k0 k1 => wo _ (by omega))]; exact t⟩
