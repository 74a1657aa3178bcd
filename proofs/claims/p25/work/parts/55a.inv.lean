/-! ===== pure part: what a tick keeps ===== -/
theorem wP0 {g : Int} {v : rv} : wP g v 0 ↔ (((v 191 ≠ 0 ∨ v 165 = 0) → 0 ≤ v 192 ∧ v 192 < v 149) ∧ (v 191 = 3 ∨ v 191 = 5 → v 165 = 0 ∧ v 171 = 0) ∧ (v 191 = 3 → 0 ≤ v 193 ∧ v 193 ≤ 3000 + g) ∧
    (v 191 = 5 → 0 ≤ v 194 ∧ v 194 ≤ 3001 ∧ v 194 = v 193) ∧ (v 191 = 2 → v 165 = 1 ∧ -90 ≤ v 193 ∧ (v 171 = 0 → v 195 = 3 ∧ v 193 < v 197) ∧ (v 171 = 1 → (g = 0 → v 193 < 0) ∧ v 193 ≤ 3000))) := Iff.rfl
theorem wP1 {g : Int} {v : rv} : wP g v 1 ↔ (((v 195 ≠ 0 ∨ v 165 = 1) → 0 ≤ v 196 ∧ v 196 < v 149) ∧ (v 195 = 3 ∨ v 195 = 5 → v 165 = 1 ∧ v 171 = 0) ∧ (v 195 = 3 → 0 ≤ v 197 ∧ v 197 ≤ 3000 + g) ∧
    (v 195 = 5 → 0 ≤ v 198 ∧ v 198 ≤ 3001 ∧ v 198 = v 197) ∧ (v 195 = 2 → v 165 = 0 ∧ -90 ≤ v 197 ∧ (v 171 = 0 → v 191 = 3 ∧ v 197 < v 193) ∧ (v 171 = 1 → (g = 0 → v 197 < 0) ∧ v 197 ≤ 3000))) := Iff.rfl
theorem wP_c {g : Int} {u v : rv} {p : Int} (hp : p = 0 ∨ p = 1) (h149 : u 149 = v 149) (h165 : u 165 = v 165) (h171 : u 171 = v 171) (h : ∀ j : Int, 191 ≤ j → u j = v j) (w : wP g v p) : wP g u p := by
  unfold wP at *
  rw [h149, h165, h171, h (191 + 4 * p) (by omega), h (192 + 4 * p) (by omega), h (193 + 4 * p) (by omega), h (194 + 4 * p) (by omega), h (191 + 4 * (1 - p)) (by omega), h (193 + 4 * (1 - p)) (by omega)]
  exact w
theorem wP_idle {g : Int} {u : rv} {p : Int} (h : u (191 + 4 * p) = 0 ∨ u (191 + 4 * p) = 1 ∨ u (191 + 4 * p) = 4) (hpl : 0 ≤ u (192 + 4 * p) ∧ u (192 + 4 * p) < u 149) : wP g u p :=
  ⟨fun _ => hpl, fun q => by omega, fun q => by omega, fun q => by omega, fun q => by omega⟩
theorem wP_show {g : Int} {u : rv} {p : Int} (h : u (191 + 4 * p) = 3) (hpl : 0 ≤ u (192 + 4 * p) ∧ u (192 + 4 * p) < u 149) (h1 : u 165 = p) (h2 : u 171 = 0) (h3 : 0 ≤ u (193 + 4 * p) ∧ u (193 + 4 * p) ≤ 3000 + g) : wP g u p :=
  ⟨fun _ => hpl, fun _ => ⟨h1, h2⟩, fun _ => h3, fun q => by omega, fun q => by omega⟩
theorem wP_brk {g : Int} {u : rv} {p : Int} (h : u (191 + 4 * p) = 5) (hpl : 0 ≤ u (192 + 4 * p) ∧ u (192 + 4 * p) < u 149) (h1 : u 165 = p) (h2 : u 171 = 0) (h3 : 0 ≤ u (194 + 4 * p) ∧ u (194 + 4 * p) ≤ 3001 ∧ u (194 + 4 * p) = u (193 + 4 * p)) : wP g u p :=
  ⟨fun _ => hpl, fun _ => ⟨h1, h2⟩, fun q => by omega, fun _ => h3, fun q => by omega⟩
theorem wP_st {g : Int} {u : rv} {p : Int} (h : u (191 + 4 * p) = 2) (hpl : 0 ≤ u (192 + 4 * p) ∧ u (192 + 4 * p) < u 149) (h1 : u 165 = 1 - p) (h2 : -90 ≤ u (193 + 4 * p)) (h3 : u 171 = 0 → u (191 + 4 * (1 - p)) = 3 ∧ u (193 + 4 * p) < u (193 + 4 * (1 - p)))
    (h4 : u 171 = 1 → (g = 0 → u (193 + 4 * p) < 0) ∧ u (193 + 4 * p) ≤ 3000) : wP g u p :=
  ⟨fun _ => hpl, fun q => by omega, fun q => by omega, fun q => by omega, fun _ => ⟨h1, h2, h3, h4⟩⟩
/-- a projector that a step leaves alone -/
theorem wP_oth {g : Int} {u v : rv} {p : Int} (w : wP g v p) (h149 : u 149 = v 149) (h165 : u 165 = v 165) (h171 : u 171 = v 171) (a1 : u (191 + 4 * p) = v (191 + 4 * p)) (a2 : u (192 + 4 * p) = v (192 + 4 * p)) (a3 : u (193 + 4 * p) = v (193 + 4 * p)) (a4 : u (194 + 4 * p) = v (194 + 4 * p))
    (h : v (191 + 4 * p) = 2 → v 171 = 0 → v (191 + 4 * (1 - p)) ≠ 3) : wP g u p := by
  obtain ⟨w1, w2, w3, w4, w5⟩ := w
  unfold wP
  rw [h149, h165, h171, a1, a2, a3, a4]
  exact ⟨w1, w2, w3, w4, fun q => ⟨(w5 q).1, (w5 q).2.1, fun z => absurd ((w5 q).2.2.1 z).1 (h q z), (w5 q).2.2.2⟩⟩
theorem wP_both {g : Int} {u : rv} {p : Int} (hp : p = 0 ∨ p = 1) (a : wP g u p) (b : wP g u (1 - p)) : wP g u 0 ∧ wP g u 1 := by
  rcases hp with rfl | rfl
  · exact ⟨a, b⟩
  · exact ⟨b, a⟩
theorem wB_both {u : rv} {p : Int} (hp : p = 0 ∨ p = 1) (a : 0 ≤ u (191 + 4 * p) ∧ u (191 + 4 * p) ≤ 5) (b : 0 ≤ u (191 + 4 * (1 - p)) ∧ u (191 + 4 * (1 - p)) ≤ 5) : (0 ≤ u 191 ∧ u 191 ≤ 5) ∧ (0 ≤ u 195 ∧ u 195 ≤ 5) := by
  rcases hp with rfl | rfl
  · exact ⟨a, b⟩
  · exact ⟨b, a⟩
theorem tTicks_le {v : rv} {c : Int} (s : wS v) (h : 0 ≤ c ∧ c ≤ 5) (h1 : c % 3 = 0 → 0 ≤ v (192 + 4 * (c / 3)) ∧ v (192 + 4 * (c / 3)) < v 149) : 1 ≤ tTicks v c ∧ tTicks v c ≤ 4000 := by
  have s1 := s.2.2.2.1
  unfold tTicks
  by_cases c1 : c % 3 = 1
  · rw [if_pos c1]; omega
  · rw [if_neg c1]
    by_cases c2 : c % 3 = 2
    · rw [if_pos c2]; omega
    · rw [if_neg c2]
      obtain ⟨b1, b2, b3, bL⟩ := wS_R s (h1 (by omega))
      have wl := bL.1
      have e : tLen v (c / 3) = v (1 + 14 * tR v (c / 3)) := rfl
      have a0 : 0 ≤ tLen v (c / 3) + v 145 - 1 := by omega
      have a1 := Int.ediv_nonneg a0 (show 0 ≤ v 145 by omega)
      have a2 := Int.ediv_le_self (v 145) a0
      omega
theorem tUp_o {v : rv} (q174 : 0 ≤ v 174 ∧ v 174 ≤ 6) (j : Int) (hj : j < 172 ∨ 181 < j) : tUp v j = v j := by
  have e174 : rc_u (rc_u v 172 (v 175)) 174 (v 174 - 1) 174 = v 174 - 1 := by rw [rc_u_s]
  unfold tUp tShift
  rw [if_neg (by rw [e174]; omega), rc_u_n _ _ (by omega), rc_u_n _ _ (by omega)]
theorem inv_up {v : rv} (s : wS v) (hh : wH v) (k : wK 0 v) (n0 : v 172 < 0) (n1 : ¬ v 174 ≤ 0) : wS (rc_u (tUp v) 173 (tTicks (tUp v) (v 175))) ∧ wH (rc_u (tUp v) 173 (tTicks (tUp v) (v 175))) ∧ wK 0 (rc_u (tUp v) 173 (tTicks (tUp v) (v 175))) := by
  obtain ⟨q162, q163, q165, q171, q172, q173, q174, qrow, q191, q195⟩ := id hh
  obtain ⟨k170, kP0, kP1, kQ⟩ := id k
  have kP : ∀ p : Int, p = 0 ∨ p = 1 → wP 0 v p := fun p hp => by rcases hp with rfl | rfl <;> assumption
  have up := tUp_o q174
  have sU : wS (tUp v) := wS_lo (fun j _ hj => up j (by omega)) s
  have r0 := qrow 0 (by omega) (by omega)
  have r0' : 0 ≤ v 175 ∧ v 175 ≤ 5 := by simpa using r0
  have hT1 := tTicks_le (v := tUp v) (c := v 175) sU r0' (fun q => by
    have hp : v 175 / 3 = 0 ∨ v 175 / 3 = 1 := by omega
    rw [up _ (by omega), up 149 (by omega)]
    have x := (kQ.2.1 1 (v 175 / 3) (by omega) (by omega) hp).1 (by rw [wE_n v (by omega)]; show v 175 = _; omega)
    exact (kP _ hp).1 (Or.inl (by omega)))
  generalize hT : tTicks (tUp v) (v 175) = T at hT1 ⊢
  generalize hu : rc_u (tUp v) 173 T = u
  have e174 : rc_u (rc_u v 172 (v 175)) 174 (v 174 - 1) 174 = v 174 - 1 := by rw [rc_u_s]
  have uo : ∀ j : Int, j < 172 ∨ 181 < j → u j = v j := fun j hj => by rw [← hu, rc_u_n _ _ (by omega)]; exact up j hj
  have u173 : u 173 = T := by rw [← hu, rc_u_s]
  have u172 : u 172 = v 175 := by
    rw [← hu, rc_u_n _ _ (by omega)]; unfold tUp tShift; rw [if_neg (by omega), rc_u_n _ _ (by omega), rc_u_s]
  have u174 : u 174 = v 174 - 1 := by
    rw [← hu, rc_u_n _ _ (by omega)]; unfold tUp tShift; rw [if_neg (by omega), rc_u_s]
  have ur : ∀ k : Int, 0 ≤ k → k < v 174 - 1 → u (175 + k) = v (176 + k) := fun k k0 k1 => by
    rw [← hu, rc_u_n _ _ (by omega)]; unfold tUp tShift; rw [e174, if_pos (by omega), rc_u_n _ _ (by omega), rc_u_n _ _ (by omega), show (175 : Int) + k + 1 = 176 + k by omega]
  have us : ∀ j : Int, 191 ≤ j → u j = v j := fun j hj => uo j (by omega)
  refine ⟨wS_lo (fun j _ hj => uo j (by omega)) s, ⟨by rw [uo 162 (by omega)]; exact q162, by rw [uo 163 (by omega)]; exact q163, by rw [uo 165 (by omega)]; exact q165, by rw [uo 171 (by omega)]; exact q171, by rw [u172]; omega, fun _ => by rw [u173]; exact hT1, by rw [u174]; omega, fun k k0 k1 => ?_, by rw [us 191 (by omega)]; exact q191, by rw [us 195 (by omega)]; exact q195⟩, ?_, ?_, ?_, ?_⟩
  · rw [u174] at k1
    rw [ur k k0 k1, show (176 : Int) + k = 175 + (k + 1) by omega]; exact qrow _ (by omega) (by omega)
  · rw [uo 170 (by omega), uo 149 (by omega), uo 162 (by omega)]; exact k170
  · exact wP_c (Or.inl rfl) (uo 149 (by omega)) (uo 165 (by omega)) (uo 171 (by omega)) us kP0
  · exact wP_c (Or.inr rfl) (uo 149 (by omega)) (uo 165 (by omega)) (uo 171 (by omega)) us kP1
  · exact wQ_up (by omega) qrow kQ (by omega) u172 u174 ur (fun p hp => us _ (by omega)) (uo 170 (by omega)) (uo 149 (by omega))
