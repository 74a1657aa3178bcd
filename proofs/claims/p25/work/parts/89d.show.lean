/-! ===== a show: places and counts, tick by tick ===== -/
def rr (z : Int) : Int := if z = 1 then 1 else 0
theorem rr_or (z : Int) : (z = 1 ∧ rr z = 1) ∨ (z ≠ 1 ∧ rr z = 0) := by
  unfold rr
  by_cases h : z = 1
  · exact Or.inl ⟨h, by rw [if_pos h]⟩
  · exact Or.inr ⟨h, by rw [if_neg h]⟩
def nR (a b : Int) (v : rv) : Prop :=
  ((v 191 = 0 ∨ (0 ≤ v 192 ∧ v 192 < v 170)) ∧ (v 195 = 0 ∨ (0 ≤ v 196 ∧ v 196 < v 170))) ∧ (1 ≤ v 170 ∧ v 170 ≤ v 149) ∧ (0 ≤ v 166 ∧ v 166 ≤ v 164) ∧ (0 ≤ v 167 ∧ v 167 ≤ 3001 * (v 164 + b)) ∧ 0 ≤ v 168 ∧ (0 ≤ v 169 ∧ v 169 ≤ v 164 + a) ∧ v 168 + rr (v 191) + rr (v 195) ≤ v 170 + v 169
/-- what a show leaves as it is: reels' number, settings, program -/
def cK (u v : rv) : Prop := ∀ j : Int, (j = 0 ∨ (141 ≤ j ∧ j < 163)) → u j = v j
theorem cK_t {u v w : rv} (h : cK u v) (g : cK v w) : cK u w := fun j hj => (h j hj).trans (g j hj)
theorem tWork_sum {v : rv} (s : wS v) (hh : wH v) (k : wK 0 v) : (∀ j : Int, (j = 0 ∨ (141 ≤ j ∧ j < 170)) → tWork v j = v j) ∧ ((∀ j : Int, (j = 170 ∨ 191 ≤ j) → tWork v j = v j) ∨ ∃ p : Int, (p = 0 ∨ p = 1) ∧ (∀ j : Int, 191 ≤ j → (j < 191 + 4 * p ∨ 194 + 4 * p < j) → tWork v j = v j) ∧
    ((tWork v (191 + 4 * p) = 0 ∧ tWork v 170 = v 170) ∨ (tWork v (191 + 4 * p) = 1 ∧ tWork v (192 + 4 * p) = v 170 ∧ tWork v 170 = v 170 + 1 ∧ v 170 + 1 ≤ v 149) ∨ (v (191 + 4 * p) = 5 ∧ tWork v (191 + 4 * p) = 3 ∧ tWork v (192 + 4 * p) = v (192 + 4 * p) ∧ tWork v 170 = v 170))) := by
  have iw := (inv_work s hh k).2.2.1
  have e149 := tWork_o s hh k (j := 149) (by omega)
  obtain ⟨q162, q163, q165, q171, q172, q173, q174, qrow, q191, q195⟩ := id hh
  obtain ⟨k170, kP0, kP1, kQ⟩ := id k
  have kP : ∀ p : Int, p = 0 ∨ p = 1 → wP 0 v p := fun p hp => by rcases hp with rfl | rfl <;> assumption
  have tt : tWork v 170 ≤ v 149 := by omega
  revert tt
  unfold tWork
  by_cases n0 : v 172 < 0
  · rw [if_pos n0]
    by_cases n1 : v 174 ≤ 0
    · rw [if_pos n1]; exact fun _ => ⟨fun _ _ => rfl, Or.inl (fun _ _ => rfl)⟩
    · rw [if_neg n1]
      have o : ∀ j : Int, (j < 172 ∨ 181 < j) → rc_u (tUp v) 173 (tTicks (tUp v) (v 175)) j = v j := fun j hj => by rw [rc_u_n _ _ (by omega)]; exact tUp_o q174 j hj
      exact fun _ => ⟨fun j hj => o j (by omega), Or.inl (fun j hj => o j (by omega))⟩
  · rw [if_neg n0]
    have q := q173 (by omega)
    have wo : ∀ j : Int, j ≠ 173 → rc_u v 173 (v 173 - 1) j = v j := fun j hj => rc_u_n _ _ hj
    have sw : wS (rc_u v 173 (v 173 - 1)) := wS_lo (fun j _ hj => wo j (by omega)) s
    by_cases n1 : v 173 - 1 = 0
    · rw [if_pos n1]
      generalize rc_u v 173 (v 173 - 1) = w at *
      have hp : v 172 / 3 = 0 ∨ v 172 / 3 = 1 := by omega
      have uo : ∀ j : Int, j ≠ 172 → rc_u (tFin w (v 172)) 172 (-1) j = tFin w (v 172) j := fun j hj => rc_u_n _ _ hj
      generalize hq : v 172 / 3 = p at *
      rcases (show v 172 % 3 = 0 ∨ v 172 % 3 = 1 ∨ v 172 % 3 = 2 by omega) with r | r | r
      · have e : tFin w (v 172) = rc_u w (191 + 4 * p) 0 := by unfold tFin; rw [if_pos r, hq]
        rw [e] at uo ⊢
        have o : ∀ j : Int, j ≠ 172 → j ≠ 173 → j ≠ 191 + 4 * p → rc_u (rc_u w (191 + 4 * p) 0) 172 (-1) j = v j := fun j a b d => by rw [uo j a, rc_u_n _ _ d, wo j b]
        exact fun _ => ⟨fun j hj => o j (by omega) (by omega) (by omega), Or.inr ⟨p, hp, fun j j0 j1 => o j (by omega) (by omega) (by omega), Or.inl ⟨by rw [uo _ (by omega), rc_u_s], o 170 (by omega) (by omega) (by omega)⟩⟩⟩
      · have e : tFin w (v 172) = tComes w p := by unfold tFin; rw [if_neg (by omega), if_pos r, hq]
        rw [e] at uo ⊢
        have o : ∀ j : Int, j ≠ 172 → j ≠ 173 → j ≠ 170 → j ≠ 191 + 4 * p → j ≠ 192 + 4 * p → rc_u (tComes w p) 172 (-1) j = v j := fun j a b d e f => by rw [uo j a]; unfold tComes; rw [rc_u_n _ _ d, rc_u_n _ _ f, rc_u_n _ _ e, wo j b]
        have u170 : rc_u (tComes w p) 172 (-1) 170 = v 170 + 1 := by rw [uo _ (by omega)]; unfold tComes; rw [rc_u_s, wo _ (by omega)]
        refine fun tt => ⟨fun j hj => o j (by omega) (by omega) (by omega) (by omega) (by omega), Or.inr ⟨p, hp, fun j j0 j1 => o j (by omega) (by omega) (by omega) (by omega) (by omega), Or.inr (Or.inl ⟨?_, ?_, u170, by omega⟩)⟩⟩
        · rw [uo _ (by omega)]; unfold tComes; rw [rc_u_n _ _ (by omega), rc_u_n _ _ (by omega), rc_u_s]
        · rw [uo _ (by omega)]; unfold tComes; rw [rc_u_n _ _ (by omega), rc_u_s, wo _ (by omega)]
      · have e : tFin w (v 172) = tMark (tRep w p) (tR w p) (w (194 + 4 * p)) 9 := by unfold tFin; rw [if_neg (by omega), if_neg (by omega), hq]
        rw [e] at uo ⊢
        have x := (kQ.2.1 0 p (by omega) (by omega) hp).2.1 (by show v 172 = _; omega)
        have pl := (kP _ hp).1 (Or.inl (by omega))
        obtain ⟨b1, b2, b3, bL⟩ := wS_R (p := p) sw (by rw [wo _ (by omega), wo 149 (by omega)]; exact pl)
        have lo := fun j hj => tRep_lo (v := w) hp j hj
        have bL2 : wL (tRep w p) (tR w p) := wL_lo b2 (fun j _ hj => lo j (by omega)) bL
        have mo := fun j hj => tMark_o (w := tRep w p) (i := tR w p) (fr := w (194 + 4 * p)) (x := 9) b2 bL2.2.1.2 j hj
        have m0 : tMark (tRep w p) (tR w p) (w (194 + 4 * p)) 9 0 = tRep w p 0 := by
          unfold tMark
          rcases tK_spec (tRep w p) (tR w p) (w (194 + 4 * p)) with ⟨a, _, _⟩ | ⟨a, _⟩
          · rw [if_pos a, rc_u_n _ _ (by omega)]
          · rw [if_neg (by omega)]
        have o : ∀ j : Int, 141 ≤ j → j ≠ 172 → j ≠ 173 → j ≠ 191 + 4 * p → j ≠ 193 + 4 * p → rc_u (tMark (tRep w p) (tR w p) (w (194 + 4 * p)) 9) 172 (-1) j = v j := fun j j0 a b d f => by rw [uo j a, mo j j0]; unfold tRep; rw [rc_u_n _ _ f, rc_u_n _ _ d, wo j b]
        refine fun _ => ⟨fun j hj => ?_, Or.inr ⟨p, hp, fun j j0 j1 => o j (by omega) (by omega) (by omega) (by omega) (by omega), Or.inr (Or.inr ⟨x, ?_, o _ (by omega) (by omega) (by omega) (by omega) (by omega), o _ (by omega) (by omega) (by omega) (by omega) (by omega)⟩)⟩⟩
        · rcases hj with e | e
          · rw [e, uo _ (by omega), m0, lo 0 (by omega), wo _ (by omega)]
          · exact o j (by omega) (by omega) (by omega) (by omega) (by omega)
        · rw [uo _ (by omega), mo _ (by omega)]; unfold tRep; rw [rc_u_n _ _ (by omega), rc_u_s]
    · rw [if_neg n1]
      exact fun _ => ⟨fun j hj => wo j (by omega), Or.inl (fun j hj => wo j (by omega))⟩
theorem n_work {v : rv} (s : wS v) (hh : wH v) (k : wK 0 v) (n : nR 0 0 v) : nR 0 0 (tWork v) ∧ cK (tWork v) v := by
  obtain ⟨A, B⟩ := tWork_sum s hh k
  generalize tWork v = u at *
  refine ⟨?_, fun j hj => A j (by omega)⟩
  have e149 := A 149 (by omega)
  have e164 := A 164 (by omega)
  have e166 := A 166 (by omega)
  have e167 := A 167 (by omega)
  have e168 := A 168 (by omega)
  have e169 := A 169 (by omega)
  have a1 := rr_or (v 191)
  have a2 := rr_or (v 195)
  have a3 := rr_or (u 191)
  have a4 := rr_or (u 195)
  unfold nR at *
  rcases B with B | ⟨p, hp, B, C⟩
  · rw [B 170 (by omega), B 191 (by omega), B 192 (by omega), B 195 (by omega), B 196 (by omega), e149, e164, e166, e167, e168, e169]; exact n
  · rcases hp with rfl | rfl
    · simp only [Int.reduceMul, Int.reduceAdd] at B C
      have e1 := B 195 (by omega) (by omega)
      have e2 := B 196 (by omega) (by omega)
      rw [e1, e2, e149, e164, e166, e167, e168, e169]
      rw [e1] at a4
      clear A B hh k s
      omega
    · simp only [Int.reduceMul, Int.reduceAdd] at B C
      have e1 := B 191 (by omega) (by omega)
      have e2 := B 192 (by omega) (by omega)
      rw [e1, e2, e149, e164, e166, e167, e168, e169]
      rw [e1] at a3
      clear A B hh k s
      omega
theorem tStart_sum {v : rv} (q165 : v 165 = 0 ∨ v 165 = 1) : (∀ j : Int, j ≠ 168 → j ≠ 191 → j ≠ 193 → j ≠ 195 → j ≠ 197 → tStart v j = v j) ∧ ((tStart v 168 = v 168 ∧ tStart v 191 = v 191 ∧ tStart v 195 = v 195) ∨
    ((tStart v 168 = v 168 ∨ tStart v 168 = v 168 + 1) ∧ ((v 191 = 1 ∧ tStart v 191 = 2 ∧ tStart v 195 = v 195) ∨ (v 195 = 1 ∧ tStart v 195 = 2 ∧ tStart v 191 = v 191)))) := by
  unfold tStart
  rcases q165 with e | e
  · rw [e]
    unfold tStart1
    simp only [Int.reduceSub, Int.reduceMul, Int.reduceAdd]
    by_cases c : v 195 = 1 ∧ (v 171 = 1 ∨ (v 191 = 3 ∧ v 171 = 0 ∧ tLen v 0 - v 142 ≤ v 193))
    · rw [if_pos c]
      refine ⟨fun j a _ _ b d => by rw [rc_u_n _ _ a, rc_u_n _ _ d, rc_u_n _ _ b], Or.inr ⟨?_, Or.inr ⟨c.1, by rw [rc_u_n _ _ (by decide), rc_u_n _ _ (by decide), rc_u_s], by rw [rc_u_n _ _ (by decide), rc_u_n _ _ (by decide), rc_u_n _ _ (by decide)]⟩⟩⟩
      rw [rc_u_s]
      by_cases d : v 171 = 1 ∨ tLen v 0 - v 142 < v 193
      · rw [if_pos d]; exact Or.inr rfl
      · rw [if_neg d]; exact Or.inl (Int.add_zero _)
    · rw [if_neg c]; exact ⟨fun _ _ _ _ _ _ => rfl, Or.inl ⟨rfl, rfl, rfl⟩⟩
  · rw [e]
    unfold tStart1
    simp only [Int.reduceSub, Int.reduceMul, Int.reduceAdd]
    by_cases c : v 191 = 1 ∧ (v 171 = 1 ∨ (v 195 = 3 ∧ v 171 = 0 ∧ tLen v 1 - v 142 ≤ v 197))
    · rw [if_pos c]
      refine ⟨fun j a b d _ _ => by rw [rc_u_n _ _ a, rc_u_n _ _ d, rc_u_n _ _ b], Or.inr ⟨?_, Or.inl ⟨c.1, by rw [rc_u_n _ _ (by decide), rc_u_n _ _ (by decide), rc_u_s], by rw [rc_u_n _ _ (by decide), rc_u_n _ _ (by decide), rc_u_n _ _ (by decide)]⟩⟩⟩
      rw [rc_u_s]
      by_cases d : v 171 = 1 ∨ tLen v 1 - v 142 < v 197
      · rw [if_pos d]; exact Or.inr rfl
      · rw [if_neg d]; exact Or.inl (Int.add_zero _)
    · rw [if_neg c]; exact ⟨fun _ _ _ _ _ _ => rfl, Or.inl ⟨rfl, rfl, rfl⟩⟩
theorem n_start {v : rv} (hh : wH v) (n : nR 0 0 v) : nR 0 0 (tStart v) ∧ cK (tStart v) v := by
  obtain ⟨A, B⟩ := tStart_sum hh.2.2.1
  generalize tStart v = u at *
  have a := fun (j : Int) (h : j ≠ 168 ∧ j ≠ 191 ∧ j ≠ 193 ∧ j ≠ 195 ∧ j ≠ 197) => A j h.1 h.2.1 h.2.2.1 h.2.2.2.1 h.2.2.2.2
  refine ⟨?_, fun j hj => a j (by omega)⟩
  have a1 := rr_or (v 191)
  have a2 := rr_or (v 195)
  have a3 := rr_or (u 191)
  have a4 := rr_or (u 195)
  unfold nR at *
  rw [a 149 (by omega), a 164 (by omega), a 166 (by omega), a 167 (by omega), a 169 (by omega), a 170 (by omega), a 192 (by omega), a 196 (by omega)]
  clear A a hh
  rcases B with ⟨b1, b2, b3⟩ | ⟨b0, ⟨b1, b2, b3⟩ | ⟨b1, b2, b3⟩⟩
  · rw [b1, b2, b3]; exact n
  · rw [b3] at a4 ⊢; omega
  · rw [b3] at a3 ⊢; omega
theorem n_go {v : rv} (n : nR 0 0 v) : nR 0 0 (tGo v) ∧ cK (tGo v) v := by
  refine ⟨?_, fun j hj => tGo_o (by omega) (by omega)⟩
  unfold nR at *
  rw [tGo_o (by decide) (by decide), tGo_o (by decide) (by decide), tGo_o (by decide) (by decide), tGo_o (by decide) (by decide), tGo_o (by decide) (by decide), tGo_o (by decide) (by decide), tGo_o (by decide) (by decide), tGo_o (by decide) (by decide), tGo_o (by decide) (by decide), tGo_o (by decide) (by decide), tGo_o (by decide) (by decide)]
  exact n
theorem tWear_sum {v : rv} (s : wS v) (hh : wH v) (k : wK 1 v) : (∀ j : Int, (j = 0 ∨ 141 ≤ j) → j ≠ 169 → (j < 174 ∨ 181 < j) → j ≠ 191 → j ≠ 194 → j ≠ 195 → j ≠ 198 → tWear v j = v j) ∧ ((tWear v 169 = v 169 ∧ tWear v 191 = v 191 ∧ tWear v 195 = v 195) ∨
    (tWear v 169 = v 169 + 1 ∧ ((v 191 = 3 ∧ tWear v 191 = 5 ∧ (tWear v 195 = v 195 ∨ (v 195 = 2 ∧ tWear v 195 = 1))) ∨ (v 195 = 3 ∧ tWear v 195 = 5 ∧ (tWear v 191 = v 191 ∨ (v 191 = 2 ∧ tWear v 191 = 1)))))) := by
  obtain ⟨q162, q163, q165, q171, q172, q173, q174, qrow, q191, q195⟩ := id hh
  obtain ⟨k170, kP0, kP1, kQ⟩ := id k
  have kP : ∀ p : Int, p = 0 ∨ p = 1 → wP 1 v p := fun p hp => by rcases hp with rfl | rfl <;> assumption
  unfold tWear
  obtain ⟨f, e165⟩ : ∃ f, f = v 165 := ⟨_, rfl⟩
  rw [← e165] at q165 ⊢
  unfold tWear1
  by_cases c : v (191 + 4 * f) = 3 ∧ 0 ≤ tK v (tR v f) (v (193 + 4 * f))
  · rw [if_pos c]
    obtain ⟨b1, b2, b3, bL⟩ := wS_R s ((kP f q165).1 (Or.inr e165.symm))
    rcases tK_spec v (tR v f) (v (193 + 4 * f)) with ⟨a0, a1, a2⟩ | ⟨a0, _⟩
    · generalize tK v (tR v f) (v (193 + 4 * f)) = i at *
      have w2 := bL.2.1
      have hz : 4 ≤ 4 + 14 * tR v f + 2 * i ∧ 4 + 14 * tR v f + 2 * i < 141 := by omega
      by_cases c2 : v (4 + 14 * tR v f + 2 * i) ≤ 1
      · rw [if_pos c2]
        have wo : ∀ j : Int, (j = 0 ∨ 141 ≤ j) → rc_u v (4 + 14 * tR v f + 2 * i) 0 j = v j := fun j hj => rc_u_n _ _ (by omega)
        generalize rc_u v (4 + 14 * tR v f + 2 * i) 0 = w at *
        have w174 := wo 174 (by omega)
        obtain ⟨uo, u174, u175, ur, uf, uf3, u169, ub⟩ := tBreak_spec (w := w) q165 (by rw [w174]; exact q174)
        generalize tBreak w f = u at *
        rw [wo _ (by omega)] at u169
        have ub' : u (191 + 4 * (1 - f)) = v (191 + 4 * (1 - f)) ∨ (v (191 + 4 * (1 - f)) = 2 ∧ u (191 + 4 * (1 - f)) = 1) := by
          rw [wo _ (by omega)] at ub
          by_cases c3 : v (191 + 4 * (1 - f)) = 2
          · rw [if_pos c3] at ub; exact Or.inr ⟨c3, ub⟩
          · rw [if_neg c3] at ub; exact Or.inl ub
        refine ⟨fun j h0 h1 h2 h3 h4 h5 h6 => ?_, Or.inr ⟨u169, ?_⟩⟩
        · rw [uo j (by omega) (by omega) h1 (by omega) h2, wo j h0]
        · rcases q165 with e | e
          · rw [e] at c uf ub'
            exact Or.inl ⟨c.1, uf, ub'⟩
          · rw [e] at c uf ub'
            exact Or.inr ⟨c.1, uf, ub'⟩
      · rw [if_neg c2]
        have o : ∀ j : Int, (j = 0 ∨ 141 ≤ j) → rc_u v (4 + 14 * tR v f + 2 * i) (v (4 + 14 * tR v f + 2 * i) - 1) j = v j := fun j hj => rc_u_n _ _ (by omega)
        exact ⟨fun j h0 _ _ _ _ _ _ => o j h0, Or.inl ⟨o _ (by omega), o _ (by omega), o _ (by omega)⟩⟩
    · exact absurd c.2 (by omega)
  · rw [if_neg c]; exact ⟨fun _ _ _ _ _ _ _ _ => rfl, Or.inl ⟨rfl, rfl, rfl⟩⟩
theorem n_wear {v : rv} (s : wS v) (hh : wH v) (k : wK 1 v) (n : nR 0 0 v) : nR 1 0 (tWear v) ∧ cK (tWear v) v := by
  obtain ⟨A, B⟩ := tWear_sum s hh k
  generalize tWear v = u at *
  have a := fun (j : Int) (h : (j = 0 ∨ 141 ≤ j) ∧ j ≠ 169 ∧ (j < 174 ∨ 181 < j) ∧ j ≠ 191 ∧ j ≠ 194 ∧ j ≠ 195 ∧ j ≠ 198) => A j h.1 h.2.1 h.2.2.1 h.2.2.2.1 h.2.2.2.2.1 h.2.2.2.2.2.1 h.2.2.2.2.2.2
  refine ⟨?_, fun j hj => a j (by omega)⟩
  have a1 := rr_or (v 191)
  have a2 := rr_or (v 195)
  have a3 := rr_or (u 191)
  have a4 := rr_or (u 195)
  unfold nR at *
  rw [a 149 (by omega), a 164 (by omega), a 166 (by omega), a 167 (by omega), a 168 (by omega), a 170 (by omega), a 192 (by omega), a 196 (by omega)]
  clear A a hh k s
  rcases B with ⟨b1, b2, b3⟩ | ⟨b1, ⟨b2, b3, b4⟩ | ⟨b2, b3, b4⟩⟩
  · rw [b1, b2, b3]; omega
  · rw [b1]; omega
  · rw [b1]; omega
theorem tOrd_o {w : rv} {f j : Int} (q : 0 ≤ w 174 ∧ w 174 ≤ 6) (h : j < 174 ∨ 182 < j) : tOrd w f j = w j := by
  have a : tAdd w (3 * f) j = w j := tAdd_n (by omega) (by omega)
  have e := tAdd_s w (3 * f)
  unfold tOrd
  by_cases c : w 149 - w 170 ≤ tThr (tAdd w (3 * f))
  · rw [if_pos c]; exact a
  · rw [if_neg c, tAdd_n (by omega) (by omega)]; exact a
theorem tRun_sum {v : rv} (hh : wH v) (z : v 163 = 0) : (∀ j : Int, (j < 163 ∨ (163 < j ∧ j < 171) ∨ 182 < j) → j ≠ 191 → j ≠ 195 → tRun v j = v j) ∧
    ((tRun v 191 = v 191 ∨ (v 191 = 3 ∧ tRun v 191 = 4)) ∧ (tRun v 195 = v 195 ∨ (v 195 = 3 ∧ tRun v 195 = 4))) ∧ (tRun v 163 ≠ 0 → tRun v (191 + 4 * v 165) = 4 ∧ v (192 + 4 * v 165) = v 149 - 1 ∧ tRun v (191 + 4 * (1 - v 165)) = v (191 + 4 * (1 - v 165))) := by
  obtain ⟨q162, q163, q165, q171, q172, q173, q174, qrow, q191, q195⟩ := id hh
  unfold tRun
  obtain ⟨f, e165⟩ : ∃ f, f = v 165 := ⟨_, rfl⟩
  rw [← e165] at q165 ⊢
  unfold tRun1
  by_cases c : v (191 + 4 * f) = 3 ∧ v 171 = 0 ∧ tLen v f - (if v (192 + 4 * f) = v 149 - 1 then 0 else v 143) ≤ v (193 + 4 * f)
  · rw [if_pos c]
    by_cases c2 : v (192 + 4 * f) = v 149 - 1
    · rw [if_pos c2]
      generalize hu : rc_u (rc_u (rc_u v (191 + 4 * f) 4) 171 1) 163 1 = u
      have uo : ∀ j : Int, j ≠ 191 + 4 * f → j ≠ 171 → j ≠ 163 → u j = v j := fun j a b d => by rw [← hu, rc_u_n _ _ d, rc_u_n _ _ b, rc_u_n _ _ a]
      have uf : u (191 + 4 * f) = 4 := by rw [← hu, rc_u_n _ _ (by omega), rc_u_n _ _ (by omega), rc_u_s]
      refine ⟨fun j h0 h1 h2 => uo j (by omega) (by omega) (by omega), ?_, fun _ => ⟨uf, c2, uo _ (by omega) (by omega) (by omega)⟩⟩
      rcases q165 with e | e
      · rw [e] at c uf
        exact ⟨Or.inr ⟨c.1, uf⟩, Or.inl (uo _ (by omega) (by omega) (by omega))⟩
      · rw [e] at c uf
        exact ⟨Or.inl (uo _ (by omega) (by omega) (by omega)), Or.inr ⟨c.1, uf⟩⟩
    · rw [if_neg c2]
      generalize hw : rc_u (rc_u v (191 + 4 * f) 4) 171 1 = w
      have wo : ∀ j : Int, j ≠ 191 + 4 * f → j ≠ 171 → w j = v j := fun j a b => by rw [← hw, rc_u_n _ _ b, rc_u_n _ _ a]
      have wf : w (191 + 4 * f) = 4 := by rw [← hw, rc_u_n _ _ (by omega), rc_u_s]
      have w174 := wo 174 (by omega) (by omega)
      have o : ∀ j : Int, (j < 174 ∨ 182 < j) → tOrd w f j = w j := fun j hj => tOrd_o (by rw [w174]; exact q174) hj
      refine ⟨fun j h0 h1 h2 => by rw [o j (by omega), wo j (by omega) (by omega)], ?_, fun y => ?_⟩
      · rcases q165 with e | e
        · rw [e] at c wf wo
          exact ⟨Or.inr ⟨c.1, by rw [e, ← e]; rw [o _ (by omega)]; exact wf⟩, Or.inl (by rw [o _ (by omega)]; exact wo _ (by omega) (by omega))⟩
        · rw [e] at c wf wo
          exact ⟨Or.inl (by rw [o _ (by omega)]; exact wo _ (by omega) (by omega)), Or.inr ⟨c.1, by rw [o _ (by omega)]; exact wf⟩⟩
      · exact absurd (by rw [o _ (by omega), wo _ (by omega) (by omega)]; exact z) y
  · rw [if_neg c]; exact ⟨fun _ _ _ _ => rfl, ⟨Or.inl rfl, Or.inl rfl⟩, fun y => absurd z y⟩
theorem n_run {v : rv} (hh : wH v) (z : v 163 = 0) (n : nR 1 0 v) : nR 1 0 (tRun v) ∧ cK (tRun v) v := by
  obtain ⟨A, B, _⟩ := tRun_sum hh z
  generalize tRun v = u at *
  have a := fun (j : Int) (h : (j < 163 ∨ (163 < j ∧ j < 171) ∨ 182 < j) ∧ j ≠ 191 ∧ j ≠ 195) => A j h.1 h.2.1 h.2.2
  refine ⟨?_, fun j hj => a j (by omega)⟩
  have a1 := rr_or (v 191)
  have a2 := rr_or (v 195)
  have a3 := rr_or (u 191)
  have a4 := rr_or (u 195)
  unfold nR at *
  rw [a 149 (by omega), a 164 (by omega), a 166 (by omega), a 167 (by omega), a 168 (by omega), a 169 (by omega), a 170 (by omega), a 192 (by omega), a 196 (by omega)]
  clear A a hh
  omega
theorem tChange_sum {v : rv} (hh : wH v) (k : v 163 = 0 → wK 1 v) : (∀ j : Int, j ≠ 165 → j ≠ 167 → j ≠ 171 → j ≠ 191 → j ≠ 195 → tChange v j = v j) ∧ ((tChange v 167 = v 167 ∧ tChange v 191 = v 191 ∧ tChange v 195 = v 195) ∨
    (v 163 = 0 ∧ (v 167 ≤ tChange v 167 ∧ tChange v 167 ≤ v 167 + 3000) ∧ ((v 191 = 2 ∧ tChange v 191 = 3 ∧ tChange v 195 = v 195) ∨ (v 195 = 2 ∧ tChange v 195 = 3 ∧ tChange v 191 = v 191)))) ∧ (v 163 ≠ 0 → tChange v = v) := by
  obtain ⟨q162, q163, q165, q171, q172, q173, q174, qrow, q191, q195⟩ := id hh
  unfold tChange
  obtain ⟨b, eb⟩ : ∃ b, b = 1 - v 165 := ⟨_, rfl⟩
  rw [← eb]
  have hb : b = 0 ∨ b = 1 := by omega
  unfold tChange1
  by_cases c : v 171 = 1 ∧ v 163 = 0 ∧ v (191 + 4 * b) = 2 ∧ 0 ≤ v (193 + 4 * b)
  · rw [if_pos c]
    obtain ⟨k170, kP0, kP1, kQ⟩ := k c.2.1
    have kP : ∀ p : Int, p = 0 ∨ p = 1 → wP 1 v p := fun p hp => by rcases hp with rfl | rfl <;> assumption
    have fr := ((kP b hb).2.2.2.2 c.2.2.1).2.2.2 c.1
    generalize hu : rc_u (rc_u (rc_u (rc_u v (191 + 4 * b) 3) 165 b) 171 0) 167 (v 167 + v (193 + 4 * b)) = u
    have uo : ∀ j : Int, j ≠ 191 + 4 * b → j ≠ 165 → j ≠ 171 → j ≠ 167 → u j = v j := fun j a b d e => by rw [← hu, rc_u_n _ _ e, rc_u_n _ _ d, rc_u_n _ _ b, rc_u_n _ _ a]
    have uf : u (191 + 4 * b) = 3 := by rw [← hu, rc_u_n _ _ (by omega), rc_u_n _ _ (by omega), rc_u_n _ _ (by omega), rc_u_s]
    have u167 : u 167 = v 167 + v (193 + 4 * b) := by rw [← hu, rc_u_s]
    refine ⟨fun j h0 h1 h2 h3 h4 => uo j (by omega) h0 h2 h1, Or.inr ⟨c.2.1, by omega, ?_⟩, fun y => absurd c.2.1 y⟩
    rcases hb with e | e
    · rw [e] at c uf
      exact Or.inl ⟨c.2.2.1, uf, uo _ (by omega) (by omega) (by omega) (by omega)⟩
    · rw [e] at c uf
      exact Or.inr ⟨c.2.2.1, uf, uo _ (by omega) (by omega) (by omega) (by omega)⟩
  · rw [if_neg c]; exact ⟨fun _ _ _ _ _ _ => rfl, Or.inl ⟨rfl, rfl, rfl⟩, fun _ => rfl⟩
theorem n_change {v : rv} (hh : wH v) (k : v 163 = 0 → wK 1 v) (n : nR 1 0 v) : nR 1 1 (tChange v) ∧ cK (tChange v) v := by
  obtain ⟨A, B, _⟩ := tChange_sum hh k
  generalize tChange v = u at *
  have a := fun (j : Int) (h : j ≠ 165 ∧ j ≠ 167 ∧ j ≠ 171 ∧ j ≠ 191 ∧ j ≠ 195) => A j h.1 h.2.1 h.2.2.1 h.2.2.2.1 h.2.2.2.2
  refine ⟨?_, fun j hj => a j (by omega)⟩
  have a1 := rr_or (v 191)
  have a2 := rr_or (v 195)
  have a3 := rr_or (u 191)
  have a4 := rr_or (u 195)
  unfold nR at *
  rw [a 149 (by omega), a 164 (by omega), a 166 (by omega), a 168 (by omega), a 169 (by omega), a 170 (by omega), a 192 (by omega), a 196 (by omega)]
  clear A a hh k
  rcases B with ⟨b1, b2, b3⟩ | ⟨_, b1, ⟨b2, b3, b4⟩ | ⟨b2, b3, b4⟩⟩
  · rw [b1, b2, b3]; omega
  · omega
  · omega
theorem n_end {v : rv} (n : nR 1 1 v) : nR 0 0 (tEnd v) ∧ cK (tEnd v) v := by
  refine ⟨?_, fun j hj => tEnd_o (by omega) (by omega)⟩
  have e164 : tEnd v 164 = v 164 + 1 := by unfold tEnd; rw [rc_u_n _ _ (by decide), rc_u_s]
  have e166 : tEnd v 166 = v 166 ∨ tEnd v 166 = v 166 + 1 := by
    unfold tEnd
    rw [rc_u_s]
    by_cases d : v 163 = 0 ∧ (v (191 + 4 * v 165) ≠ 3 ∨ v 171 = 1)
    · rw [if_pos d]; exact Or.inr rfl
    · rw [if_neg d]; exact Or.inl (Int.add_zero _)
  have o := fun (j : Int) (h : j ≠ 164 ∧ j ≠ 166) => tEnd_o (v := v) h.1 h.2
  generalize tEnd v = u at *
  unfold nR at *
  rw [o 149 (by omega), o 167 (by omega), o 168 (by omega), o 169 (by omega), o 170 (by omega), o 191 (by omega), o 192 (by omega), o 195 (by omega), o 196 (by omega), e164]
  clear o
  omega
/-- a show that is over -/
def nO (v : rv) : Prop := v 163 ≠ 0 → v (191 + 4 * v 165) = 4 ∧ v (192 + 4 * v 165) = v 149 - 1 ∧ (v (191 + 4 * (1 - v 165)) ≠ 3 ∧ v (191 + 4 * (1 - v 165)) ≠ 5) ∧ (v (191 + 4 * (1 - v 165)) = 2 → -90 ≤ v (193 + 4 * (1 - v 165)) ∧ v (193 + 4 * (1 - v 165)) ≤ 4000)
/-- a show that has begun -/
def nS (v : rv) : Prop := tV v ∧ v 162 = 1 ∧ nR 0 0 v ∧ nO v
theorem n_tick {v : rv} (n : nS v) (z : v 163 = 0) : nS (tTick v) ∧ cK (tTick v) v ∧ tTick v 164 = v 164 + 1 ∧ tTick v 166 - v 166 = (if tTick v 163 = 0 ∧ tTick v (191 + 4 * tTick v 165) ≠ 3 then 1 else 0) := by
  obtain ⟨⟨s, hh, kk⟩, z162, R, _⟩ := n
  have k := kk z162 z
  obtain ⟨⟨s1, h1, k1⟩, ⟨s2, h2, k2⟩, ⟨s3, h3, k3⟩, ⟨s4, h4, k4, z4⟩, ⟨s5, h5, k5⟩, ⟨s6, h6, k6⟩, s7, h7, k7⟩ := inv_steps s hh k z
  have r1 := n_work s hh k R
  have r2 := n_start h1 r1.1
  have r3 := n_go r2.1
  have r4 := n_wear s3 h3 k3 r3.1
  have r5 := n_run h4 z4 r4.1
  have r6 := n_change h5 (fun q => (k5 q).1) r5.1
  have r7 := n_end r6.1
  have C : cK (tTick v) v := cK_t r7.2 (cK_t r6.2 (cK_t r5.2 (cK_t r4.2 (cK_t r3.2 (cK_t r2.2 r1.2)))))
  have t1 := (tWork_sum s hh k).1
  have t2 := (tStart_sum h1.2.2.1).1
  have t4 := (tWear_sum s3 h3 k3).1
  have t5 := tRun_sum h4 z4
  have t6 := tChange_sum h5 (fun q => (k5 q).1)
  have e164 : tChange (tRun (tWear (tGo (tStart (tWork v))))) 164 = v 164 := by
    rw [t6.1 164 (by decide) (by decide) (by decide) (by decide) (by decide), t5.1 164 (by omega) (by decide) (by decide), t4 164 (by omega) (by decide) (by omega) (by decide) (by decide) (by decide) (by decide), tGo_o (by decide) (by decide), t2 164 (by decide) (by decide) (by decide) (by decide) (by decide), t1 164 (by omega)]
  have e166 : tChange (tRun (tWear (tGo (tStart (tWork v))))) 166 = v 166 := by
    rw [t6.1 166 (by decide) (by decide) (by decide) (by decide) (by decide), t5.1 166 (by omega) (by decide) (by decide), t4 166 (by omega) (by decide) (by omega) (by decide) (by decide) (by decide) (by decide), tGo_o (by decide) (by decide), t2 166 (by decide) (by decide) (by decide) (by decide) (by decide), t1 166 (by omega)]
  have T164 : tTick v 164 = v 164 + 1 := by
    show tEnd (tChange (tRun (tWear (tGo (tStart (tWork v)))))) 164 = _
    unfold tEnd
    rw [rc_u_n _ _ (by decide), rc_u_s, e164]
  have o7 : ∀ j : Int, j ≠ 164 → j ≠ 166 → tTick v j = tChange (tRun (tWear (tGo (tStart (tWork v))))) j := fun j a b => tEnd_o a b
  have q165 := h6.2.2.1
  have T166 : tTick v 166 - v 166 = (if tTick v 163 = 0 ∧ tTick v (191 + 4 * tTick v 165) ≠ 3 then 1 else 0) := by
    have e : tTick v 166 = tChange (tRun (tWear (tGo (tStart (tWork v))))) 166 + (if tChange (tRun (tWear (tGo (tStart (tWork v))))) 163 = 0 ∧ (tChange (tRun (tWear (tGo (tStart (tWork v))))) (191 + 4 * tChange (tRun (tWear (tGo (tStart (tWork v))))) 165) ≠ 3 ∨ tChange (tRun (tWear (tGo (tStart (tWork v))))) 171 = 1) then 1 else 0) := by
      show tEnd (tChange (tRun (tWear (tGo (tStart (tWork v)))))) 166 = _
      unfold tEnd
      rw [rc_u_s]
    rw [o7 163 (by decide) (by decide), o7 165 (by decide) (by decide), o7 (191 + 4 * tChange (tRun (tWear (tGo (tStart (tWork v))))) 165) (by omega) (by omega), e, e166]
    generalize tChange (tRun (tWear (tGo (tStart (tWork v))))) = u at *
    by_cases y : u 163 = 0
    · have K := k6 y
      have kP : ∀ p : Int, p = 0 ∨ p = 1 → wP 0 u p := fun p hp => by rcases hp with rfl | rfl; exact K.2.1; exact K.2.2.1
      by_cases w : u (191 + 4 * u 165) = 3
      · have a := ((kP _ q165).2.1 (Or.inl w)).2
        rw [if_neg (by omega), if_neg (by omega)]; omega
      · rw [if_pos ⟨y, Or.inl w⟩, if_pos ⟨y, w⟩]; omega
    · rw [if_neg (fun q => y q.1), if_neg (fun q => y q.1)]; omega
  refine ⟨⟨⟨s7, h7, fun _ y => k7 y⟩, by rw [C 162 (by omega)]; exact z162, r7.1, fun y => ?_⟩, C, T164, T166⟩
  have y6 : tChange (tRun (tWear (tGo (tStart (tWork v))))) 163 ≠ 0 := by rw [← o7 163 (by decide) (by decide)]; exact y
  have y5 : tRun (tWear (tGo (tStart (tWork v)))) 163 ≠ 0 := by rw [← t6.1 163 (by decide) (by decide) (by decide) (by decide) (by decide)]; exact y6
  have e6 := t6.2.2 y5
  rw [e6] at o7
  clear r1 r2 r3 r6 r7 t1 t2 t4 t6 e164 e166 T164 T166 k6 e6 y6
  generalize tWear (tGo (tStart (tWork v))) = w at *
  obtain ⟨A, B, D⟩ := t5
  obtain ⟨d1, d2, d3⟩ := D y5
  have w165 := h4.2.2.1
  have e165 : tTick v 165 = w 165 := by rw [o7 165 (by decide) (by decide), A 165 (by omega) (by decide) (by decide)]
  have kP : ∀ p : Int, p = 0 ∨ p = 1 → wP 1 w p := fun p hp => by rcases hp with rfl | rfl; exact k4.2.1; exact k4.2.2.1
  have P := kP (1 - w 165) (by omega)
  rw [e165, o7 (191 + 4 * w 165) (by omega) (by omega), o7 (192 + 4 * w 165) (by omega) (by omega), o7 149 (by decide) (by decide), o7 (191 + 4 * (1 - w 165)) (by omega) (by omega), o7 (193 + 4 * (1 - w 165)) (by omega) (by omega), A (192 + 4 * w 165) (by omega) (by omega) (by omega), A 149 (by omega) (by decide) (by decide), A (193 + 4 * (1 - w 165)) (by omega) (by omega) (by omega), d3]
  refine ⟨d1, d2, ⟨fun q => by have := (P.2.1 (Or.inl q)).1; omega, fun q => by have := (P.2.1 (Or.inr q)).1; omega⟩, fun q => ?_⟩
  obtain ⟨p1, p2, p3, p4⟩ := P.2.2.2.2 q
  refine ⟨p2, ?_⟩
  rcases h4.2.2.2.1 with y | y
  · have a := p3 y
    have e1 : 1 - (1 - w 165) = w 165 := by omega
    rw [e1] at a
    have b := (kP _ w165).2.2.1 a.1
    omega
  · have a := (p4 y).2
    omega
