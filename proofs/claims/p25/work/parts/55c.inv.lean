theorem wL_c0 {v u : rv} (h : ∀ j : Int, 173 ≠ j → u j = v j) (s : wS v) : wS u := wS_lo (fun j _ hj => h j (by omega)) s
theorem tMark_o {w : rv} {i fr x : Int} (hi : 0 ≤ i ∧ i < 10) (w2 : w (2 + 14 * i) ≤ 6) (j : Int) (hj : 141 ≤ j) : tMark w i fr x j = w j := by
  unfold tMark
  rcases tK_spec w i fr with ⟨a, b, _⟩ | ⟨a, _⟩
  · rw [if_pos a, rc_u_n _ _ (by omega)]
  · rw [if_neg (by omega)]
theorem inv_work {v : rv} (s : wS v) (hh : wH v) (k : wK 0 v) : wS (tWork v) ∧ wH (tWork v) ∧ wK 0 (tWork v) := by
  obtain ⟨q162, q163, q165, q171, q172, q173, q174, qrow, q191, q195⟩ := id hh
  obtain ⟨k170, kP0, kP1, kQ⟩ := id k
  have kP : ∀ p : Int, p = 0 ∨ p = 1 → wP 0 v p := fun p hp => by rcases hp with rfl | rfl <;> assumption
  unfold tWork
  by_cases n0 : v 172 < 0
  · rw [if_pos n0]
    by_cases n1 : v 174 ≤ 0
    · rw [if_pos n1]; exact ⟨s, hh, k⟩
    · rw [if_neg n1]; exact inv_up s hh k n0 n1
  · rw [if_neg n0]
    have q := q173 (by omega)
    have wo : ∀ j : Int, j ≠ 173 → rc_u v 173 (v 173 - 1) j = v j := fun j hj => rc_u_n _ _ hj
    have ws : rc_u v 173 (v 173 - 1) 173 = v 173 - 1 := rc_u_s _ _ _
    have sw : wS (rc_u v 173 (v 173 - 1)) := wS_lo (fun j _ hj => wo j (by omega)) s
    by_cases n1 : v 173 - 1 = 0
    · rw [if_pos n1]
      generalize rc_u v 173 (v 173 - 1) = w at *
      have hp : v 172 / 3 = 0 ∨ v 172 / 3 = 1 := by omega
      have uo : ∀ j : Int, j ≠ 172 → rc_u (tFin w (v 172)) 172 (-1) j = tFin w (v 172) j := fun j hj => rc_u_n _ _ hj
      have us : rc_u (tFin w (v 172)) 172 (-1) 172 = -1 := rc_u_s _ _ _
      generalize hq : v 172 / 3 = p at *
      rcases (show v 172 % 3 = 0 ∨ v 172 % 3 = 1 ∨ v 172 % 3 = 2 by omega) with r | r | r
      · have e : tFin w (v 172) = rc_u w (191 + 4 * p) 0 := by unfold tFin; rw [if_pos r, hq]
        rw [e] at uo us ⊢
        refine inv_fin s hh k (by omega) (wS_lo (fun j _ hj => by rw [uo j (by omega), rc_u_n _ _ (by omega)]) sw) us (fun j j0 j1 j2 j3 j4 j5 j6 => ?_) (fun _ => ?_) (fun c => absurd c (by omega)) (fun c => absurd c (by omega))
        · rw [hq] at j4; rw [uo j j2, rc_u_n _ _ j4, wo j j3]
        · rw [hq]
          exact ⟨by rw [uo _ (by omega), rc_u_s], by rw [uo _ (by omega), rc_u_n _ _ (by omega), wo _ (by omega)], by rw [uo _ (by omega), rc_u_n _ _ (by omega), wo _ (by omega)]⟩
      · have e : tFin w (v 172) = tComes w p := by unfold tFin; rw [if_neg (by omega), if_pos r, hq]
        have t : ∀ j : Int, j ≠ 170 → j ≠ 191 + 4 * p → j ≠ 192 + 4 * p → tComes w p j = w j := fun j a b c => by unfold tComes; rw [rc_u_n _ _ a, rc_u_n _ _ c, rc_u_n _ _ b]
        rw [e] at uo us ⊢
        refine inv_fin s hh k (by omega) (wS_lo (fun j _ hj => by rw [uo j (by omega), t j (by omega) (by omega) (by omega)]) sw) us (fun j j0 j1 j2 j3 j4 j5 j6 => ?_) (fun c => absurd c (by omega)) (fun _ => ?_) (fun c => absurd c (by omega))
        · rw [hq] at j4 j5; rw [uo j j2, t j j1 j4 j5, wo j j3]
        · rw [hq]
          refine ⟨?_, ?_, ?_⟩
          · rw [uo _ (by omega)]; unfold tComes; rw [rc_u_n _ _ (by omega), rc_u_n _ _ (by omega), rc_u_s]
          · rw [uo _ (by omega)]; unfold tComes; rw [rc_u_n _ _ (by omega), rc_u_s, wo _ (by omega)]
          · rw [uo _ (by omega)]; unfold tComes; rw [rc_u_s, wo _ (by omega)]
      · have e : tFin w (v 172) = tMark (tRep w p) (tR w p) (w (194 + 4 * p)) 9 := by unfold tFin; rw [if_neg (by omega), if_neg (by omega), hq]
        rw [e] at uo us ⊢
        have x := (kQ.2.1 0 p (by omega) (by omega) hp).2.1 (by show v 172 = _; omega)
        have y := kP _ hp
        have z := y.2.2.2.1 x
        have pl := y.1 (Or.inl (by omega))
        obtain ⟨b1, b2, b3, bL⟩ := wS_R (p := p) sw (by rw [wo _ (by omega), wo 149 (by omega)]; exact pl)
        have lo := fun j hj => tRep_lo (v := w) hp j hj
        have bL2 : wL (tRep w p) (tR w p) := wL_lo b2 (fun j _ hj => lo j (by omega)) bL
        have mo := fun j hj => tMark_o (w := tRep w p) (i := tR w p) (fr := w (194 + 4 * p)) (x := 9) b2 bL2.2.1.2 j hj
        have sR : wS (tRep w p) := wS_lo (fun j _ hj => lo j (by omega)) sw
        have sM : wS (tMark (tRep w p) (tR w p) (w (194 + 4 * p)) 9) := by
          unfold tMark
          rcases tK_spec (tRep w p) (tR w p) (w (194 + 4 * p)) with ⟨a, b, _⟩ | ⟨a, _⟩
          · rw [if_pos a]; exact wS_str sR ⟨b2.1, by rw [lo 0 (by omega)]; exact b3⟩ ⟨a, b⟩ (by omega)
          · rw [if_neg (by omega)]; exact sR
        refine inv_fin s hh k (by omega) (wS_lo (fun j _ hj => uo j (by omega)) sM) us (fun j j0 j1 j2 j3 j4 j5 j6 => ?_) (fun c => absurd c (by omega)) (fun c => absurd c (by omega)) (fun _ => ?_)
        · rw [hq] at j4 j6; rw [uo j j2, mo j (by omega)]; unfold tRep; rw [rc_u_n _ _ j6, rc_u_n _ _ j4, wo j j3]
        · rw [hq]
          have wl := bL.1
          have s8 := sw.2.2.2.1.2.2.2.2.2.2.2
          have e194 := wo (194 + 4 * p) (by omega)
          have ef : tMark (tRep w p) (tR w p) (w (194 + 4 * p)) 9 (193 + 4 * p) = min (w (194 + 4 * p) + w 148) (tLen w p) := by
            rw [mo _ (by omega)]; unfold tRep; rw [rc_u_s]
          have el : tLen w p = w (1 + 14 * tR w p) := rfl
          refine ⟨?_, ?_, ?_, ?_, ?_⟩
          · rw [uo _ (by omega), mo _ (by omega)]; unfold tRep; rw [rc_u_n _ _ (by omega), rc_u_s]
          · rw [uo _ (by omega), mo _ (by omega)]; unfold tRep; rw [rc_u_n _ _ (by omega), rc_u_n _ _ (by omega), wo _ (by omega)]
          · rw [uo _ (by omega), mo _ (by omega)]; unfold tRep; rw [rc_u_n _ _ (by omega), rc_u_n _ _ (by omega), wo _ (by omega)]
          · rw [uo _ (by omega), ef]; omega
          · rw [uo _ (by omega), ef]; omega
    · rw [if_neg n1]
      generalize rc_u v 173 (v 173 - 1) = w at *
      have we : ∀ j : Int, 0 ≤ j → wE w j = wE v j := fun j j0 => by
        unfold wE
        by_cases c : j = 0
        · rw [if_pos c]; exact wo _ (by omega)
        · rw [if_neg c]; exact wo _ (by omega)
      refine ⟨sw, ⟨by rw [wo 162 (by omega)]; exact q162, by rw [wo 163 (by omega)]; exact q163, by rw [wo 165 (by omega)]; exact q165, by rw [wo 171 (by omega)]; exact q171, by rw [wo 172 (by omega)]; exact q172, fun _ => by rw [ws]; omega, by rw [wo 174 (by omega)]; exact q174, fun k k0 k1 => ?_, by rw [wo 191 (by omega)]; exact q191, by rw [wo 195 (by omega)]; exact q195⟩, ?_, ?_, ?_, ?_⟩
      · rw [wo 174 (by omega)] at k1; rw [wo _ (by omega)]; exact qrow k k0 k1
      · rw [wo 170 (by omega), wo 149 (by omega), wo 162 (by omega)]; exact k170
      · exact wP_c (Or.inl rfl) (wo 149 (by omega)) (wo 165 (by omega)) (wo 171 (by omega)) (fun j hj => wo j (by omega)) kP0
      · exact wP_c (Or.inr rfl) (wo 149 (by omega)) (wo 165 (by omega)) (wo 171 (by omega)) (fun j hj => wo j (by omega)) kP1
      · obtain ⟨d, o, t⟩ := kQ
        exact ⟨fun i j i0 i1 j1 => by rw [wo 174 (by omega)] at j1; rw [we i i0, we j (by omega)]; exact d i j i0 i1 j1, fun j p j0 j1 hp => by
          rw [wo 174 (by omega)] at j1
          rw [we j j0, wo (191 + 4 * p) (by omega)]
          have oj := o j p j0 j1 hp
          refine ⟨oj.1, oj.2.1, fun y => ?_⟩
          rcases oj.2.2 y with z | ⟨z, i, i0, i1, i2⟩
          · exact Or.inl z
          · exact Or.inr ⟨z, i, i0, i1, by rw [we i i0]; exact i2⟩, by
          unfold tThr at t ⊢
          rw [wo 172 (by omega), wo 174 (by omega), wo 170 (by omega), wo 149 (by omega), tCnt_c (u := w) (v := v) _ (fun k k0 k1 => wo _ (by omega))]; exact t⟩
