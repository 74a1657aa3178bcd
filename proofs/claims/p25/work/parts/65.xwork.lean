/-! ===== pure part: a tick of the program, the operator's work ===== -/
theorem eP_st {J : rc_M} {q : Nat} {u : rv} {p : Int} (a : J q 0 = u (191 + 4 * p)) (b : J q 1 = u (192 + 4 * p)) (c : (u (191 + 4 * p) = 2 ∨ u (191 + 4 * p) = 3 ∨ u (191 + 4 * p) = 5) → J q 2 = u (193 + 4 * p)) : eP J q u p := ⟨a, fun _ => b, c⟩
theorem eC_c {I J : rc_M} {s : Nat} {u v : rv} (hI : J s = I s) (h : ∀ j : Int, 162 ≤ j → j < 172 → u j = v j) (C : eC I s v) : eC J s u := by
  unfold eC
  rw [hI, h 162 (by decide) (by decide), h 163 (by decide) (by decide), h 164 (by decide) (by decide), h 165 (by decide) (by decide), h 166 (by decide) (by decide), h 167 (by decide) (by decide), h 168 (by decide) (by decide), h 169 (by decide) (by decide), h 170 (by decide) (by decide), h 171 (by decide) (by decide)]; exact C
theorem x_finish {G : rc_G} {r : Nat} {I : rc_M} {v : rv} {c p : Int} {post : rc_M → Prop} (s : wS v) (n6 : 0 ≤ v 174 ∧ v 174 ≤ 6) (kk : kX4 G r) (hp : p = 0 ∨ p = 1) (hc : 0 ≤ c) (ep : c / 3 = p) (e172 : v 172 = c)
    (h0 : c % 3 = 0 → v (191 + 4 * p) ≠ 0) (h2 : c % 3 = 2 → v (191 + 4 * p) = 5 ∧ (0 ≤ v (192 + 4 * p) ∧ v (192 + 4 * p) < v 149) ∧ (0 ≤ v (194 + 4 * p) ∧ v (194 + 4 * p) ≤ 3001 ∧ v (194 + 4 * p) = v (193 + 4 * p))) (E : eA I r v)
    (H : ∀ J : rc_M, eA J r (tFin v c) → eF r I J → post J) : wX5_finishTask G (r + 35) (r + 1) I post := by
  obtain ⟨R, C, O, P⟩ := id E
  have w := O.2.2.1 (by omega)
  rw [e172, ep] at w
  have Pp := P p hp
  have nq : r + 35 + 4 + p.toNat ≠ r + 35 ∧ r + 39 ≤ r + 35 + 4 + p.toNat ∧ r + 35 + 4 + p.toNat ≤ r + 40 := ⟨by omega, by omega, by omega⟩
  have k2 := k2_of kk.2.2 hp
  unfold tFin at H
  rw [ep] at H
  unfold wX5_finishTask
  rw [w.2]
  refine x_proj hp ⟨_, rfl, k2, ?_⟩
  rw [w.1]
  generalize hq : r + 35 + 4 + p.toNat = q at *
  refine ⟨by unfold rc_R; omega, fun a I5 e5 => ?_, fun a => ?_, fun a b => ?_⟩
  · rw [if_pos a] at H
    have uo : ∀ j : Int, j ≠ 191 + 4 * p → rc_u v (191 + 4 * p) 0 j = v j := fun j hj => rc_u_n _ _ hj
    have us : rc_u v (191 + 4 * p) 0 (191 + 4 * p) = 0 := rc_u_s _ _ _
    generalize rc_u v (191 + 4 * p) 0 = u at *
    have Jo : ∀ a : Nat, a ≠ q → I5 a = I a := fun a ha => by rw [e5, qs_n _ _ _ ha]
    refine H I5 (eA_gen hp s n6.2 E (fun a _ a2 => Jo a (by rw [← hq]; exact a2)) (fun j _ hj => uo j (by omega)) (fun j j0 hj => uo j (by omega)) (fun j j0 hj => uo j (by omega)) (fun y => by rw [uo 162 (by omega), uo 163 (by omega), uo 165 (by omega)] at y; exact y) (eC_c (Jo _ nq.1.symm) (fun j j0 j1 => uo j (by omega)) C) ?_) (fun a ha => Jo a (by omega))
    rw [hq]
    exact eP_st (by rw [e5, qs_s, rc_u_s, us]) (by rw [e5, qs_s, rc_u_n _ _ (by decide), uo (192 + 4 * p) (by omega)]; exact Pp.2.1 (Or.inl (h0 a))) (fun y => by omega)
  · rw [if_neg (by omega), if_pos a] at H
    intro I1 e1 I2 e2 I7 e7
    have uo : ∀ j : Int, j ≠ 170 → j ≠ 191 + 4 * p → j ≠ 192 + 4 * p → tComes v p j = v j := fun j a b c => by unfold tComes; rw [rc_u_n _ _ a, rc_u_n _ _ c, rc_u_n _ _ b]
    have u1 : tComes v p (191 + 4 * p) = 1 := by unfold tComes; rw [rc_u_n _ _ (by omega), rc_u_n _ _ (by omega), rc_u_s]
    have u2 : tComes v p (192 + 4 * p) = v 170 := by unfold tComes; rw [rc_u_n _ _ (by omega), rc_u_s]
    have u170 : tComes v p 170 = v 170 + 1 := by unfold tComes; rw [rc_u_s]
    generalize tComes v p = u at *
    obtain ⟨c0, c1, c2, c3, c4, c5, c7, c8, c9⟩ := id C
    have i2s : I2 (r + 35) = I (r + 35) := by rw [e2, qs_n _ _ _ nq.1.symm, e1, qs_n _ _ _ nq.1.symm]
    rw [i2s, c8] at e7
    rw [c8] at e2
    have Jo : ∀ a : Nat, a ≠ r + 35 → a ≠ q → I7 a = I a := fun a a1 a2 => by rw [e7, qs_n _ _ _ a1, e2, qs_n _ _ _ a2, e1, qs_n _ _ _ a2]
    have Js : ∀ j : Int, j ≠ 8 → I7 (r + 35) j = I (r + 35) j := fun j hj => by rw [e7, qs_s, rc_u_n _ _ hj, i2s]
    refine H I7 (eA_gen hp s n6.2 E (fun a a1 a2 => Jo a a1 (by rw [← hq]; exact a2)) (fun j _ hj => uo j (by omega) (by omega) (by omega)) (fun j j0 hj => uo j (by omega) (by omega) (by omega)) (fun j j0 hj => uo j (by omega) (by omega) (by omega)) (fun y => by rw [uo 162 (by omega) (by omega) (by omega), uo 163 (by omega) (by omega) (by omega), uo 165 (by omega) (by omega) (by omega)] at y; exact y) ?_ ?_) (fun a ha => Jo a (by omega) (by omega))
    · unfold eC
      rw [Js 0 (by decide), Js 1 (by decide), Js 2 (by decide), Js 3 (by decide), Js 4 (by decide), Js 5 (by decide), Js 7 (by decide), Js 9 (by decide), u170, uo 162 (by omega) (by omega) (by omega), uo 163 (by omega) (by omega) (by omega), uo 164 (by omega) (by omega) (by omega), uo 165 (by omega) (by omega) (by omega), uo 166 (by omega) (by omega) (by omega), uo 167 (by omega) (by omega) (by omega), uo 168 (by omega) (by omega) (by omega), uo 169 (by omega) (by omega) (by omega), uo 171 (by omega) (by omega) (by omega)]
      exact ⟨c0, c1, c2, c3, c4, c5, c7, by rw [e7, qs_s, rc_u_s], c9⟩
    · rw [hq]
      exact eP_st (by rw [e7, qs_n _ _ _ nq.1, e2, qs_s, rc_u_n _ _ (by decide), e1, qs_s, rc_u_s, u1]) (by rw [e7, qs_n _ _ _ nq.1, e2, qs_s, rc_u_s, u2]) (fun y => by omega)
  · obtain ⟨x1, x2, x3⟩ := h2 (by omega)
    rw [if_neg a, if_neg b] at H
    obtain ⟨b1, b2, b3, bL⟩ := wS_R s x2
    have wl := bL.1
    have s8 := s.2.2.2.1.2.2.2.2.2.2.2
    have el : tLen v p = v (1 + 14 * tR v p) := rfl
    have ifr : I q 2 = v (193 + 4 * p) := Pp.2.2 (by omega)
    have ipl : I q 1 = v (192 + 4 * p) := Pp.2.1 (by omega)
    unfold wX5_finishRepair
    rw [ipl]
    refine x_reelAt R s x2 ⟨fun y => (by cases y), fun q3 y => ?_⟩
    have e3 : q3 = r + 5 + 3 * (tR v p).toNat := by injection y with y; rw [← y]; rfl
    have eLq : eL I q3 v (tR v p) := by rw [e3]; exact R.2.2.2.2 _ b2.1 b3
    refine ⟨by rw [e3]; exact k3_of kk.2.1 b2, ?_⟩
    rw [ifr]
    refine x_repairAt eLq bL (by unfold rc_R; omega) ?_
    -- the splice is mended: a state between
    have mid : ∃ (I4 : rc_M) (m : rv), (if 0 ≤ tK v (tR v p) (v (193 + 4 * p)) then rc_s I (q3 + 2) (tK v (tR v p) (v (193 + 4 * p))) 9 else I) = I4 ∧ eA I4 r m ∧ wS m ∧ (∀ j : Int, 141 ≤ j → m j = v j) ∧ (m (1 + 14 * tR v p) = v (1 + 14 * tR v p)) ∧ (∀ a : Nat, a < r + 5 ∨ r + 34 < a → I4 a = I a) ∧ I4 q3 = I q3 ∧ tMark (tRep v p) (tR v p) (v (194 + 4 * p)) 9 = tRep m p := by
      have wR : wL (tRep v p) (tR v p) := wL_lo b2 (fun j _ hj => tRep_lo hp j (by omega)) bL
      have eK : tK (tRep v p) (tR v p) (v (194 + 4 * p)) = tK v (tR v p) (v (193 + 4 * p)) := by rw [x3.2.2]; exact tK_lo b2 (fun j _ hj => tRep_lo hp j (by omega)) bL
      unfold tMark
      rw [eK]
      rcases tK_spec v (tR v p) (v (193 + 4 * p)) with ⟨z0, z1, _⟩ | ⟨z0, _⟩
      · rw [if_pos z0, if_pos z0]
        have w2 := bL.2.1
        refine ⟨_, rc_u v (4 + 14 * tR v p + 2 * tK v (tR v p) (v (193 + 4 * p))) 9, rfl, by rw [e3]; exact eA_str s n6 E ⟨b2.1, b3⟩ ⟨z0, z1⟩, wS_str s ⟨b2.1, b3⟩ ⟨z0, z1⟩ (by omega), fun j hj => rc_u_n _ _ (by omega), rc_u_n _ _ (by omega), fun a ha => qs_n _ _ _ (by omega), qs_n _ _ _ (by omega), ?_⟩
        generalize tK v (tR v p) (v (193 + 4 * p)) = i at *
        have hz : 4 + 14 * tR v p + 2 * i < 141 ∧ 4 ≤ 4 + 14 * tR v p + 2 * i := by omega
        have n1 : 1 + 14 * tR v p ≠ 4 + 14 * tR v p + 2 * i := by omega
        have n2 : 150 + v (192 + 4 * p) ≠ 4 + 14 * tR v p + 2 * i := by omega
        generalize 4 + 14 * tR v p + 2 * i = z at hz n1 n2 ⊢
        have eRm : tR (rc_u v z 9) p = tR v p := by unfold tR; rw [rc_u_n _ _ (show 192 + 4 * p ≠ z by omega), rc_u_n _ _ n2]
        have eLm : tLen (rc_u v z 9) p = tLen v p := by unfold tLen; rw [eRm, rc_u_n _ _ n1]
        unfold tRep
        rw [eLm, rc_u_n v (k := z) 9 (show 194 + 4 * p ≠ z by omega), rc_u_n v (k := z) 9 (show (148 : Int) ≠ z by omega)]
        funext j
        rw [rc_ue, rc_ue, rc_ue, rc_ue, rc_ue, rc_ue]
        by_cases y1 : j = z
        · rw [if_pos y1, if_neg (by omega), if_neg (by omega), if_pos y1]
        · rw [if_neg y1, if_neg y1]
      · rw [z0, if_neg (by omega), if_neg (by omega)]
        exact ⟨I, v, rfl, E, s, fun _ _ => rfl, rfl, fun _ _ => rfl, rfl, rfl⟩
    obtain ⟨I4, m, em, Em, sm, mo, ml, Io, Iq, et⟩ := mid
    rw [em]
    rw [et] at H
    have eRm : tR m p = tR v p := by
      have m192 := mo (192 + 4 * p) (by omega)
      unfold tR; rw [m192, mo _ (by omega)]
    have eLm : tLen m p = tLen v p := by unfold tLen; rw [eRm, ml]
    have m148 := mo 148 (by omega)
    have m193 := mo (193 + 4 * p) (by omega)
    have m194 := mo (194 + 4 * p) (by omega)
    have uo : ∀ j : Int, j ≠ 191 + 4 * p → j ≠ 193 + 4 * p → tRep m p j = m j := fun j a b => by unfold tRep; rw [rc_u_n _ _ b, rc_u_n _ _ a]
    have u1 : tRep m p (191 + 4 * p) = 3 := by unfold tRep; rw [rc_u_n _ _ (by omega), rc_u_s]
    have u3 : tRep m p (193 + 4 * p) = min (v (194 + 4 * p) + v 148) (tLen v p) := by unfold tRep; rw [rc_u_s, m194, m148, eLm]
    generalize tRep m p = u at *
    have i4q : I4 q = I q := Io q (by omega)
    refine x_setting Em.1 (by omega) ?_
    have i4l : I4 q3 0 = tLen v p := by rw [Iq, eLq.1]; rfl
    rw [show (141 : Int) + 7 = 148 by decide, m148, i4q, ifr, i4l]
    refine ⟨by unfold rc_R; omega, by unfold rc_R; omega, fun I9 e9 I10 e10 => ?_⟩
    have Jo : ∀ a : Nat, a ≠ q → I10 a = I4 a := fun a ha => by rw [e10, qs_n _ _ _ ha, e9, qs_n _ _ _ ha]
    have n6m : m 174 ≤ 6 := by rw [mo 174 (by omega)]; exact n6.2
    refine H I10 (eA_gen hp sm n6m Em (fun a _ a2 => Jo a (by rw [← hq]; exact a2)) (fun j _ hj => uo j (by omega) (by omega)) (fun j j0 hj => uo j (by omega) (by omega)) (fun j j0 hj => uo j (by omega) (by omega)) (fun y => by rw [uo 162 (by omega) (by omega), uo 163 (by omega) (by omega), uo 165 (by omega) (by omega)] at y; exact y) (eC_c (Jo _ nq.1.symm) (fun j j0 j1 => uo j (by omega) (by omega)) Em.2.1) ?_) (fun a ha => by rw [Jo a (by omega), Io a (by omega)])
    rw [hq]
    exact eP_st (by rw [e10, qs_s, rc_u_s, u1]) (by rw [e10, qs_s, rc_u_n _ _ (by decide), e9, qs_s, rc_u_n _ _ (by decide), i4q, ipl, uo (192 + 4 * p) (by omega) (by omega), mo _ (by omega)]) (fun _ => by rw [e10, qs_s, rc_u_n _ _ (by decide), e9, qs_s, rc_u_s, u3, x3.2.2])
