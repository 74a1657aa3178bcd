/-! ===== pure part: a tick of the program ===== -/
theorem eA_gen {I J : rc_M} {r : Nat} {u v : rv} {p : Int} (hp : p = 0 ∨ p = 1) (s : wS v) (n6 : v 174 ≤ 6) (E : eA I r v) (hI : ∀ a : Nat, a ≠ r + 35 → a ≠ r + 35 + 4 + p.toNat → J a = I a) (h1 : ∀ j : Int, 0 ≤ j → j < 162 → u j = v j) (h2 : ∀ j : Int, 172 ≤ j → j ≤ 190 → u j = v j)
    (h3 : ∀ j : Int, 191 ≤ j → (j < 191 + 4 * p ∨ 194 + 4 * p < j) → u j = v j) (hf : u 162 = 1 ∧ u 163 = 0 ∧ u 165 = 1 - p → v 162 = 1 ∧ v 163 = 0 ∧ v 165 = 1 - p) (hC : eC J (r + 35) u) (hP : eP J (r + 35 + 4 + p.toNat) u p) : eA J r u := by
  obtain ⟨R, C, O, P⟩ := E
  refine ⟨eR_c s (fun a a0 a1 => hI a (by omega) (by omega)) h1 R, hC, ?_, fun n hn => ?_⟩
  · exact eO_c ⟨hI _ (by omega) (by omega), hI _ (by omega) (by omega), hI _ (by omega) (by omega)⟩ (h2 172 (by omega) (by omega)) (h2 173 (by omega) (by omega)) (h2 174 (by omega) (by omega)) (fun k k0 k1 => h2 _ (by omega) (by omega)) O
  · by_cases e : n = p
    · rw [e]; exact hP
    · have e2 : n = 1 - p := by omega
      rw [e2]
      exact eP_c (hI _ (by omega) (by omega)) (h3 _ (by omega) (by omega)) (h3 _ (by omega) (by omega)) (h3 _ (by omega) (by omega)) hf (P (1 - p) (by omega))
theorem x_go1 {G : rc_G} {r : Nat} {I : rc_M} {v : rv} {p : Int} {post : rc_M → Prop} (hp : p = 0 ∨ p = 1) (s : wS v) (n6 : v 174 ≤ 6) (hs : 0 ≤ v (191 + 4 * p) ∧ v (191 + 4 * p) ≤ 5) (E : eA I r v) (H : ∀ J : rc_M, eA J r (tGo1 v p) → eF r I J → post J) : wX5_goOn G (r + 35 + 4 + p.toNat) I post := by
  have P := E.2.2.2 p hp
  have C := E.2.1
  have go : (v (191 + 4 * p) = 2 ∨ v (191 + 4 * p) = 3) → ∀ J : rc_M, J = rc_s I (r + 35 + 4 + p.toNat) 2 (I (r + 35 + 4 + p.toNat) 2 + 1) → post J := fun c J e => by
    have f := P.2.2 (by omega)
    rw [f] at e
    unfold tGo1 at H
    rw [if_pos c] at H
    have uo : ∀ j : Int, j ≠ 193 + 4 * p → rc_u v (193 + 4 * p) (v (193 + 4 * p) + 1) j = v j := fun j hj => rc_u_n _ _ hj
    have us : rc_u v (193 + 4 * p) (v (193 + 4 * p) + 1) (193 + 4 * p) = v (193 + 4 * p) + 1 := rc_u_s _ _ _
    generalize rc_u v (193 + 4 * p) (v (193 + 4 * p) + 1) = u at *
    have Jo : ∀ a : Nat, a ≠ r + 35 + 4 + p.toNat → J a = I a := fun a ha => by rw [e, qs_n _ _ _ ha]
    refine H J (eA_gen hp s n6 E (fun a _ a2 => Jo a a2) (fun j _ hj => uo j (by omega)) (fun j _ hj => uo j (by omega)) (fun j _ hj => uo j (by omega)) (fun q => by rw [uo 162 (by omega), uo 163 (by omega), uo 165 (by omega)] at q; exact q) ?_ ?_) (by rw [e]; exact eF_s (eF_r r I) (by omega))
    · unfold eC
      rw [Jo _ (by omega), uo 162 (by omega), uo 163 (by omega), uo 164 (by omega), uo 165 (by omega), uo 166 (by omega), uo 167 (by omega), uo 168 (by omega), uo 169 (by omega), uo 170 (by omega), uo 171 (by omega)]; exact C
    · have J0 : J (r + 35 + 4 + p.toNat) 0 = I (r + 35 + 4 + p.toNat) 0 := by rw [e, qs_s, rc_u_n _ _ (by omega)]
      have J1 : J (r + 35 + 4 + p.toNat) 1 = I (r + 35 + 4 + p.toNat) 1 := by rw [e, qs_s, rc_u_n _ _ (by omega)]
      have J2 : J (r + 35 + 4 + p.toNat) 2 = v (193 + 4 * p) + 1 := by rw [e, qs_s, rc_u_s]
      unfold eP
      rw [J0, J1, J2, us, uo (191 + 4 * p) (by omega), uo (192 + 4 * p) (by omega), uo 162 (by omega), uo 163 (by omega), uo 165 (by omega)]
      exact ⟨P.1, P.2.1, fun _ => rfl⟩
  have stay : ¬ (v (191 + 4 * p) = 2 ∨ v (191 + 4 * p) = 3) → post I := fun c => by
    unfold tGo1 at H
    rw [if_neg c] at H
    exact H I E (eF_r r I)
  unfold wX5_goOn wX2_isMoving wX2_isMoving_16
  rw [P.1]
  refine ⟨by unfold rc_R; omega, fun c => ⟨by unfold rc_R; omega, fun q => absurd q (by omega), fun _ => go (Or.inl c)⟩, fun c => ⟨by unfold rc_R; omega, fun c2 => ⟨by unfold rc_R; omega, fun _ => stay (by omega), fun q => absurd rfl q⟩, fun c2 => ⟨by unfold rc_R; omega, fun q => absurd q (by omega), fun _ => go (Or.inr c2)⟩⟩⟩
theorem x_start {G : rc_G} {r q : Nat} {I : rc_M} {v : rv} {post : rc_M → Prop} (k5 : kX5 G (r + 35)) (s : wS v) (hh : wH v) (k : wK 0 v) (E : eA I r v) (hl : v (191 + 4 * v 165) = 3 → I q 0 = tLen v (v 165))
    (H : ∀ J : rc_M, eA J r (tStart v) → eF r I J → (∀ a : Nat, r + 1 ≤ a → a ≤ r + 34 → J a = I a) → post J) : wX5_startBack G (r + 35) (r + 1) q I post := by
  obtain ⟨q162, q163, q165, q171, q172, q173, q174, qrow, q191, q195⟩ := id hh
  obtain ⟨k170, kP0, kP1, kQ⟩ := id k
  have kP : ∀ p : Int, p = 0 ∨ p = 1 → wP 0 v p := fun p hp => by rcases hp with rfl | rfl <;> assumption
  have kB : ∀ p : Int, p = 0 ∨ p = 1 → 0 ≤ v (191 + 4 * p) ∧ v (191 + 4 * p) ≤ 5 := fun p hp => by rcases hp with rfl | rfl <;> assumption
  have s1 := s.2.2.2.1
  unfold tStart at H
  obtain ⟨f, e165⟩ : ∃ f, f = v 165 := ⟨_, rfl⟩
  rw [← e165] at q165 H hl
  obtain ⟨R, C, O, P⟩ := id E
  obtain ⟨c0, c1, c2, c3, c4, c5, c7, c8, c9⟩ := id C
  have Pf := P f q165
  have Pb := P (1 - f) (by omega)
  have hb := kB (1 - f) (by omega)
  have hf := kB f q165
  have e7 : I (r + 35) 7 = f := c7.trans e165.symm
  unfold tStart1 at H
  have stay : ¬ (v (191 + 4 * (1 - f)) = 1 ∧ (v 171 = 1 ∨ (v (191 + 4 * f) = 3 ∧ v 171 = 0 ∧ tLen v f - v 142 ≤ v (193 + 4 * f)))) → post I := fun c => by
    rw [if_neg c] at H
    exact H I E (eF_r r I) (fun _ _ _ => rfl)
  have fin : ∀ (J : rc_M) (z : Int), J = rc_s (rc_s (rc_s I (r + 35 + 4 + (1 - f).toNat) 0 2) (r + 35 + 4 + (1 - f).toNat) 2 (-(v 141))) (r + 35) 4 z → (v (191 + 4 * (1 - f)) = 1 ∧ (v 171 = 1 ∨ (v (191 + 4 * f) = 3 ∧ v 171 = 0 ∧ tLen v f - v 142 ≤ v (193 + 4 * f)))) → z = v 168 + (if v 171 = 1 ∨ tLen v f - v 142 < v (193 + 4 * f) then 1 else 0) → post J := by
    intro J z e c hz
    rw [if_pos c, ← hz] at H
    have uo : ∀ j : Int, j ≠ 191 + 4 * (1 - f) → j ≠ 193 + 4 * (1 - f) → j ≠ 168 → rc_u (rc_u (rc_u v (191 + 4 * (1 - f)) 2) (193 + 4 * (1 - f)) (-v 141)) 168 z j = v j := fun j a b d => by rw [rc_u_n _ _ d, rc_u_n _ _ b, rc_u_n _ _ a]
    have ub : rc_u (rc_u (rc_u v (191 + 4 * (1 - f)) 2) (193 + 4 * (1 - f)) (-v 141)) 168 z (191 + 4 * (1 - f)) = 2 := by rw [rc_u_n _ _ (by omega), rc_u_n _ _ (by omega), rc_u_s]
    have ub3 : rc_u (rc_u (rc_u v (191 + 4 * (1 - f)) 2) (193 + 4 * (1 - f)) (-v 141)) 168 z (193 + 4 * (1 - f)) = -v 141 := by rw [rc_u_n _ _ (by omega), rc_u_s]
    have u168 : rc_u (rc_u (rc_u v (191 + 4 * (1 - f)) 2) (193 + 4 * (1 - f)) (-v 141)) 168 z 168 = z := rc_u_s _ _ _
    generalize rc_u (rc_u (rc_u v (191 + 4 * (1 - f)) 2) (193 + 4 * (1 - f)) (-v 141)) 168 z = u at *
    have Jo : ∀ a : Nat, a ≠ r + 35 → a ≠ r + 35 + 4 + (1 - f).toNat → J a = I a := fun a a1 a2 => by rw [e, qs_n _ _ _ a1, qs_n _ _ _ a2, qs_n _ _ _ a2]
    have Js : ∀ j : Int, j ≠ 4 → J (r + 35) j = I (r + 35) j := fun j hj => by rw [e, qs_s, rc_u_n _ _ hj, qs_n _ _ _ (by omega), qs_n _ _ _ (by omega)]
    refine H J (eA_gen (p := 1 - f) (by omega) s q174.2 E Jo (fun j _ hj => uo j (by omega) (by omega) (by omega)) (fun j _ hj => uo j (by omega) (by omega) (by omega)) (fun j _ hj => uo j (by omega) (by omega) (by omega)) (fun q => by rw [uo 162 (by omega) (by omega) (by omega), uo 163 (by omega) (by omega) (by omega), uo 165 (by omega) (by omega) (by omega)] at q; exact q) ?_ ?_) (fun a ha => Jo a (by omega) (by omega)) (fun a a0 a1 => Jo a (by omega) (by omega))
    · unfold eC
      rw [Js 0 (by omega), Js 1 (by omega), Js 2 (by omega), Js 3 (by omega), Js 5 (by omega), Js 7 (by omega), Js 8 (by omega), Js 9 (by omega), u168, uo 162 (by omega) (by omega) (by omega), uo 163 (by omega) (by omega) (by omega), uo 164 (by omega) (by omega) (by omega), uo 165 (by omega) (by omega) (by omega), uo 166 (by omega) (by omega) (by omega), uo 167 (by omega) (by omega) (by omega), uo 169 (by omega) (by omega) (by omega), uo 170 (by omega) (by omega) (by omega), uo 171 (by omega) (by omega) (by omega)]
      exact ⟨c0, c1, c2, c3, by rw [e, qs_s, rc_u_s], c5, c7, c8, c9⟩
    · have J0 : J (r + 35 + 4 + (1 - f).toNat) 0 = 2 := by rw [e, qs_n _ _ _ (by omega), qs_s, rc_u_n _ _ (by omega), qs_s, rc_u_s]
      have J1 : J (r + 35 + 4 + (1 - f).toNat) 1 = I (r + 35 + 4 + (1 - f).toNat) 1 := by rw [e, qs_n _ _ _ (by omega), qs_s, rc_u_n _ _ (by omega), qs_s, rc_u_n _ _ (by omega)]
      have J2 : J (r + 35 + 4 + (1 - f).toNat) 2 = -v 141 := by rw [e, qs_n _ _ _ (by omega), qs_s, rc_u_s]
      unfold eP
      rw [J0, J1, J2, ub, ub3, uo (192 + 4 * (1 - f)) (by omega) (by omega) (by omega)]
      exact ⟨rfl, fun _ => Pb.2.1 (Or.inl (by omega)), fun _ => rfl⟩
  -- the back projector is started
  have go : ∀ r7 : Int, rc_R r7 → (¬ r7 < 0 → v (191 + 4 * (1 - f)) = 1 → v 171 = 1 ∨ (v (191 + 4 * f) = 3 ∧ v 171 = 0 ∧ tLen v f - v 142 ≤ v (193 + 4 * f))) → (r7 < 0 → ¬ (v 171 = 1 ∨ (v (191 + 4 * f) = 3 ∧ v 171 = 0 ∧ tLen v f - v 142 ≤ v (193 + 4 * f)))) → (¬ r7 < 0 → (r7 ≤ 0 ↔ ¬ (v 171 = 1 ∨ tLen v f - v 142 < v (193 + 4 * f)))) → v (191 + 4 * (1 - f)) = 1 →
      (rc_R r7 ∧ ((r7 < 0 → post I) ∧ (¬ r7 < 0 → wX6_settingNumbered G (r + 1) 0 I (fun r11 I10 => wX2_start G (r + 35 + 4 + (1 - f).toNat) (-r11) I10 (fun I12 => rc_R r7 ∧ ((r7 ≤ 0 → post I12) ∧ (¬ r7 ≤ 0 → ∀ I15, I15 = rc_s I12 (r + 35) 4 ((I12 (r + 35) 4) + 1) → post I15))))))) := by
    intro r7 h7 g1 g2 g3 hb1
    refine ⟨h7, fun c => stay (fun q => g2 c q.2), fun c => ?_⟩
    refine x_setting R (by omega) ?_
    rw [show (141 : Int) + 0 = 141 by omega]
    intro I1 x1 I2 x2
    subst x1
    subst x2
    have l4 : rc_s (rc_s I (r + 35 + 4 + (1 - f).toNat) 0 2) (r + 35 + 4 + (1 - f).toNat) 2 (-v 141) (r + 35) 4 = v 168 := by rw [qs_n _ _ _ (by omega), qs_n _ _ _ (by omega)]; exact c4
    refine ⟨h7, fun d => ?_, fun d I15 e15 => ?_⟩
    · refine fin _ (v 168) (qs_i _ _ _ l4).symm ⟨hb1, g1 c hb1⟩ ?_
      rw [if_neg ((g3 c).mp d)]; omega
    · rw [l4] at e15
      refine fin _ (v 168 + 1) e15 ⟨hb1, g1 c hb1⟩ ?_
      have : v 171 = 1 ∨ tLen v f - v 142 < v (193 + 4 * f) := by
        by_cases y : v 171 = 1 ∨ tLen v f - v 142 < v (193 + 4 * f)
        · exact y
        · exact absurd ((g3 c).mpr y) d
      rw [if_pos this]
  unfold wX5_startBack
  refine x_back k5 q165 e7 ⟨_, rfl, k2_of k5 (by omega), ?_⟩
  rw [Pb.1]
  refine ⟨by unfold rc_R; omega, fun hb1 => ?_, fun c => stay (fun q => c q.1)⟩
  unfold wX5_framesBehindMark
  rw [c9]
  refine ⟨by unfold rc_R; omega, fun z => ?_, fun z => ?_⟩
  · refine x_front k5 q165 e7 ⟨_, rfl, k2_of k5 q165, ?_⟩
    rw [Pf.1]
    refine ⟨by unfold rc_R; omega, fun d => ?_, fun d => ?_⟩
    · refine x_front k5 q165 e7 ⟨_, rfl, k2_of k5 q165, ?_⟩
      refine x_setting R (by omega) ?_
      rw [show (141 : Int) + 1 = 142 by omega, hl d, Pf.2.2 (by omega)]
      have w3 := (kP f q165).2.2.1 d
      obtain ⟨_, _, _, bL⟩ := wS_R s ((kP f q165).1 (Or.inr e165.symm))
      have wl := bL.1
      have el : tLen v f = v (1 + 14 * tR v f) := rfl
      rw [← el] at wl
      exact go _ (by unfold rc_R; omega) (fun c _ => Or.inr ⟨d, z, by omega⟩) (fun c q => by omega) (fun c => by omega) hb1
    · exact go _ (by unfold rc_R; omega) (fun c => absurd c (by omega)) (fun c q => by omega) (fun c => absurd c (by omega)) hb1
  · exact go _ (by unfold rc_R; omega) (fun c _ => Or.inl (by omega)) (fun c => absurd c (by omega)) (fun c => by omega) hb1
