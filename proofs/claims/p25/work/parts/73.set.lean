/-! ===== pure part: settings, what is dark with another ===== -/
theorem lohi {n : Int} (h : 0 ≤ n ∧ n < 8) : (0 ≤ rc_lo n ∧ rc_lo n ≤ 1) ∧ (20 ≤ rc_hi n ∧ rc_hi n ≤ 500) := by
  rcases (show n = 0 ∨ n = 1 ∨ n = 2 ∨ n = 3 ∨ n = 4 ∨ n = 5 ∨ n = 6 ∨ n = 7 by omega) with rfl | rfl | rfl | rfl | rfl | rfl | rfl | rfl <;> decide
def okS (n z : Int) : Prop := (0 ≤ n ∧ n < 8) ∧ rc_lo n ≤ z ∧ z ≤ rc_hi n
theorem x_isSetting {G : rc_G} {I : rc_M} {n z : Int} {post : Int → rc_M → Prop} (hn : rc_R n) (hz : rc_R z) (h1 : okS n z → post 1 I) (h0 : ¬ okS n z → post 0 I) : wX6_isSettingValue G n z I post := by
  unfold wX6_isSettingValue
  refine ⟨hn, fun a => h0 (fun q => by have := q.1; omega), fun a => ⟨hn, fun b => h0 (fun q => by have := q.1; omega), fun b => ?_⟩⟩
  have l := lohi (n := n) (by omega)
  exact ⟨by omega, hz, by unfold rc_R; omega, fun c => h0 (fun q => by have := q.2; omega), fun c => ⟨by omega, hz, by unfold rc_R; omega, fun d => h0 (fun q => by have := q.2; omega), fun d => h1 ⟨by omega, by omega, by omega⟩⟩⟩
theorem wS_set {v : rv} {n z : Int} (s : wS v) (h : okS n z) : wS (rc_u v (141 + n) z) := by
  obtain ⟨⟨n0, n8⟩, l, g⟩ := h
  have uo : ∀ j : Int, j ≠ 141 + n → rc_u v (141 + n) z j = v j := fun j hj => rc_u_n _ _ hj
  have us : rc_u v (141 + n) z (141 + n) = z := rc_u_s _ _ _
  generalize rc_u v (141 + n) z = u at *
  obtain ⟨a, b, c, d, f⟩ := s
  refine ⟨by rw [uo 0 (by omega)]; exact a, by rw [uo 149 (by omega)]; exact b, fun k k0 k1 => ?_, ?_, fun i i0 i1 => ?_⟩
  · rw [uo 149 (by omega)] at k1; rw [uo _ (by omega), uo 0 (by omega)]; exact c k k0 k1
  · obtain ⟨d0, d1, d2, d3, d4, d5, d6, d7⟩ := d
    rcases (show n = 0 ∨ n = 1 ∨ n = 2 ∨ n = 3 ∨ n = 4 ∨ n = 5 ∨ n = 6 ∨ n = 7 by omega) with rfl | rfl | rfl | rfl | rfl | rfl | rfl | rfl
    · have e1 : rc_lo 0 = 1 := rfl
      have e2 : rc_hi 0 = 90 := rfl
      rw [uo 142 (by decide), uo 143 (by decide), uo 144 (by decide), uo 145 (by decide), uo 146 (by decide), uo 147 (by decide), uo 148 (by decide)]
      exact ⟨by have : u 141 = z := us
                omega, d1, d2, d3, d4, d5, d6, d7⟩
    · have e1 : rc_lo 1 = 1 := rfl
      have e2 : rc_hi 1 = 99 := rfl
      rw [uo 141 (by decide), uo 143 (by decide), uo 144 (by decide), uo 145 (by decide), uo 146 (by decide), uo 147 (by decide), uo 148 (by decide)]
      exact ⟨d0, by have : u 142 = z := us
                    omega, d2, d3, d4, d5, d6, d7⟩
    · have e1 : rc_lo 2 = 0 := rfl
      have e2 : rc_hi 2 = 50 := rfl
      rw [uo 141 (by decide), uo 142 (by decide), uo 144 (by decide), uo 145 (by decide), uo 146 (by decide), uo 147 (by decide), uo 148 (by decide)]
      exact ⟨d0, d1, by have : u 143 = z := us
                        omega, d3, d4, d5, d6, d7⟩
    · have e1 : rc_lo 3 = 1 := rfl
      have e2 : rc_hi 3 = 200 := rfl
      rw [uo 141 (by decide), uo 142 (by decide), uo 143 (by decide), uo 145 (by decide), uo 146 (by decide), uo 147 (by decide), uo 148 (by decide)]
      exact ⟨d0, d1, d2, by have : u 144 = z := us
                            omega, d4, d5, d6, d7⟩
    · have e1 : rc_lo 4 = 1 := rfl
      have e2 : rc_hi 4 = 50 := rfl
      rw [uo 141 (by decide), uo 142 (by decide), uo 143 (by decide), uo 144 (by decide), uo 146 (by decide), uo 147 (by decide), uo 148 (by decide)]
      exact ⟨d0, d1, d2, d3, by have : u 145 = z := us
                                omega, d5, d6, d7⟩
    · have e1 : rc_lo 5 = 1 := rfl
      have e2 : rc_hi 5 = 200 := rfl
      rw [uo 141 (by decide), uo 142 (by decide), uo 143 (by decide), uo 144 (by decide), uo 145 (by decide), uo 147 (by decide), uo 148 (by decide)]
      exact ⟨d0, d1, d2, d3, d4, by have : u 146 = z := us
                                    omega, d6, d7⟩
    · have e1 : rc_lo 6 = 1 := rfl
      have e2 : rc_hi 6 = 500 := rfl
      rw [uo 141 (by decide), uo 142 (by decide), uo 143 (by decide), uo 144 (by decide), uo 145 (by decide), uo 146 (by decide), uo 148 (by decide)]
      exact ⟨d0, d1, d2, d3, d4, d5, by have : u 147 = z := us
                                        omega, d7⟩
    · have e1 : rc_lo 7 = 0 := rfl
      have e2 : rc_hi 7 = 20 := rfl
      rw [uo 141 (by decide), uo 142 (by decide), uo 143 (by decide), uo 144 (by decide), uo 145 (by decide), uo 146 (by decide), uo 147 (by decide)]
      exact ⟨d0, d1, d2, d3, d4, d5, d6, by have : u 148 = z := us
                                            omega⟩
  · rw [uo 0 (by omega)] at i1
    exact wL_lo (by omega) (fun j j0 j1 => uo j (by omega)) (f i i0 i1)
theorem tV_set {v : rv} {n z : Int} (V : tV v) (h : okS n z) : tV (rc_u v (141 + n) z) := by
  have n8 := h.1
  exact ⟨wS_set V.1 h, wH_c2 (fun j j0 _ => rc_u_n _ _ (by omega)) V.2.1, fun a b => wK_c V.2.1.2.2.2.2.2.2.1 (fun j j0 _ => rc_u_n _ _ (by omega)) (V.2.2 (by rw [← a]; exact (rc_u_n _ _ (by omega)).symm) (by rw [← b]; exact (rc_u_n _ _ (by omega)).symm))⟩
theorem eA_set {I : rc_M} {r : Nat} {v : rv} {n z : Int} (s : wS v) (n6 : v 174 ≤ 6) (h : 0 ≤ n ∧ n < 8) (E : eA I r v) : eA (rc_s I (r + 3) n z) r (rc_u v (141 + n) z) := by
  have s0 := s.1
  have s1 := s.2.1
  have uo : ∀ j : Int, j ≠ 141 + n → rc_u v (141 + n) z j = v j := fun j hj => rc_u_n _ _ hj
  have us : rc_u v (141 + n) z (141 + n) = z := rc_u_s _ _ _
  generalize rc_u v (141 + n) z = u at *
  have Jo : ∀ a : Nat, a ≠ r + 3 → rc_s I (r + 3) n z a = I a := fun a ha => qs_n _ _ _ ha
  have Js : ∀ j : Int, rc_s I (r + 3) n z (r + 3) j = if j = n then z else I (r + 3) j := fun j => by rw [qs_s, rc_ue]
  generalize rc_s I (r + 3) n z = J at *
  obtain ⟨⟨R0, R1, R2, R3, R4⟩, C, O, P⟩ := E
  refine ⟨⟨by rw [Jo _ (by omega), uo 0 (by omega)]; exact R0, by rw [Jo _ (by omega), uo 149 (by omega)]; exact R1, fun k k0 k1 => ?_, fun k k0 k1 => ?_, fun i i0 i1 => ?_⟩, eC_c (Jo _ (by omega)) (fun j j0 j1 => uo j (by omega)) C, eO_c ⟨Jo _ (by omega), Jo _ (by omega), Jo _ (by omega)⟩ (uo _ (by omega)) (uo _ (by omega)) (uo _ (by omega)) (fun k k0 k1 => uo _ (by omega)) O, fun p hp => eP_c (Jo _ (by omega)) (uo _ (by omega)) (uo _ (by omega)) (uo _ (by omega)) (fun q => by rw [uo 162 (by omega), uo 163 (by omega), uo 165 (by omega)] at q; exact q) (P p hp)⟩
  · rw [Js]
    by_cases c : k = n
    · rw [if_pos c, c, us]
    · rw [if_neg c, uo _ (by omega)]; exact R2 k k0 k1
  · rw [uo 149 (by omega)] at k1
    rw [Jo _ (by omega), uo _ (by omega)]; exact R3 k k0 k1
  · rw [uo 0 (by omega)] at i1
    exact eL_c (by omega) (s.2.2.2.2 i i0 i1) ⟨Jo _ (by omega), Jo _ (by omega), Jo _ (by omega)⟩ (fun j j0 j1 => uo j (by omega)) (R4 i i0 i1)
theorem x_changeSet {G : rc_G} {r : Nat} {I : rc_M} {v : rv} {n z : Int} {post : Int → rc_M → Prop} (s : wS v) (n6 : v 174 ≤ 6) (h : okS n z) (hz : rc_R z) (E : eA I r v) (H : ∀ J : rc_M, eA J r (rc_u v (141 + n) z) → eF r I J → post (v (141 + n)) J) : wX6_changeSetting G (r + 1) n z I post := by
  have n8 := h.1
  unfold wX6_changeSetting
  refine x_setting E.1 n8 (x_isSetting (by unfold rc_R; omega) hz (fun _ => ⟨by unfold rc_R; omega, fun q => absurd q (by decide), fun _ => ⟨n8, fun I8 e8 => ?_⟩⟩) (fun q => absurd h q))
  have e8' : I8 = rc_s I (r + 3) n z := e8
  rw [e8']
  exact H _ (eA_set s n6 n8 E) (eF_s (eF_r r I) (by omega))
theorem x_setErr {G : rc_G} {I : rc_M} {n z : Int} {post : Int → rc_M → Prop} (hn : rc_R n) (hz : rc_R z) (h1 : okS n z → post 0 I) (h2 : (0 ≤ n ∧ n < 8) → ¬ okS n z → post (-100002) I) (h3 : ¬ (0 ≤ n ∧ n < 8) → post (-100001) I) : wX7_settingError G n z I post := by
  unfold wX7_settingError
  refine x_within hn (by unfold rc_R; omega) (by unfold rc_R; omega) ?_
  by_cases c : 0 ≤ n ∧ n ≤ 7
  · rw [if_pos c]
    refine ⟨by unfold rc_R; omega, fun _ => x_isSetting hn hz (fun q => ⟨by unfold rc_R; omega, fun y => absurd y (by decide), fun _ => h1 q⟩) (fun q => ⟨rc_R0, fun _ => h2 (by omega) q, fun y => absurd rfl y⟩), fun q => absurd q (by decide)⟩
  · rw [if_neg c]
    exact ⟨rc_R0, fun q => absurd rfl q, fun _ => h3 (by omega)⟩
