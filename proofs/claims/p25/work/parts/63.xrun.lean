/-! ===== pure part: a tick of the program, the operator's tasks counted, a reel's end ===== -/
theorem x_hasTask {G : rc_G} {o : Nat} {I : rc_M} {u : rv} {t : Int} {post : Int → rc_M → Prop} (O : eO I o u) (h2 : 0 ≤ u 172 → 1 ≤ u 173 ∧ u 173 ≤ 4000) (h4 : 0 ≤ u 174 ∧ u 174 ≤ 8) (ht : rc_R t)
    (h : post (if (t = 0 ∧ 0 ≤ u 172) ∨ (0 < t ∧ t ≤ u 174) then 1 else 0) I) : wX0_hasTask G o t I post := by
  obtain ⟨o0, o1, _, _⟩ := O
  unfold wX0_hasTask
  rw [o0, o1]
  refine ⟨ht, fun n => ⟨ht, fun c => ?_, fun c => ⟨ht, by unfold rc_R; omega, fun c2 => ?_, fun c2 => ⟨ht, fun c3 => absurd c3 (by omega), fun _ => ?_⟩⟩⟩, fun n => ?_⟩
  · rw [if_neg (by omega)] at h; exact h
  · rw [if_neg (by omega)] at h; exact h
  · rw [if_pos (by omega)] at h; exact h
  · by_cases c : 0 ≤ u 172
    · rw [if_pos c]
      rw [if_pos (Or.inl ⟨n, c⟩)] at h
      have := h2 c
      exact ⟨by unfold rc_R; omega, fun q => absurd q (by omega), fun _ => h⟩
    · rw [if_neg c]
      rw [if_neg (by omega)] at h
      exact ⟨rc_R0, fun _ => h, fun q => absurd q (by omega)⟩
theorem x_kindOf {G : rc_G} {o : Nat} {I : rc_M} {u : rv} {t : Int} {post : Int → rc_M → Prop} (O : eO I o u) (h2 : 0 ≤ u 172 → 1 ≤ u 173 ∧ u 173 ≤ 4000) (h4 : 0 ≤ u 174 ∧ u 174 ≤ 8) (ht : rc_R t)
    (ha : t = 0 → 0 ≤ u 172 → post (u 172 % 3) I) (hb : 0 < t → t ≤ u 174 → post (u (174 + t) % 3) I) (hc : ¬ ((t = 0 ∧ 0 ≤ u 172) ∨ (0 < t ∧ t ≤ u 174)) → post (-100005) I) : wX0_kindOf G o t I post := by
  unfold wX0_kindOf
  refine x_hasTask O h2 h4 ht ?_
  obtain ⟨o0, o1, o2, o3⟩ := O
  by_cases c : (t = 0 ∧ 0 ≤ u 172) ∨ (0 < t ∧ t ≤ u 174)
  · rw [if_pos c]
    refine ⟨by unfold rc_R; omega, fun _ => ⟨ht, fun n => ⟨by omega, ?_⟩, fun n => ?_⟩, fun q => absurd q (by omega)⟩
    · have a := o3 (t - 1) (by omega) (by omega)
      rw [a.1, show (175 : Int) + (t - 1) = 174 + t by omega]; exact hb (by omega) (by omega)
    · have z : 0 ≤ u 172 := by omega
      rw [(o2 z).1]; exact ha n z
  · rw [if_neg c]
    exact ⟨rc_R0, fun q => absurd rfl q, fun _ => hc c⟩
theorem x_projOf {G : rc_G} {o : Nat} {I : rc_M} {u : rv} {t : Int} {post : Int → rc_M → Prop} (O : eO I o u) (h2 : 0 ≤ u 172 → 1 ≤ u 173 ∧ u 173 ≤ 4000) (h4 : 0 ≤ u 174 ∧ u 174 ≤ 8) (ht : rc_R t)
    (ha : t = 0 → 0 ≤ u 172 → post (u 172 / 3) I) (hb : 0 < t → t ≤ u 174 → post (u (174 + t) / 3) I) (hc : ¬ ((t = 0 ∧ 0 ≤ u 172) ∨ (0 < t ∧ t ≤ u 174)) → post (-100005) I) : wX0_projectorOf G o t I post := by
  unfold wX0_projectorOf
  refine x_hasTask O h2 h4 ht ?_
  obtain ⟨o0, o1, o2, o3⟩ := O
  by_cases c : (t = 0 ∧ 0 ≤ u 172) ∨ (0 < t ∧ t ≤ u 174)
  · rw [if_pos c]
    refine ⟨by unfold rc_R; omega, fun _ => ⟨ht, fun n => ⟨by omega, ?_⟩, fun n => ?_⟩, fun q => absurd q (by omega)⟩
    · have a := o3 (t - 1) (by omega) (by omega)
      rw [a.2, show (175 : Int) + (t - 1) = 174 + t by omega]; exact hb (by omega) (by omega)
    · have z : 0 ≤ u 172 := by omega
      rw [(o2 z).2]; exact ha n z
  · rw [if_neg c]
    exact ⟨rc_R0, fun q => absurd rfl q, fun _ => hc c⟩
theorem x_threads {G : rc_G} {o : Nat} {I : rc_M} {u : rv} {post : Int → rc_M → Prop} (O : eO I o u) (h2 : 0 ≤ u 172 → 1 ≤ u 173 ∧ u 173 ≤ 4000) (h4 : 0 ≤ u 174 ∧ u 174 ≤ 8) (h : post (tThr u) I) : wX0_threadTasks G o I post := by
  have L : ∀ (d : Nat) (x b a : Int), 1 ≤ x → 9 - x = d → a = b + tCnt u (min (x - 1) (u 174)).toNat → post (b + tCnt u (u 174).toNat) I → ∃ n, rX0_threadTasks_4 G post o n a x I := by
    intro d
    induction d with
    | zero =>
      intro x b a x1 hd ha hp
      refine ⟨1, ?_⟩
      show wX0_threadTasks_4 G post o _ a x I
      unfold wX0_threadTasks_4
      rw [show min (x - 1) (u 174) = u 174 by omega] at ha
      rw [ha]
      exact ⟨by unfold rc_R; omega, fun _ => hp, fun q => absurd q (by omega)⟩
    | succ d ih =>
      intro x b a x1 hd ha hp
      by_cases c : x ≤ u 174
      · have et : (min (x + 1 - 1) (u 174)).toNat = (min (x - 1) (u 174)).toNat + 1 := by omega
        have en : (175 : Int) + (((min (x - 1) (u 174)).toNat : Nat) : Int) = 174 + x := by omega
        have ec : tCnt u (min (x + 1 - 1) (u 174)).toNat = tCnt u (min (x - 1) (u 174)).toNat + (if u (174 + x) % 3 = 1 then 1 else 0) := by rw [et, tCnt, en]
        obtain ⟨n, hn⟩ := ih (x + 1) b (a + (if u (174 + x) % 3 = 1 then 1 else 0)) (by omega) (by omega) (by rw [ec, ha]; omega) hp
        refine ⟨n + 1, ?_⟩
        show wX0_threadTasks_4 G post o (rX0_threadTasks_4 G post o n) a x I
        unfold wX0_threadTasks_4
        refine ⟨by unfold rc_R; omega, fun q => absurd q (by omega), fun _ => x_kindOf O h2 h4 (by unfold rc_R; omega) (fun q => by omega) (fun _ _ => ⟨by unfold rc_R; omega, fun q => ?_, fun q => ?_⟩) (fun q => absurd (Or.inr ⟨by omega, c⟩) q)⟩
        · unfold wX0_threadTasks_22
          rw [if_neg q, Int.add_zero] at hn; exact hn
        · unfold wX0_threadTasks_22
          rw [if_pos q] at hn; exact hn
      · obtain ⟨n, hn⟩ := ih (x + 1) b a (by omega) (by omega) (by rw [ha, show min (x + 1 - 1) (u 174) = min (x - 1) (u 174) by omega]) hp
        refine ⟨n + 1, ?_⟩
        show wX0_threadTasks_4 G post o (rX0_threadTasks_4 G post o n) a x I
        unfold wX0_threadTasks_4 wX0_threadTasks_22
        exact ⟨by unfold rc_R; omega, fun q => absurd q (by omega), fun _ => x_kindOf O h2 h4 (by unfold rc_R; omega) (fun q => by omega) (fun _ q => absurd q c) (fun _ => ⟨by unfold rc_R; omega, fun _ => hn, fun q => absurd q (by omega)⟩)⟩
  unfold tThr at h
  have m0 : tCnt u (min ((1 : Int) - 1) (u 174)).toNat = 0 := by rw [show min ((1 : Int) - 1) (u 174) = 0 by omega]; rfl
  unfold wX0_threadTasks
  by_cases c : 0 ≤ u 172 ∧ u 172 % 3 = 1
  · rw [if_pos c] at h
    obtain ⟨n, hn⟩ := L 8 1 1 1 (by omega) (by omega) (by rw [m0]; omega) h
    refine ⟨n + 1, ?_⟩
    show wX0_threadTasks_4 G post o (rX0_threadTasks_4 G post o n) 0 0 I
    unfold wX0_threadTasks_4 wX0_threadTasks_22
    exact ⟨rc_R0, fun q => absurd q (by omega), fun _ => x_kindOf O h2 h4 rc_R0 (fun _ _ => ⟨by unfold rc_R; omega, fun q => absurd c.2 q, fun _ => hn⟩) (fun q => absurd q (by omega)) (fun q => absurd (Or.inl ⟨rfl, c.1⟩) q)⟩
  · rw [if_neg c] at h
    obtain ⟨n, hn⟩ := L 8 1 0 0 (by omega) (by omega) (by rw [m0]; omega) h
    refine ⟨n + 1, ?_⟩
    show wX0_threadTasks_4 G post o (rX0_threadTasks_4 G post o n) 0 0 I
    unfold wX0_threadTasks_4 wX0_threadTasks_22
    exact ⟨rc_R0, fun q => absurd q (by omega), fun _ => x_kindOf O h2 h4 rc_R0 (fun _ y => ⟨by unfold rc_R; omega, fun _ => hn, fun q => absurd ⟨y, q⟩ c⟩) (fun q => absurd q (by omega)) (fun _ => ⟨by unfold rc_R; omega, fun _ => hn, fun q => absurd q (by omega)⟩)⟩
theorem x_addLast {G : rc_G} {r : Nat} {I : rc_M} {w : rv} {c kd pr : Int} {post : rc_M → Prop} (E : eA I r w) (s : wS w) (h4 : 0 ≤ w 174 ∧ w 174 < 8) (hk : kd = c % 3) (hp : pr = c / 3)
    (H : ∀ J : rc_M, eA J r (tAdd w c) → (∀ a : Nat, a < r + 36 ∨ r + 38 < a → J a = I a) → post J) : wX0_addLast G (r + 35 + 1) kd pr I post := by
  obtain ⟨R, C, O, P⟩ := E
  obtain ⟨o0, o1, o2, o3⟩ := O
  unfold wX0_addLast
  rw [o1]
  refine ⟨by unfold rc_R; omega, fun q => absurd q (by omega), fun _ => ⟨h4, fun I4 e4 => ?_⟩⟩
  have f1 : I4 (r + 35 + 1) 1 = w 174 := by rw [e4, qs_n _ _ _ (by omega)]; exact o1
  rw [f1]
  refine ⟨h4, fun I6 e6 I7 e7 => ?_⟩
  have a174 := tAdd_s w c
  have ao : ∀ j : Int, j ≠ 175 + w 174 → j ≠ 174 → tAdd w c j = w j := fun j a b => tAdd_n a b
  have an : tAdd w c (175 + w 174) = c := by unfold tAdd; rw [rc_u_n _ _ (by omega), rc_u_s]
  generalize tAdd w c = u at *
  have far : ∀ a : Nat, a < r + 36 ∨ r + 38 < a → I7 a = I a := fun a ha => by rw [e7, qs_n _ _ _ (by omega), e6, qs_n _ _ _ (by omega), e4, qs_n _ _ _ (by omega)]
  have g6 : I6 (r + 35 + 1) = I (r + 35 + 1) := by rw [e6, qs_n _ _ _ (by omega), e4, qs_n _ _ _ (by omega)]
  have go : ∀ j : Int, j ≠ 1 → I7 (r + 35 + 1) j = I (r + 35 + 1) j := fun j hj => by rw [e7, qs_s, rc_u_n _ _ hj, g6]
  have g1 : I7 (r + 35 + 1) 1 = w 174 + 1 := by rw [e7, qs_s, rc_u_s, g6, o1]
  have gk : ∀ j : Int, I7 (r + 35 + 1 + 1) j = if j = w 174 then kd else I (r + 35 + 1 + 1) j := fun j => by rw [e7, qs_n _ _ _ (by omega), e6, qs_n _ _ _ (by omega), e4, qs_s, rc_ue]
  have gp : ∀ j : Int, I7 (r + 35 + 1 + 2) j = if j = w 174 then pr else I (r + 35 + 1 + 2) j := fun j => by rw [e7, qs_n _ _ _ (by omega), e6, qs_s, rc_ue, e4, qs_n _ _ _ (by omega)]
  refine H I7 ⟨eR_c s (fun a a0 a1 => far a (by omega)) (fun j _ hj => ao j (by omega) (by omega)) R, ?_, ?_, fun p hp => ?_⟩ far
  · unfold eC
    rw [far (r + 35) (by omega), ao 162 (by omega) (by omega), ao 163 (by omega) (by omega), ao 164 (by omega) (by omega), ao 165 (by omega) (by omega), ao 166 (by omega) (by omega), ao 167 (by omega) (by omega), ao 168 (by omega) (by omega), ao 169 (by omega) (by omega), ao 170 (by omega) (by omega), ao 171 (by omega) (by omega)]; exact C
  · unfold eO
    rw [go 0 (by omega), go 2 (by omega), go 3 (by omega), g1, a174, ao 172 (by omega) (by omega), ao 173 (by omega) (by omega)]
    refine ⟨o0, rfl, o2, fun n n0 n1 => ?_⟩
    rw [gk, gp]
    rcases Int.lt_or_eq_of_le (show n ≤ w 174 by omega) with y | y
    · rw [if_neg (by omega), if_neg (by omega), ao _ (by omega) (by omega)]; exact o3 n n0 y
    · rw [if_pos y, if_pos y, y, an]; exact ⟨hk, hp⟩
  · exact eP_c (far _ (by omega)) (ao _ (by omega) (by omega)) (ao _ (by omega) (by omega)) (ao _ (by omega) (by omega)) (fun q => by rw [ao 162 (by omega) (by omega), ao 163 (by omega) (by omega), ao 165 (by omega) (by omega)] at q; exact q) (P p hp)
theorem x_order {G : rc_G} {r : Nat} {I : rc_M} {w : rv} {f : Int} {post : rc_M → Prop} (E : eA I r w) (s : wS w) (h2 : 0 ≤ w 172 → 1 ≤ w 173 ∧ w 173 ≤ 4000) (h4 : 0 ≤ w 174 ∧ w 174 ≤ 6) (h7 : 1 ≤ w 170 ∧ w 170 ≤ w 149) (hf : f = 0 ∨ f = 1) (e165 : w 165 = f)
    (H : ∀ J : rc_M, eA J r (tOrd w f) → (∀ a : Nat, a < r + 36 ∨ r + 38 < a → J a = I a) → post J) : wX5_orderNextReel G (r + 35) (r + 1) I post := by
  have s1 := s.2.1
  have c7 : I (r + 35) 7 = f := by rw [E.2.1.2.2.2.2.2.2.1]; exact e165
  unfold wX5_orderNextReel
  rw [c7]
  refine x_addLast (c := 3 * f) E s (by omega) (by omega) (by omega) (fun J EJ FJ => ?_)
  have a174 := tAdd_s w (3 * f)
  have ao : ∀ j : Int, j ≠ 175 + w 174 → j ≠ 174 → tAdd w (3 * f) j = w j := fun j a b => tAdd_n a b
  unfold tOrd at H
  have su : wS (tAdd w (3 * f)) := wS_lo (fun j _ hj => ao j (by omega) (by omega)) s
  have t := tThr_le (tAdd w (3 * f)) (by omega)
  refine x_threads EJ.2.2.1 (by rw [ao 172 (by omega) (by omega), ao 173 (by omega) (by omega)]; exact h2) (by omega) ?_
  have j1 : J (r + 1) 1 = w 149 := by rw [EJ.1.2.1, ao 149 (by omega) (by omega)]
  have j8 : J (r + 35) 8 = w 170 := by rw [EJ.2.1.2.2.2.2.2.2.2.1, ao 170 (by omega) (by omega)]
  have j7 : J (r + 35) 7 = f := by rw [FJ _ (by omega)]; exact c7
  rw [j1, j8]
  refine ⟨by unfold rc_R; omega, by unfold rc_R; omega, fun c => ?_, fun c => ?_⟩
  · rw [if_pos c] at H; exact H J EJ FJ
  · rw [if_neg c] at H
    rw [j7]
    exact x_addLast (c := 3 * f + 1) EJ su (by omega) (by omega) (by omega) (fun K EK FK => H K EK (fun a ha => by rw [FK a ha, FJ a ha]))
