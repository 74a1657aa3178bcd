/-! ===== pure part: a tick of the program, the whole of it ===== -/
theorem tFin_o {w : rv} {c j : Int} (s : wS w) (hc : 0 ≤ c ∧ c ≤ 5) (h2 : c % 3 = 2 → 0 ≤ w (192 + 4 * (c / 3)) ∧ w (192 + 4 * (c / 3)) < w 149) (hj : 171 ≤ j ∧ j < 191) : tFin w c j = w j := by
  have hp : c / 3 = 0 ∨ c / 3 = 1 := by omega
  unfold tFin
  by_cases r0 : c % 3 = 0
  · rw [if_pos r0, rc_u_n _ _ (by omega)]
  · rw [if_neg r0]
    by_cases r1 : c % 3 = 1
    · rw [if_pos r1]; unfold tComes; rw [rc_u_n _ _ (by omega), rc_u_n _ _ (by omega), rc_u_n _ _ (by omega)]
    · rw [if_neg r1]
      obtain ⟨b1, b2, b3, bL⟩ := wS_R s (h2 (by omega))
      have bL2 : wL (tRep w (c / 3)) (tR w (c / 3)) := wL_lo b2 (fun j _ hj => tRep_lo hp j (by omega)) bL
      rw [tMark_o b2 bL2.2.1.2 j (by omega), tRep_lo hp j (by omega)]
theorem x_clearing {G : rc_G} {r : Nat} {I : rc_M} {v : rv} {n : Int} {post : Int → rc_M → Prop} (k6 : kX6 G (r + 1)) (R : eR I r v) (s : wS v) (hn : 0 ≤ n ∧ n < v 149) (h : post (v 144 + (v (1 + 14 * v (150 + n)) + v 145 - 1) / v 145) I) : wX6_clearingTime G (r + 1) n I post := by
  have s1 := s.2.1
  have s0 := s.1
  have a := s.2.2.1 n hn.1 hn.2
  have wl := (s.2.2.2.2 _ a.1 a.2).1
  have s5 := s.2.2.2.1.2.2.2.2.1
  have i3 : I (r + 1 + 2) 3 = v 144 := R.2.2.1 3 (by omega) (by omega)
  have i4 : I (r + 1 + 2) 4 = v 145 := R.2.2.1 4 (by omega) (by omega)
  unfold wX6_clearingTime
  refine x_reelAt R s hn ⟨fun y => (by cases y), fun q3 y => ?_⟩
  have e3 : q3 = r + 5 + 3 * (v (150 + n)).toNat := by injection y with y; exact y.symm
  have el := (R.2.2.2.2 _ a.1 a.2).1
  rw [i3, i4, e3, el]
  exact ⟨k3_of k6 (by omega), by unfold rc_R; omega, fun _ => ⟨by omega, by omega, h⟩, fun y => absurd y (by omega)⟩
theorem x_takeUp {G : rc_G} {r : Nat} {I : rc_M} {v : rv} {T : Int} {post : rc_M → Prop} (E : eA I r v) (s : wS v) (n6 : 0 < v 174 ∧ v 174 ≤ 6) (r175 : 0 ≤ v 175)
    (H : ∀ J : rc_M, eA J r (rc_u (tUp v) 173 T) → eF r I J → post J) : wX0_takeUp G (r + 35 + 1) T I post := by
  obtain ⟨R, C, O, P⟩ := E
  obtain ⟨o0, o1, o2, o3⟩ := O
  have e174 : rc_u (rc_u v 172 (v 175)) 174 (v 174 - 1) 174 = v 174 - 1 := by rw [rc_u_s]
  have up := tUp_o (v := v) (by omega)
  have uo : ∀ j : Int, j < 172 ∨ 181 < j → rc_u (tUp v) 173 T j = v j := fun j hj => by rw [rc_u_n _ _ (by omega)]; exact up j hj
  have u173 : rc_u (tUp v) 173 T 173 = T := by rw [rc_u_s]
  have u172 : rc_u (tUp v) 173 T 172 = v 175 := by
    rw [rc_u_n _ _ (by omega)]; unfold tUp tShift; rw [if_neg (by omega), rc_u_n _ _ (by omega), rc_u_s]
  have u174 : rc_u (tUp v) 173 T 174 = v 174 - 1 := by
    rw [rc_u_n _ _ (by omega)]; unfold tUp tShift; rw [if_neg (by omega), rc_u_s]
  have ur : ∀ k : Int, 0 ≤ k → k < v 174 - 1 → rc_u (tUp v) 173 T (175 + k) = v (176 + k) := fun k k0 k1 => by
    rw [rc_u_n _ _ (by omega)]; unfold tUp tShift; rw [e174, if_pos (by omega), rc_u_n _ _ (by omega), rc_u_n _ _ (by omega), show (175 : Int) + k + 1 = 176 + k by omega]
  generalize rc_u (tUp v) 173 T = u at *
  have z0 := o3 0 (by omega) (by omega)
  rw [show (175 : Int) + 0 = 175 by decide] at z0
  generalize ho : r + 35 + 1 = o at *
  have no : o ≠ r + 35 := by omega
  unfold wX0_takeUp
  rw [o1]
  refine ⟨by unfold rc_R; omega, fun y => absurd y (by omega), fun _ I3 e3 I4 e4 I5 e5 I6 e6 => ?_⟩
  rw [z0.1] at e3
  have i4 : I3 (o + 2) 0 = v 175 / 3 := by rw [e3, qs_n _ _ _ (by omega)]; exact z0.2
  rw [i4] at e4
  have i5 : I5 o 1 = v 174 := by rw [e5, qs_s, rc_u_n _ _ (by decide), e4, qs_s, rc_u_n _ _ (by decide), e3, qs_s, rc_u_n _ _ (by decide)]; exact o1
  rw [i5] at e6
  have i6 : I6 o 1 = v 174 - 1 := by rw [e6, qs_s, rc_u_s]
  have i6o : ∀ a : Nat, a ≠ o → I6 a = I a := fun a ha => by rw [e6, qs_n _ _ _ ha, e5, qs_n _ _ _ ha, e4, qs_n _ _ _ ha, e3, qs_n _ _ _ ha]
  rw [i6]
  refine ⟨by omega, fun I8 e8 => ?_⟩
  have i8 : I8 o 1 = v 174 - 1 := by rw [e8, qc_n _ _ _ _ (by omega)]; exact i6
  rw [i8]
  refine ⟨by omega, fun I10 e10 => ?_⟩
  have Jo : ∀ a : Nat, a ≠ o → a ≠ o + 1 → a ≠ o + 2 → I10 a = I a := fun a a0 a1 a2 => by rw [e10, qc_n _ _ _ _ a2, e8, qc_n _ _ _ _ a1, i6o a a0]
  have Jr : I10 o = I6 o := by rw [e10, qc_n _ _ _ _ (by omega), e8, qc_n _ _ _ _ (by omega)]
  refine H I10 ⟨eR_c s (fun a a0 a1 => Jo a (by omega) (by omega) (by omega)) (fun j _ hj => uo j (by omega)) R, eC_c (Jo _ no.symm (by omega) (by omega)) (fun j j0 j1 => uo j (by omega)) C, ?_, fun p hp => ?_⟩ (fun a ha => Jo a (by omega) (by omega) (by omega))
  · unfold eO
    rw [ho, Jr, u172, u173, u174, if_pos r175]
    refine ⟨by rw [e6, qs_s, rc_u_n _ _ (by decide), e5, qs_s, rc_u_s], i6, fun _ => ⟨by rw [e6, qs_s, rc_u_n _ _ (by decide), e5, qs_s, rc_u_n _ _ (by decide), e4, qs_s, rc_u_n _ _ (by decide), e3, qs_s, rc_u_s], by rw [e6, qs_s, rc_u_n _ _ (by decide), e5, qs_s, rc_u_n _ _ (by decide), e4, qs_s, rc_u_s]⟩, fun k k0 k1 => ?_⟩
    have b := o3 (k + 1) (by omega) (by omega)
    rw [show (175 : Int) + (k + 1) = 176 + k by omega] at b
    rw [ur k k0 k1]
    refine ⟨?_, ?_⟩
    · rw [e10, qc_n _ _ _ _ (by omega), e8, qc_s, if_pos (by omega), i6o _ (by omega), show (1 : Int) + (k - 0) = k + 1 by omega]; exact b.1
    · rw [e10, qc_s, if_pos (by omega), e8, qc_n _ _ _ _ (by omega), i6o _ (by omega), show (1 : Int) + (k - 0) = k + 1 by omega]; exact b.2
  · exact eP_c (Jo _ (by omega) (by omega) (by omega)) (uo _ (by omega)) (uo _ (by omega)) (uo _ (by omega)) (fun y => by rw [uo 162 (by omega), uo 163 (by omega), uo 165 (by omega)] at y; exact y) (P p hp)
/-- a tick less, or a task laid down: only the operator's own cells -/
theorem eA_op {I J : rc_M} {r : Nat} {u v : rv} (s : wS v) (n6 : v 174 ≤ 6) (E : eA I r v) (hI : ∀ a : Nat, a ≠ r + 35 + 1 → J a = I a) (hj : ∀ j : Int, j ≠ 0 → J (r + 35 + 1) j = I (r + 35 + 1) j) (h0 : J (r + 35 + 1) 0 = (if 0 ≤ u 172 then u 173 else 0)) (h : ∀ j : Int, j ≠ 172 → j ≠ 173 → u j = v j) (h2 : 0 ≤ u 172 → u 172 = v 172) : eA J r u := by
  obtain ⟨R, C, O, P⟩ := E
  obtain ⟨o0, o1, o2, o3⟩ := O
  refine ⟨eR_c s (fun a a0 a1 => hI a (by omega)) (fun j _ hj => h j (by omega) (by omega)) R, eC_c (hI _ (by omega)) (fun j j0 j1 => h j (by omega) (by omega)) C, ⟨h0, by rw [hj 1 (by decide), h 174 (by decide) (by decide)]; exact o1, fun y => ?_, fun k k0 k1 => ?_⟩, fun p hp => ?_⟩
  · have e := h2 y
    rw [hj 2 (by decide), hj 3 (by decide), e]; exact o2 (by omega)
  · rw [h 174 (by decide) (by decide)] at k1
    rw [hI _ (by omega), hI _ (by omega), h _ (by omega) (by omega)]; exact o3 k k0 k1
  · exact eP_c (hI _ (by omega)) (h _ (by omega) (by omega)) (h _ (by omega) (by omega)) (h _ (by omega) (by omega)) (fun y => by rw [h 162 (by decide) (by decide), h 163 (by decide) (by decide), h 165 (by decide) (by decide)] at y; exact y) (P p hp)
theorem x_work {G : rc_G} {r : Nat} {I : rc_M} {v : rv} {post : rc_M → Prop} (kk : kX4 G r) (s : wS v) (hh : wH v) (k : wK 0 v) (E : eA I r v) (H : ∀ J : rc_M, eA J r (tWork v) → eF r I J → post J) : wX5_work G (r + 35) (r + 1) I post := by
  obtain ⟨q162, q163, q165, q171, q172, q173, q174, qrow, q191, q195⟩ := id hh
  obtain ⟨k170, kP0, kP1, kQ⟩ := id k
  have kP : ∀ p : Int, p = 0 ∨ p = 1 → wP 0 v p := fun p hp => by rcases hp with rfl | rfl <;> assumption
  have k5 := kk.2.2
  obtain ⟨R, C, O, P⟩ := id E
  have O' := O
  obtain ⟨o0, o1, o2, o3⟩ := O'
  clear kP0 kP1 q191 q195
  unfold tWork at H
  unfold wX5_work wX0_isWorking
  rw [o0]
  by_cases n0 : v 172 < 0
  · rw [if_neg (by omega)]
    rw [if_pos n0] at H
    refine ⟨rc_R0, fun _ => ⟨rc_R0, fun _ => ?_, fun y => absurd rfl y⟩, fun y => absurd y (by omega)⟩
    rw [o1]
    refine ⟨by unfold rc_R; omega, fun n1 => ?_, fun n1 => ?_⟩
    · rw [if_pos n1] at H; exact H I E (eF_r r I)
    · rw [if_neg n1] at H
      have r0 := qrow 0 (by omega) (by omega)
      rw [show (175 : Int) + 0 = 175 by decide] at r0
      have up := tUp_o q174
      have e1 : (174 : Int) + 1 = 175 := by decide
      have hp : v 175 / 3 = 0 ∨ v 175 / 3 = 1 := by omega
      have st := fun (q : v 175 = 3 * (v 175 / 3)) => (kQ.2.1 1 (v 175 / 3) (by omega) (by omega) hp).1 (show wE v 1 = 3 * (v 175 / 3) by rw [wE_n v (by omega)]; show v 175 = _; exact q)
      have pl := (kP _ hp).1
      have fin : ∀ T : Int, T = tTicks (tUp v) (v 175) → wX0_takeUp G (r + 35 + 1) T I (fun I9 => post I9) := fun T e => by
        rw [← e] at H
        exact x_takeUp E s (by omega) r0.1 H
      clear kQ kP o0 o2 o3 q173
      have fin2 := fin _ rfl
      unfold tTicks at fin
      unfold wX5_ticksOfFirstTask
      refine x_kindOf O (fun y => by omega) (by omega) (by unfold rc_R; omega) (fun y => by omega) (fun _ _ => ?_) (fun y => by omega)
      rw [e1]
      refine ⟨by unfold rc_R; omega, fun a => ?_, fun a => ?_, fun a b => ?_⟩
      · refine x_projOf O (fun y => by omega) (by omega) (by unfold rc_R; omega) (fun y => by omega) (fun _ _ => ?_) (fun y => by omega)
        rw [e1]
        have st' := st (by omega)
        have pl' := pl (Or.inl (by omega))
        refine x_proj hp ⟨_, rfl, k2_of k5 hp, ?_⟩
        rw [(P _ hp).2.1 (Or.inl (by omega))]
        refine x_clearing kk.2.1 R s pl' ?_
        refine fin _ ?_
        rw [if_neg (by omega), if_neg (by omega), up 144 (by omega), up 145 (by omega)]
        unfold tLen tR
        have s0 := s.1
        have s1 := s.2.1
        have b := s.2.2.1 _ pl'.1 pl'.2
        rw [up (192 + 4 * (v 175 / 3)) (by omega), up (150 + _) (by omega), up (1 + 14 * _) (by omega)]
      · refine x_setting R (by omega) ?_
        refine fin _ ?_
        rw [if_pos a, up 146 (by omega)]; rfl
      · refine x_setting R (by omega) ?_
        refine fin _ ?_
        rw [if_neg (by omega), if_pos (by omega), up 147 (by omega)]; rfl
  · rw [if_pos (by omega)]
    rw [if_neg n0] at H
    have q := q173 (by omega)
    refine ⟨by unfold rc_R; omega, fun y => absurd y (by omega), fun _ => ⟨by unfold rc_R; omega, fun y => absurd y (by decide), fun _ I10 e10 => ?_⟩⟩
    rw [o0, if_pos (by omega)] at e10
    have wo : ∀ j : Int, j ≠ 173 → rc_u v 173 (v 173 - 1) j = v j := fun j hj => rc_u_n _ _ hj
    have ws : rc_u v 173 (v 173 - 1) 173 = v 173 - 1 := rc_u_s _ _ _
    have sw : wS (rc_u v 173 (v 173 - 1)) := wS_lo (fun j _ hj => wo j (by omega)) s
    generalize rc_u v 173 (v 173 - 1) = w at *
    have w172 := wo 172 (by decide)
    have i10 : I10 (r + 35 + 1) 0 = v 173 - 1 := by rw [e10, qs_s, rc_u_s]
    have E1 : eA I10 r w := eA_op s q174.2 E (fun a ha => by rw [e10, qs_n _ _ _ ha]) (fun j hj => by rw [e10, qs_s, rc_u_n _ _ hj]) (by rw [i10, w172, ws, if_pos (by omega)]) (fun j _ hj => wo j hj) (fun _ => w172)
    have F1 : eF r I I10 := by rw [e10]; exact eF_s (eF_r r I) (by omega)
    rw [i10]
    refine ⟨by unfold rc_R; omega, fun n1 => ⟨rc_R0, fun y => absurd rfl y, fun _ => ?_⟩, fun n1 => ⟨by unfold rc_R; omega, fun _ => ?_, fun y => absurd y (by decide)⟩⟩
    · rw [if_pos (by omega)] at H
      have hp : v 172 / 3 = 0 ∨ v 172 / 3 = 1 := by omega
      have O1 := kQ.2.1 0 (v 172 / 3) (by omega) (by omega) hp
      have c0 : wE v 0 = v 172 := rfl
      rw [c0] at O1
      have K := kP _ hp
      have h2 : v 172 % 3 = 2 → w (191 + 4 * (v 172 / 3)) = 5 ∧ (0 ≤ w (192 + 4 * (v 172 / 3)) ∧ w (192 + 4 * (v 172 / 3)) < w 149) ∧ (0 ≤ w (194 + 4 * (v 172 / 3)) ∧ w (194 + 4 * (v 172 / 3)) ≤ 3001 ∧ w (194 + 4 * (v 172 / 3)) = w (193 + 4 * (v 172 / 3))) := fun y => by
        have x := O1.2.1 (by clear O1 K; omega)
        rw [wo (191 + 4 * (v 172 / 3)) (by clear O1 K; omega), wo (192 + 4 * (v 172 / 3)) (by clear O1 K; omega), wo (193 + 4 * (v 172 / 3)) (by clear O1 K; omega), wo (194 + 4 * (v 172 / 3)) (by clear O1 K; omega), wo 149 (by decide)]
        exact ⟨x, K.1 (Or.inl (by rw [x]; decide)), K.2.2.2.1 x⟩
      have h0 : v 172 % 3 = 0 → w (191 + 4 * (v 172 / 3)) ≠ 0 := fun y => by
        have x := O1.1 (by clear O1 K; omega)
        rw [wo _ (by clear O1 K; omega), x]; decide
      clear O1 K kP
      refine x_finish sw (by rw [wo 174 (by decide)]; exact q174) kk hp (by omega) rfl w172 h0 h2 E1 (fun J EJ FJ => ?_)
      have to := fun j hj => tFin_o (w := w) (c := v 172) (j := j) sw (by omega) (fun y => (h2 y).2.1) hj
      have sT : wS (tFin w (v 172)) → post J := fun sT => by
        refine H J (eA_op sT (by rw [to 174 (by decide), wo 174 (by decide)]; exact q174.2) EJ (fun _ _ => rfl) (fun _ _ => rfl) ?_ (fun j hj _ => rc_u_n _ _ hj) (fun y => by rw [rc_u_s] at y; omega)) (eF_t F1 FJ)
        rw [EJ.2.2.1.1, to 172 (by decide), to 173 (by decide), ws, rc_u_s, if_neg (show ¬ (0 : Int) ≤ -1 by decide)]
        by_cases z : 0 ≤ w 172
        · rw [if_pos z]; omega
        · rw [if_neg z]
      have si := (inv_work s hh k).1
      unfold tWork at si
      rw [if_neg n0, if_pos (by omega)] at si
      exact sT (wS_lo (fun j j0 hj => by
        have e : w = rc_u v 173 (v 173 - 1) := by
          funext i; by_cases c : i = 173
          · rw [c, ws, rc_u_s]
          · rw [wo i c, rc_u_n _ _ c]
        rw [← e, rc_u_n _ _ (by omega)]) si)
    · rw [if_neg (by omega)] at H
      exact H I10 E1 F1
