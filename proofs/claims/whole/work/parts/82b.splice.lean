/-! ===== pure part: a splice made, the call ===== -/
theorem wL_sp {v : rv} {i k fr z : Int} (w : wL v i) (hk : 0 ≤ k ∧ k ≤ v (2 + 14 * i)) (n6 : v (2 + 14 * i) < 6) (hf : 1 ≤ fr ∧ fr < v (1 + 14 * i)) (hz : 1 ≤ z ∧ z ≤ 9) (hlt : ∀ j : Int, 0 ≤ j → j < k → v (3 + 14 * i + 2 * j) < fr) (hgt : ∀ j : Int, k ≤ j → j < v (2 + 14 * i) → fr < v (3 + 14 * i + 2 * j)) :
    wL (tSp v i k fr z) i ∧ (∀ j : Int, (j < 2 + 14 * i ∨ 15 + 14 * i ≤ j) → tSp v i k fr z j = v j) ∧ tSp v i k fr z (2 + 14 * i) = v (2 + 14 * i) + 1 ∧
    (∀ j : Int, 0 ≤ j → j < k → tSp v i k fr z (3 + 14 * i + 2 * j) = v (3 + 14 * i + 2 * j) ∧ tSp v i k fr z (4 + 14 * i + 2 * j) = v (4 + 14 * i + 2 * j)) ∧
    (tSp v i k fr z (3 + 14 * i + 2 * k) = fr ∧ tSp v i k fr z (4 + 14 * i + 2 * k) = z) ∧
    (∀ j : Int, k < j → j ≤ v (2 + 14 * i) → tSp v i k fr z (3 + 14 * i + 2 * j) = v (3 + 14 * i + 2 * (j - 1)) ∧ tSp v i k fr z (4 + 14 * i + 2 * j) = v (4 + 14 * i + 2 * (j - 1))) := by
  have w2 := w.2.1
  have uo : ∀ j : Int, (j < 2 + 14 * i ∨ 15 + 14 * i ≤ j) → tSp v i k fr z j = v j := fun j hj => by
    unfold tSp
    rw [rc_u_n _ _ (by omega), rc_u_n _ _ (by omega), rc_u_n _ _ (by omega), tMv_out (by omega)]
  have u2 : tSp v i k fr z (2 + 14 * i) = v (2 + 14 * i) + 1 := by
    unfold tSp
    rw [rc_u_n _ _ (by omega), rc_u_n _ _ (by omega), rc_u_s]
  have ul : ∀ j : Int, 0 ≤ j → j < k → tSp v i k fr z (3 + 14 * i + 2 * j) = v (3 + 14 * i + 2 * j) ∧ tSp v i k fr z (4 + 14 * i + 2 * j) = v (4 + 14 * i + 2 * j) := fun j j0 j1 => by
    unfold tSp
    rw [rc_u_n _ _ (show 3 + 14 * i + 2 * j ≠ 4 + 14 * i + 2 * k by omega), rc_u_n _ _ (show 3 + 14 * i + 2 * j ≠ 3 + 14 * i + 2 * k by omega), rc_u_n _ _ (show 3 + 14 * i + 2 * j ≠ 2 + 14 * i by omega), tMv_out (by omega), rc_u_n _ _ (show 4 + 14 * i + 2 * j ≠ 4 + 14 * i + 2 * k by omega), rc_u_n _ _ (show 4 + 14 * i + 2 * j ≠ 3 + 14 * i + 2 * k by omega), rc_u_n _ _ (show 4 + 14 * i + 2 * j ≠ 2 + 14 * i by omega), tMv_out (by omega)]
    exact ⟨rfl, rfl⟩
  have uk : tSp v i k fr z (3 + 14 * i + 2 * k) = fr ∧ tSp v i k fr z (4 + 14 * i + 2 * k) = z := by
    unfold tSp
    rw [rc_u_n _ _ (show 3 + 14 * i + 2 * k ≠ 4 + 14 * i + 2 * k by omega), rc_u_s, rc_u_s]
    exact ⟨rfl, rfl⟩
  have ur : ∀ j : Int, k < j → j ≤ v (2 + 14 * i) → tSp v i k fr z (3 + 14 * i + 2 * j) = v (3 + 14 * i + 2 * (j - 1)) ∧ tSp v i k fr z (4 + 14 * i + 2 * j) = v (4 + 14 * i + 2 * (j - 1)) := fun j j0 j1 => by
    unfold tSp
    rw [rc_u_n _ _ (show 3 + 14 * i + 2 * j ≠ 4 + 14 * i + 2 * k by omega), rc_u_n _ _ (show 3 + 14 * i + 2 * j ≠ 3 + 14 * i + 2 * k by omega), rc_u_n _ _ (show 3 + 14 * i + 2 * j ≠ 2 + 14 * i by omega), tMv_in (by omega), rc_u_n _ _ (show 4 + 14 * i + 2 * j ≠ 4 + 14 * i + 2 * k by omega), rc_u_n _ _ (show 4 + 14 * i + 2 * j ≠ 3 + 14 * i + 2 * k by omega), rc_u_n _ _ (show 4 + 14 * i + 2 * j ≠ 2 + 14 * i by omega), tMv_in (by omega)]
    exact ⟨by congr 1; omega, by congr 1; omega⟩
  refine ⟨?_, uo, u2, ul, uk, ur⟩
  have u1 := uo (1 + 14 * i) (by omega)
  generalize tSp v i k fr z = u at *
  clear uo
  obtain ⟨wa, wb, wc, wd⟩ := w
  refine ⟨by rw [u1]; exact wa, by rw [u2]; omega, fun j j0 j1 => ?_, fun a b a0 a1 b1 => ?_⟩
  · rw [u2] at j1
    rw [u1]
    rcases Int.lt_trichotomy j k with c | c | c
    · have h := ul j j0 c
      rw [h.1, h.2]; exact wc j j0 (by omega)
    · rw [c, uk.1, uk.2]; exact ⟨hf, by omega⟩
    · have h := ur j c (by omega)
      rw [h.1, h.2]; exact wc (j - 1) (by omega) (by omega)
  · rw [u2] at b1
    rcases Int.lt_trichotomy b k with c | c | c
    · rw [(ul b (by omega) c).1, (ul a a0 (by omega)).1]; exact wd a b a0 a1 (by omega)
    · rw [c, uk.1, (ul a a0 (by omega)).1]; exact hlt a a0 (by omega)
    · rw [(ur b c (by omega)).1]
      rcases Int.lt_trichotomy a k with d | d | d
      · rw [(ul a a0 d).1]; exact wd a (b - 1) a0 (by omega) (by omega)
      · rw [d, uk.1]; exact hgt (b - 1) (by omega) (by omega)
      · rw [(ur a d (by omega)).1]; exact wd (a - 1) (b - 1) (by omega) (by omega) (by omega)
theorem op_splice {G : rc_G} {x : Nat} {I : rc_M} {i fr z : Int} {k : rc_M → Prop} (t : tI G x I) (hi : rc_R i) (hf : rc_R fr) (hz : rc_R z) (hk : ∀ J : rc_M, tI G x J → k J) : wX7_splice G x i fr z I (fun r1 I1 => wX8_splice G (x + 88) i fr z I1 (fun r2 I2 => r1 = r2 ∧ k I2)) := by
  obtain ⟨t0, t1, t2, E, V, t5, t6, t7⟩ := id t
  obtain ⟨v, ev⟩ : ∃ v, v = I (x + 89) := ⟨_, rfl⟩
  rw [← ev] at E V
  have hv : I (x + 88 + 1) = v := ev.symm
  have s0 := V.1.1
  have n6 := V.2.1.2.2.2.2.2.2.1.2
  unfold wX7_splice
  refine x_reelNumbered E.1 V.1 hi ?_
  by_cases c : 0 ≤ i ∧ i < v 0
  · rw [if_pos c]
    have wl := V.1.2.2.2.2 i c.1 c.2
    have el := E.1.2.2.2.2 i c.1 c.2
    have w1 := wl.1
    have w2 := wl.2.1
    refine ⟨fun y => (by cases y), fun q y => ?_⟩
    have eq : q = x + 1 + 5 + 3 * i.toNat := by injection y with y; exact y.symm
    rw [← eq] at el
    rw [el.1]
    have e0 : (1 + 14 * i) + 0 = 1 + 14 * i := by omega
    have e1 : (1 + 14 * i) + 1 = 2 + 14 * i := by omega
    refine ⟨by rw [eq]; exact k3_of t1.2.1.2.1 (by omega), x_within hf (by unfold rc_R; omega) (by unfold rc_R; omega) ?_⟩
    -- the reference's way to where it looks for the frame
    have M : ∀ J : rc_M, J (x + 88 + 1) = v → ∀ post : Int → rc_M → Prop, (1 ≤ fr ∧ fr ≤ v (1 + 14 * i) - 1 → 1 ≤ z ∧ z ≤ 9 → wX8_spliceFrom G (x + 88) i fr J (fun r20 I19 => wX8_strengthAt G (x + 88) i fr I19 (fun r22 I21 => rc_R r22 ∧ ((0 ≤ r22 → wX8_splice_146 G post (x + 88) i fr z r20 I21) ∧ (¬ 0 ≤ r22 → rc_R (v (2 + 14 * i)) ∧ ((¬ v (2 + 14 * i) = 6 → ∃ n, rX8_splice_91 G post (x + 88) i fr z n r20 ((2 * v (2 + 14 * i)) - 1) I21) ∧ (v (2 + 14 * i) = 6 → post (-100004) I21))))))) → ((¬ (1 ≤ fr ∧ fr ≤ v (1 + 14 * i) - 1) ∨ ¬ (1 ≤ z ∧ z ≤ 9)) → post (-100002) J) → wX8_splice G (x + 88) i fr z J post := by
      intro J jv post h1 h2
      unfold wX8_splice
      refine m_isReel jv V.1 hi ?_
      rw [if_pos c]
      refine ⟨by unfold rc_R; omega, fun _ => ?_, fun y => absurd y (by decide)⟩
      unfold wX8_at
      simp only [jv, e0, e1]
      refine ⟨by omega, m_in hf (by unfold rc_R; omega) (by unfold rc_R; omega) ?_⟩
      by_cases d : 1 ≤ fr ∧ fr ≤ v (1 + 14 * i) - 1
      · rw [if_pos d]
        refine ⟨by unfold rc_R; omega, fun y => absurd y (by decide), fun _ => m_in hz (by unfold rc_R; omega) (by unfold rc_R; omega) ?_⟩
        by_cases d2 : 1 ≤ z ∧ z ≤ 9
        · rw [if_pos d2]
          exact ⟨by unfold rc_R; omega, fun _ => ⟨by omega, by rw [jv]; exact h1 d d2⟩, fun y => absurd y (by decide)⟩
        · rw [if_neg d2]
          exact ⟨rc_R0, fun y => absurd rfl y, fun _ => h2 (Or.inr d2)⟩
      · rw [if_neg d]
        exact ⟨rc_R0, fun _ => h2 (Or.inl d), fun y => absurd rfl y⟩
    by_cases d : 1 ≤ fr ∧ fr ≤ v (1 + 14 * i) - 1
    · rw [if_pos d]
      refine ⟨by unfold rc_R; omega, fun y => absurd y (by decide), fun _ => x_within hz (by unfold rc_R; omega) (by unfold rc_R; omega) ?_⟩
      by_cases d2 : 1 ≤ z ∧ z ≤ 9
      · rw [if_pos d2]
        refine ⟨by unfold rc_R; omega, fun _ => ?_, fun y => absurd y (by decide)⟩
        obtain ⟨n, n0, nlt, nge⟩ := tF_ex (fr := fr) wl
        have U : ∀ n' : Int, 0 ≤ n' → n' ≤ v (2 + 14 * i) → (∀ j : Int, 0 ≤ j → j < n' → v (3 + 14 * i + 2 * j) < fr) → (n' < v (2 + 14 * i) → fr ≤ v (3 + 14 * i + 2 * n')) → n' = n := fun n' a0 a1 alt age => by
          rcases Int.lt_trichotomy n' n with h | h | h
          · have a := nlt n' a0 h; have b := age (by omega); omega
          · exact h
          · have a := alt n n0.1 h; have b := nge (by omega); omega
        refine x_join el wl hf n0 nlt nge (fun ek kn => ?_) (fun ek kn J Jo J0 J1 Jl Jk Jr => ?_) (fun ek kn => ?_)
        · have hq : q + 2 = x + 1 + 5 + 3 * i.toNat + 2 := by omega
          rw [hq]
          have EJ := eA_str (x := z) V.1 V.2.1.2.2.2.2.2.2.1 E c ⟨n0.1, kn⟩
          have SU := wS_str (x := z) V.1 c ⟨n0.1, kn⟩ (by omega)
          have FJ : eF (x + 1) I (rc_s I (x + 1 + 5 + 3 * i.toNat + 2) n z) := eF_s (eF_r _ I) (by omega)
          have VU : tV (rc_u v (4 + 14 * i + 2 * n) z) := tV_reel V c (fun j hj => rc_u_n _ _ (by omega)) (SU.2.2.2.2 i c.1 (by rw [rc_u_n _ _ (by omega)]; exact c.2))
          generalize rc_s I (x + 1 + 5 + 3 * i.toNat + 2) n z = J at *
          have jv : J (x + 88 + 1) = v := by rw [FJ _ (by omega)]; exact hv
          have fk : v (3 + 14 * i + 2 * n) = fr := by
            have T := tK_spec v i fr
            rw [ek] at T
            rcases T with T | T
            · exact T.2.2
            · omega
          refine M J jv _ (fun _ _ => ?_) (fun y => by omega)
          rw [← qw_i jv]
          refine m_spliceFrom wl (by omega) hf (fun n' a0 a1 alt age => m_strengthAt wl (by omega) hf ?_)
          have en := U n' a0 a1 alt age
          subst en
          rw [ek, if_pos n0.1]
          refine ⟨by unfold rc_R; omega, fun _ => ?_, fun y => absurd (by omega) y⟩
          unfold wX8_splice_146 wX8_at
          have e2 : (1 + 14 * i) + (2 + 2 * n') = 3 + 14 * i + 2 * n' := by omega
          have e3 : (1 + 14 * i) + (3 + 2 * n') = 4 + 14 * i + 2 * n' := by omega
          simp only [e1, e2, e3]
          refine ⟨by omega, fun I28 e28 => ⟨by omega, fun I32 e32 => ⟨by omega, ?_⟩⟩⟩
          have er : rc_u v (3 + 14 * i + 2 * n') fr = v := by
            funext j
            rw [rc_ue]
            by_cases e : j = 3 + 14 * i + 2 * n'
            · rw [if_pos e, e, fk]
            · rw [if_neg e]
          rw [pS, er] at e28
          rw [e28, pS] at e32
          rw [e32, rc_w_s]
          exact ⟨(rc_u_n _ _ (by omega)).symm, hk _ (tI_row t FJ EJ VU)⟩
        · have gt : ∀ j : Int, n ≤ j → j < v (2 + 14 * i) → fr < v (3 + 14 * i + 2 * j) := fun j j0 j1 => by
            have T := tK_spec v i fr
            rcases T with T | T
            · omega
            · have a := T.2 j (by omega) j1
              rcases Int.lt_or_eq_of_le j0 with h | h
              · have := wl.2.2.2 n j n0.1 h j1
                have := nge (by omega); omega
              · have b := nge (by omega)
                rw [h] at b; omega
          obtain ⟨WU, uo, u2, ul, uk, ur⟩ := wL_sp (z := z) wl n0 kn (by omega) d2 nlt gt
          have EL : eL J q (tSp v i n fr z) i := by
            have el3 := el.2.2
            refine ⟨by rw [J0, uo _ (by omega)]; exact el.1, by rw [J1, u2], fun j j0 j1 => ?_⟩
            rw [u2] at j1
            rcases Int.lt_trichotomy j n with h | h | h
            · have a := Jl j j0 h
              have b := ul j j0 h
              rw [a.1, a.2, b.1, b.2]; exact el3 j j0 (by omega)
            · rw [h, Jk.1, Jk.2, uk.1, uk.2]; exact ⟨rfl, rfl⟩
            · have a := Jr j h (by omega)
              have b := ur j h (by omega)
              rw [a.1, a.2, b.1, b.2]; exact el3 (j - 1) (by omega) (by omega)
          have EJ := eA_reel V.1 n6 c eq Jo uo EL E
          have VU := tV_reel V c uo WU
          have FJ : eF (x + 1) I J := fun a ha => Jo a (by omega) (by omega) (by omega)
          have jv : J (x + 88 + 1) = v := by rw [FJ _ (by omega)]; exact hv
          refine M J jv _ (fun _ _ => ?_) (fun y => by omega)
          rw [← qw_i jv]
          refine m_spliceFrom wl (by omega) hf (fun n' a0 a1 alt age => m_strengthAt wl (by omega) hf ?_)
          have en := U n' a0 a1 alt age
          subst en
          rw [ek, if_neg (by omega)]
          exact ⟨by unfold rc_R; omega, fun y => absurd y (by omega), fun _ => ⟨by unfold rc_R; omega, fun _ => m_join (by omega) wl n0 kn ⟨rfl, hk _ (tI_row t FJ EJ VU)⟩, fun y => by omega⟩⟩
        · refine M I hv _ (fun _ _ => ?_) (fun y => by omega)
          rw [← qw_i hv]
          refine m_spliceFrom wl (by omega) hf (fun n' a0 a1 alt age => m_strengthAt wl (by omega) hf ?_)
          rw [ek, if_neg (by omega)]
          exact ⟨by unfold rc_R; omega, fun y => absurd y (by omega), fun _ => ⟨by unfold rc_R; omega, fun y => absurd kn y, fun _ => ⟨rfl, by rw [qw_i hv]; exact hk I t⟩⟩⟩
      · rw [if_neg d2]
        exact ⟨rc_R0, fun y => absurd rfl y, fun _ => M I hv _ (fun _ y => absurd y d2) (fun _ => ⟨rfl, hk I t⟩)⟩
    · rw [if_neg d]
      exact ⟨rc_R0, fun _ => M I hv _ (fun y => absurd y d) (fun _ => ⟨rfl, hk I t⟩), fun y => absurd rfl y⟩
  · rw [if_neg c]
    refine ⟨fun _ => ?_, fun q y => (by cases y)⟩
    unfold wX8_splice
    refine m_isReel hv V.1 hi ?_
    rw [if_neg c]
    exact ⟨rc_R0, fun y => absurd rfl y, fun _ => ⟨rfl, hk I t⟩⟩
