/-! ===== pure part: one reel's rows changed; mend ===== -/
theorem eA_reel {I J : rc_M} {r q : Nat} {u v : rv} {i : Int} (s : wS v) (n6 : v 174 ≤ 6) (hi : 0 ≤ i ∧ i < v 0) (hq : q = r + 5 + 3 * i.toNat) (Jo : ∀ a : Nat, a ≠ q → a ≠ q + 1 → a ≠ q + 2 → J a = I a) (uo : ∀ j : Int, (j < 2 + 14 * i ∨ 15 + 14 * i ≤ j) → u j = v j) (L : eL J q u i) (E : eA I r v) : eA J r u := by
  obtain ⟨⟨R0, R1, R2, R3, R4⟩, C, O, P⟩ := E
  have s0 := s.1
  have s1 := s.2.1
  have sL := s.2.2.2.2
  clear s
  have qi : r + 5 ≤ q ∧ q + 2 ≤ r + 34 := by omega
  have J1 : ∀ a : Nat, (a < r + 5 ∨ r + 34 < a) → J a = I a := fun a ha => Jo a (by omega) (by omega) (by omega)
  refine ⟨⟨by rw [J1 _ (by omega), uo 0 (by omega)]; exact R0, by rw [J1 _ (by omega), uo 149 (by omega)]; exact R1, fun j j0 j1 => by rw [J1 _ (by omega), uo _ (by omega)]; exact R2 j j0 j1, fun j j0 j1 => ?_, fun n n0 n1 => ?_⟩, eC_c (J1 _ (by omega)) (fun j j0 j1 => uo j (by omega)) C, eO_c ⟨J1 _ (by omega), J1 _ (by omega), J1 _ (by omega)⟩ (uo _ (by omega)) (uo _ (by omega)) (uo _ (by omega)) (fun j j0 j1 => uo _ (by omega)) O, fun p hp => eP_c (J1 _ (by omega)) (uo _ (by omega)) (uo _ (by omega)) (uo _ (by omega)) (fun y => by rw [uo 162 (by omega), uo 163 (by omega), uo 165 (by omega)] at y; exact y) (P p hp)⟩
  · rw [uo 149 (by omega)] at j1
    rw [J1 _ (by omega), uo _ (by omega)]; exact R3 j j0 j1
  · rw [uo 0 (by omega)] at n1
    by_cases z : n = i
    · rw [z, ← hq]; exact L
    · obtain ⟨x1, x2, x3⟩ := R4 n n0 n1
      have w2 := (sL n n0 n1).2.1
      clear R2 R3 R4 C O P L sL
      refine ⟨by rw [Jo _ (by omega) (by omega) (by omega), uo _ (by omega)]; exact x1, by rw [Jo _ (by omega) (by omega) (by omega), uo _ (by omega)]; exact x2, fun j j0 j1 => ?_⟩
      rw [uo _ (by omega)] at j1
      rw [Jo _ (by omega) (by omega) (by omega), Jo _ (by omega) (by omega) (by omega), uo _ (by omega), uo _ (by omega)]; exact x3 j j0 j1
theorem tV_reel {u v : rv} {i : Int} (V : tV v) (hi : 0 ≤ i ∧ i < v 0) (uo : ∀ j : Int, (j < 2 + 14 * i ∨ 15 + 14 * i ≤ j) → u j = v j) (w : wL u i) : tV u := by
  have s0 := V.1.1
  refine ⟨?_, wH_c2 (fun j j0 j1 => uo j (by omega)) V.2.1, fun y1 y2 => wK_c V.2.1.2.2.2.2.2.2.1 (fun j j0 j1 => uo j (by omega)) (V.2.2 (by rw [← y1]; exact (uo _ (by omega)).symm) (by rw [← y2]; exact (uo _ (by omega)).symm))⟩
  obtain ⟨sa, sb, sc, sd, sf⟩ := V.1
  clear V
  refine ⟨by rw [uo 0 (by omega)]; exact sa, by rw [uo 149 (by omega)]; exact sb, fun j j0 j1 => ?_, ?_, fun n n0 n1 => ?_⟩
  · rw [uo 149 (by omega)] at j1
    rw [uo _ (by omega), uo 0 (by omega)]; exact sc j j0 j1
  · rw [uo 141 (by omega), uo 142 (by omega), uo 143 (by omega), uo 144 (by omega), uo 145 (by omega), uo 146 (by omega), uo 147 (by omega), uo 148 (by omega)]; exact sd
  · rw [uo 0 (by omega)] at n1
    by_cases z : n = i
    · rw [z]; exact w
    · obtain ⟨w1, w2, w3, w4⟩ := sf n n0 n1
      clear sc sd sf w
      have e1 := uo (1 + 14 * n) (by omega)
      have e2 := uo (2 + 14 * n) (by omega)
      refine ⟨by rw [e1]; exact w1, by rw [e2]; exact w2, fun j j0 j1 => ?_, fun j1 j2 y1 y2 y3 => ?_⟩
      · rw [e2] at j1
        rw [e1, uo (3 + 14 * n + 2 * j) (by omega), uo (4 + 14 * n + 2 * j) (by omega)]; exact w3 j j0 j1
      · rw [e2] at y3
        rw [uo (3 + 14 * n + 2 * j1) (by omega), uo (3 + 14 * n + 2 * j2) (by omega)]; exact w4 j1 j2 y1 y2 y3
theorem tMd_ix {v : rv} {i z : Int} (w : wL v i) (k : Nat) (hk : (k : Int) ≤ v (2 + 14 * i)) :
    (∀ a : Int, 0 ≤ a → a < tMn v i z k → ∃ j : Int, (0 ≤ j ∧ j < k) ∧ tMd v i z k (3 + 14 * i + 2 * a) = v (3 + 14 * i + 2 * j) ∧ tMd v i z k (4 + 14 * i + 2 * a) = v (4 + 14 * i + 2 * j)) ∧
    (∀ a b : Int, 0 ≤ a → a < b → b < tMn v i z k → tMd v i z k (3 + 14 * i + 2 * a) < tMd v i z k (3 + 14 * i + 2 * b)) := by
  induction k with
  | zero =>
    have e : tMn v i z 0 = 0 := rfl
    rw [e]
    exact ⟨fun a a0 a1 => absurd a1 (by omega), fun a b a0 a1 a2 => absurd a2 (by omega)⟩
  | succ k ih =>
    obtain ⟨h1, h2⟩ := ih (by omega)
    have b := tMn_le v i z k
    rw [tMn, tMd]
    by_cases c : v (4 + 14 * i + 2 * (k : Int)) < z
    · rw [if_pos c, if_pos c, Int.add_zero]
      refine ⟨fun a a0 a1 => ?_, h2⟩
      obtain ⟨j, hj, hj2⟩ := h1 a a0 a1
      exact ⟨j, by omega, hj2⟩
    · rw [if_neg c, if_neg c]
      have f3 : ∀ a : Int, a ≠ tMn v i z k → rc_u (rc_u (tMd v i z k) (3 + 14 * i + 2 * tMn v i z k) (v (3 + 14 * i + 2 * (k : Int)))) (4 + 14 * i + 2 * tMn v i z k) (v (4 + 14 * i + 2 * (k : Int))) (3 + 14 * i + 2 * a) = tMd v i z k (3 + 14 * i + 2 * a) := fun a ha => by rw [rc_u_n _ _ (by omega), rc_u_n _ _ (by omega)]
      have f4 : ∀ a : Int, a ≠ tMn v i z k → rc_u (rc_u (tMd v i z k) (3 + 14 * i + 2 * tMn v i z k) (v (3 + 14 * i + 2 * (k : Int)))) (4 + 14 * i + 2 * tMn v i z k) (v (4 + 14 * i + 2 * (k : Int))) (4 + 14 * i + 2 * a) = tMd v i z k (4 + 14 * i + 2 * a) := fun a ha => by rw [rc_u_n _ _ (by omega), rc_u_n _ _ (by omega)]
      have g3 : rc_u (rc_u (tMd v i z k) (3 + 14 * i + 2 * tMn v i z k) (v (3 + 14 * i + 2 * (k : Int)))) (4 + 14 * i + 2 * tMn v i z k) (v (4 + 14 * i + 2 * (k : Int))) (3 + 14 * i + 2 * tMn v i z k) = v (3 + 14 * i + 2 * (k : Int)) := by rw [rc_u_n _ _ (by omega), rc_u_s]
      have g4 : rc_u (rc_u (tMd v i z k) (3 + 14 * i + 2 * tMn v i z k) (v (3 + 14 * i + 2 * (k : Int)))) (4 + 14 * i + 2 * tMn v i z k) (v (4 + 14 * i + 2 * (k : Int))) (4 + 14 * i + 2 * tMn v i z k) = v (4 + 14 * i + 2 * (k : Int)) := by rw [rc_u_s]
      generalize rc_u (rc_u (tMd v i z k) (3 + 14 * i + 2 * tMn v i z k) (v (3 + 14 * i + 2 * (k : Int)))) (4 + 14 * i + 2 * tMn v i z k) (v (4 + 14 * i + 2 * (k : Int))) = u at *
      refine ⟨fun a a0 a1 => ?_, fun a a' a0 a1 a2 => ?_⟩
      · by_cases d : a = tMn v i z k
        · rw [d]; exact ⟨k, by omega, g3, g4⟩
        · obtain ⟨j, hj, hj2, hj3⟩ := h1 a a0 (by omega)
          exact ⟨j, by omega, by rw [f3 a d]; exact hj2, by rw [f4 a d]; exact hj3⟩
      · by_cases d : a' = tMn v i z k
        · obtain ⟨j, hj, hj2, hj3⟩ := h1 a a0 (by omega)
          rw [d, g3, f3 a (by omega), hj2]
          exact w.2.2.2 j k hj.1 hj.2 (by omega)
        · rw [f3 a (by omega), f3 a' d]; exact h2 a a' a0 a1 (by omega)
theorem op_mend {G : rc_G} {x : Nat} {I : rc_M} {i z : Int} {k : rc_M → Prop} (t : tI G x I) (hi : rc_R i) (hz : rc_R z) (hk : ∀ J : rc_M, tI G x J → k J) : wX7_mend G x i z I (fun r1 I1 => wX8_mend G (x + 88) i z I1 (fun r2 I2 => r1 = r2 ∧ k I2)) := by
  obtain ⟨t0, t1, t2, E, V, t5, t6, t7⟩ := id t
  obtain ⟨v, ev⟩ : ∃ v, v = I (x + 89) := ⟨_, rfl⟩
  rw [← ev] at E V
  have hv : I (x + 88 + 1) = v := ev.symm
  have s0 := V.1.1
  have n6 := V.2.1.2.2.2.2.2.2.1.2
  unfold wX7_mend
  refine x_reelNumbered E.1 V.1 hi ?_
  by_cases c : 0 ≤ i ∧ i < v 0
  · rw [if_pos c]
    have wl := V.1.2.2.2.2 i c.1 c.2
    have el := E.1.2.2.2.2 i c.1 c.2
    have w2 := wl.2.1
    refine ⟨fun y => (by cases y), fun q y => ?_⟩
    have eq : q = x + 1 + 5 + 3 * i.toNat := by injection y with y; exact y.symm
    rw [← eq] at el
    refine ⟨by rw [eq]; exact k3_of t1.2.1.2.1 (by omega), x_within hz (by unfold rc_R; omega) (by unfold rc_R; omega) ?_⟩
    by_cases d : 1 ≤ z ∧ z ≤ 10
    · rw [if_pos d]
      refine ⟨by unfold rc_R; omega, fun _ => x_mend hz wl el (fun J Jo J0 J1 J2 => ?_), fun y => absurd y (by decide)⟩
      obtain ⟨N, hN⟩ : ∃ N : Nat, N = (v (2 + 14 * i)).toNat := ⟨_, rfl⟩
      rw [← hN] at J1 J2 ⊢
      have b := tMn_le v i z N
      have X := tMd_ix (z := z) wl N (by omega)
      have uo : ∀ j : Int, (j < 2 + 14 * i ∨ 15 + 14 * i ≤ j) → rc_u (tMd v i z N) (2 + 14 * i) (tMn v i z N) j = v j := fun j hj => by rw [rc_u_n _ _ (by omega), tMd_far v i z N j (by omega)]
      have u1 : rc_u (tMd v i z N) (2 + 14 * i) (tMn v i z N) (1 + 14 * i) = v (1 + 14 * i) := uo _ (by omega)
      have u2 : rc_u (tMd v i z N) (2 + 14 * i) (tMn v i z N) (2 + 14 * i) = tMn v i z N := rc_u_s _ _ _
      have u3 : ∀ j : Int, 0 ≤ j → rc_u (tMd v i z N) (2 + 14 * i) (tMn v i z N) (3 + 14 * i + 2 * j) = tMd v i z N (3 + 14 * i + 2 * j) := fun j hj => rc_u_n _ _ (by omega)
      have u4 : ∀ j : Int, 0 ≤ j → rc_u (tMd v i z N) (2 + 14 * i) (tMn v i z N) (4 + 14 * i + 2 * j) = tMd v i z N (4 + 14 * i + 2 * j) := fun j hj => rc_u_n _ _ (by omega)
      have WU : wL (rc_u (tMd v i z N) (2 + 14 * i) (tMn v i z N)) i := by
        refine ⟨by rw [u1]; exact wl.1, by rw [u2]; omega, fun j j0 j1 => ?_, fun j1 j2 y1 y2 y3 => ?_⟩
        · rw [u2] at j1
          obtain ⟨a, ha, ha1, ha2⟩ := X.1 j j0 j1
          rw [u1, u3 j j0, u4 j j0, ha1, ha2]; exact wl.2.2.1 a ha.1 (by omega)
        · rw [u2] at y3
          rw [u3 j1 y1, u3 j2 (by omega)]; exact X.2 j1 j2 y1 y2 y3
      have EL : eL J q (rc_u (tMd v i z N) (2 + 14 * i) (tMn v i z N)) i := by
        refine ⟨by rw [J0, u1]; exact el.1, by rw [J1, u2], fun j j0 j1 => ?_⟩
        rw [u2] at j1
        rw [u3 j j0, u4 j j0]; exact J2 j j0 j1
      have EJ := eA_reel V.1 n6 c eq Jo uo EL E
      have VU := tV_reel V c uo WU
      have FJ : eF (x + 1) I J := fun a ha => Jo a (by omega) (by omega) (by omega)
      have jv : J (x + 88 + 1) = v := by rw [FJ _ (by omega)]; exact hv
      have M := m_mend (m := x + 88) (I := J) (i := i) (z := z) (post := fun r2 I2 => v (2 + 14 * i) - tMn v i z N = r2 ∧ k I2) (G := G) (by omega) hz wl (by rw [← hN]; exact ⟨rfl, hk _ (tI_row t FJ EJ VU)⟩)
      rw [qw_i jv] at M
      unfold wX8_mend
      refine m_isReel jv V.1 hi ?_
      rw [if_pos c]
      refine ⟨by unfold rc_R; omega, fun _ => m_in hz (by unfold rc_R; omega) (by unfold rc_R; omega) ?_, fun y => absurd y (by decide)⟩
      rw [if_pos d]
      refine ⟨by unfold rc_R; omega, fun _ => ?_, fun y => absurd y (by decide)⟩
      unfold wX8_at
      have e1 : (1 + 14 * i) + 1 = 2 + 14 * i := by omega
      simp only [jv, e1]
      exact ⟨by omega, M⟩
    · rw [if_neg d]
      refine ⟨rc_R0, fun y => absurd rfl y, fun _ => ?_⟩
      unfold wX8_mend
      refine m_isReel hv V.1 hi ?_
      rw [if_pos c]
      refine ⟨by unfold rc_R; omega, fun _ => m_in hz (by unfold rc_R; omega) (by unfold rc_R; omega) ?_, fun y => absurd y (by decide)⟩
      rw [if_neg d]
      exact ⟨rc_R0, fun y => absurd rfl y, fun _ => ⟨rfl, hk I t⟩⟩
  · rw [if_neg c]
    refine ⟨fun _ => ?_, fun q y => (by cases y)⟩
    unfold wX8_mend
    refine m_isReel hv V.1 hi ?_
    rw [if_neg c]
    exact ⟨rc_R0, fun y => absurd rfl y, fun _ => ⟨rfl, hk I t⟩⟩
