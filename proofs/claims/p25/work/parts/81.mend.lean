/-! ===== pure part: one reel's rows changed; mend ===== -/
theorem eA_reel {I J : rc_M} {r q : Nat} {u v : rv} {i : Int} (s : wS v) (n6 : v 174 ≤ 6) (hi : 0 ≤ i ∧ i < v 0) (hq : q = r + 5 + 3 * i.toNat) (Jo : ∀ a : Nat, a ≠ q → a ≠ q + 1 → a ≠ q + 2 → J a = I a) (uo : ∀ j : Int, (j < 2 + 14 * i ∨ 15 + 14 * i ≤ j) → u j = v j) (L : eL J q u i) (E : eA I r v) : eA J r u := by
  obtain ⟨⟨R0, R1, R2, R3, R4⟩, C, O, P⟩ := E
  have s0 := s.1
  have s1 := s.2.1
  have sL := s.2.2.2.2
  clear s
  have qi : r + 5 ≤ q ∧ q + 2 ≤ r + 34 := by omega
  have J1 : ∀ a : Nat, (a < r + 5 ∨ r + 34 < a) → J a = I a := fun a ha => Jo a (by omega) (by omega) (by omega)
  refine ⟨⟨by rw [J1 _ (by omega), uo 0 (by omega)]; exact R0, by rw [J1 _ (by omega), uo 149 (by omega)]; exact R1, fun j j0 j1 => by rw [J1 _ (by omega), uo _ (by omega)]; exact R2 j j0 j1, fun j j0 j1 => ?_, fun n n0 n1 => ?_⟩, eC_c (J1 _ (by omega)) (fun j j0 j1 => uo j (by omega)) C, eO_c ⟨J1 _ (by omega), J1 _ (by omega), J1 _ (by omega)⟩ (uo _ (by omega)) (uo _ (by omega)) (uo _ (by omega)) (fun j j0 j1 => uo _ (by omega)) O, fun p hp => eP_c (J1 _ (by omega)) (uo _ (by omega)) (uo _ (by omega)) (uo _ (by omega)) (fun y => by rw [uo 162 (by omega), uo 163 (by omega), uo 165 (by omega)] at y; exact y) (P p hp)⟩
  · rw [uo 149 (by omega)] at j1
    rw [J1 _ (by omega), uo _ (by omega)]; exact R3 j j0 j1
  · rw [uo 0 (by omega)] at n1
    by_cases z : n = i
    · rw [z, ← hq]; exact L
    · obtain ⟨x1, x2, x3⟩ := R4 n n0 n1
      have w2 := (sL n n0 n1).2.1
      clear R2 R3 R4 C O P L sL
      refine ⟨by rw [Jo _ (by omega) (by omega) (by omega), uo _ (by omega)]; exact x1, by rw [Jo _ (by omega) (by omega) (by omega), uo _ (by omega)]; exact x2, fun j j0 j1 => ?_⟩
      rw [uo _ (by omega)] at j1
      rw [Jo _ (by omega) (by omega) (by omega), Jo _ (by omega) (by omega) (by omega), uo _ (by omega), uo _ (by omega)]; exact x3 j j0 j1
theorem tV_reel {u v : rv} {i : Int} (V : tV v) (hi : 0 ≤ i ∧ i < v 0) (uo : ∀ j : Int, (j < 2 + 14 * i ∨ 15 + 14 * i ≤ j) → u j = v j) (w : wL u i) : tV u := by
  have s0 := V.1.1
  refine ⟨?_, wH_c2 (fun j j0 j1 => uo j (by omega)) V.2.1, fun y1 y2 => wK_c V.2.1.2.2.2.2.2.2.1 (fun j j0 j1 => uo j (by omega)) (V.2.2 (by rw [← y1]; exact (uo _ (by omega)).symm) (by rw [← y2]; exact (uo _ (by omega)).symm))⟩
  obtain ⟨sa, sb, sc, sd, sf⟩ := V.1
  clear V
  refine ⟨by rw [uo 0 (by omega)]; exact sa, by rw [uo 149 (by omega)]; exact sb, fun j j0 j1 => ?_, ?_, fun n n0 n1 => ?_⟩
  · rw [uo 149 (by omega)] at j1
    rw [uo _ (by omega), uo 0 (by omega)]; exact sc j j0 j1
  · rw [uo 141 (by omega), uo 142 (by omega), uo 143 (by omega), uo 144 (by omega), uo 145 (by omega), uo 146 (by omega), uo 147 (by omega), uo 148 (by omega)]; exact sd
  · rw [uo 0 (by omega)] at n1
    by_cases z : n = i
    · rw [z]; exact w
    · obtain ⟨w1, w2, w3, w4⟩ := sf n n0 n1
      clear sc sd sf w
      have e1 := uo (1 + 14 * n) (by omega)
      have e2 := uo (2 + 14 * n) (by omega)
      refine ⟨by rw [e1]; exact w1, by rw [e2]; exact w2, fun j j0 j1 => ?_, fun j1 j2 y1 y2 y3 => ?_⟩
      · rw [e2] at j1
        rw [e1, uo (3 + 14 * n + 2 * j) (by omega), uo (4 + 14 * n + 2 * j) (by omega)]; exact w3 j j0 j1
      · rw [e2] at y3
        rw [uo (3 + 14 * n + 2 * j1) (by omega), uo (3 + 14 * n + 2 * j2) (by omega)]; exact w4 j1 j2 y1 y2 y3
theorem tMd_ix {v : rv} {i z : Int} (w : wL v i) (k : Nat) (hk : (k : Int) ≤ v (2 + 14 * i)) :
    (∀ a : Int, 0 ≤ a → a < tMn v i z k → ∃ j : Int, (0 ≤ j ∧ j < k) ∧ tMd v i z k (3 + 14 * i + 2 * a) = v (3 + 14 * i + 2 * j) ∧ tMd v i z k (4 + 14 * i + 2 * a) = v (4 + 14 * i + 2 * j)) ∧
    (∀ a b : Int, 0 ≤ a → a < b → b < tMn v i z k → tMd v i z k (3 + 14 * i + 2 * a) < tMd v i z k (3 + 14 * i + 2 * b)) := by
  induction k with
  | zero =>
    have e : tMn v i z 0 = 0 := rfl
    rw [e]
    exact ⟨fun a a0 a1 => absurd a1 (by omega), fun a b a0 a1 a2 => absurd a2 (by omega)⟩
  | succ k ih =>
    obtain ⟨h1, h2⟩ := ih (by omega)
    have b := tMn_le v i z k
    rw [tMn, tMd]
    by_cases c : v (4 + 14 * i + 2 * (k : Int)) < z
    · rw [if_pos c, if_pos c, Int.add_zero]
      refine ⟨fun a a0 a1 => ?_, h2⟩
      obtain ⟨j, hj, hj2⟩ := h1 a a0 a1
      exact ⟨j, by omega, hj2⟩
    · rw [if_neg c, if_neg c]
      have f3 : ∀ a : Int, a ≠ tMn v i z k → rc_u (rc_u (tMd v i z k) (3 + 14 * i + 2 * tMn v i z k) (v (3 + 14 * i + 2 * (k : Int)))) (4 + 14 * i + 2 * tMn v i z k) (v (4 + 14 * i + 2 * (k : Int))) (3 + 14 * i + 2 * a) = tMd v i z k (3 + 14 * i + 2 * a) := fun a ha => by rw [rc_u_n _ _ (by omega), rc_u_n _ _ (by omega)]
      have f4 : ∀ a : Int, a ≠ tMn v i z k → rc_u (rc_u (tMd v i z k) (3 + 14 * i + 2 * tMn v i z k) (v (3 + 14 * i + 2 * (k : Int)))) (4 + 14 * i + 2 * tMn v i z k) (v (4 + 14 * i + 2 * (k : Int))) (4 + 14 * i + 2 * a) = tMd v i z k (4 + 14 * i + 2 * a) := fun a ha => by rw [rc_u_n _ _ (by omega), rc_u_n _ _ (by omega)]
      have g3 : rc_u (rc_u (tMd v i z k) (3 + 14 * i + 2 * tMn v i z k) (v (3 + 14 * i + 2 * (k : Int)))) (4 + 14 * i + 2 * tMn v i z k) (v (4 + 14 * i + 2 * (k : Int))) (3 + 14 * i + 2 * tMn v i z k) = v (3 + 14 * i + 2 * (k : Int)) := by rw [rc_u_n _ _ (by omega), rc_u_s]
      have g4 : rc_u (rc_u (tMd v i z k) (3 + 14 * i + 2 * tMn v i z k) (v (3 + 14 * i + 2 * (k : Int)))) (4 + 14 * i + 2 * tMn v i z k) (v (4 + 14 * i + 2 * (k : Int))) (4 + 14 * i + 2 * tMn v i z k) = v (4 + 14 * i + 2 * (k : Int)) := by rw [rc_u_s]
      generalize rc_u (rc_u (tMd v i z k) (3 + 14 * i + 2 * tMn v i z k) (v (3 + 14 * i + 2 * (k : Int)))) (4 + 14 * i + 2 * tMn v i z k) (v (4 + 14 * i + 2 * (k : Int))) = u at *
      refine ⟨fun a a0 a1 => ?_, fun a a' a0 a1 a2 => ?_⟩
      · by_cases d : a = tMn v i z k
        · rw [d]; exact ⟨k, by omega, g3, g4⟩
        · obtain ⟨j, hj, hj2, hj3⟩ := h1 a a0 (by omega)
          exact ⟨j, by omega, by rw [f3 a d]; exact hj2, by rw [f4 a d]; exact hj3⟩
      · by_cases d : a' = tMn v i z k
        · obtain ⟨j, hj, hj2, hj3⟩ := h1 a a0 (by omega)
          rw [d, g3, f3 a (by omega), hj2]
          exact w.2.2.2 j k hj.1 hj.2 (by omega)
        · rw [f3 a (by omega), f3 a' d]; exact h2 a a' a0 a1 (by omega)
