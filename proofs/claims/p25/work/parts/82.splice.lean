/-! ===== pure part: a splice made ===== -/
theorem tF_ex {v : rv} {i fr : Int} (w : wL v i) : ∃ k : Int, (0 ≤ k ∧ k ≤ v (2 + 14 * i)) ∧ (∀ j : Int, 0 ≤ j → j < k → v (3 + 14 * i + 2 * j) < fr) ∧ (k < v (2 + 14 * i) → fr ≤ v (3 + 14 * i + 2 * k)) := by
  have w2 := w.2.1
  have L : ∀ (d : Nat) (k : Int), v (2 + 14 * i) - k = d → 0 ≤ k → (∀ j : Int, 0 ≤ j → j < k → v (3 + 14 * i + 2 * j) < fr) → ∃ k : Int, (0 ≤ k ∧ k ≤ v (2 + 14 * i)) ∧ (∀ j : Int, 0 ≤ j → j < k → v (3 + 14 * i + 2 * j) < fr) ∧ (k < v (2 + 14 * i) → fr ≤ v (3 + 14 * i + 2 * k)) := by
    intro d
    induction d with
    | zero => intro k hd k0 h; exact ⟨k, by omega, h, fun q => absurd q (by omega)⟩
    | succ d ih =>
      intro k hd k0 h
      by_cases c : v (3 + 14 * i + 2 * k) < fr
      · exact ih (k + 1) (by omega) (by omega) (fun j j0 j1 => by
          by_cases e : j = k
          · rw [e]; exact c
          · exact h j j0 (by omega))
      · exact ⟨k, by omega, h, fun _ => by omega⟩
  exact L (v (2 + 14 * i)).toNat 0 (by omega) (by omega) (fun j j0 j1 => absurd j1 (by omega))
/-- the row with what stands behind y moved on by a splice -/
def tMv (v : rv) (i y : Int) : rv := fun j => if 5 + 14 * i + y ≤ j ∧ j < 5 + 14 * i + 2 * v (2 + 14 * i) then v (j - 2) else v j
theorem tMv_in {v : rv} {i y j : Int} (h : 5 + 14 * i + y ≤ j ∧ j < 5 + 14 * i + 2 * v (2 + 14 * i)) : tMv v i y j = v (j - 2) := by unfold tMv; rw [if_pos h]
theorem tMv_out {v : rv} {i y j : Int} (h : j < 5 + 14 * i + y ∨ 5 + 14 * i + 2 * v (2 + 14 * i) ≤ j) : tMv v i y j = v j := by unfold tMv; rw [if_neg (by omega)]
theorem tMv_0 {v : rv} {i y : Int} (h : y = 2 * v (2 + 14 * i)) : tMv v i y = v := by
  funext j; unfold tMv; rw [if_neg (by omega)]
theorem tMv_s {v : rv} {i y : Int} (h : y ≤ 2 * v (2 + 14 * i)) : rc_u (tMv v i y) (4 + 14 * i + y) (tMv v i y (2 + 14 * i + y)) = tMv v i (y - 1) := by
  funext j
  rw [rc_ue]
  by_cases c : j = 4 + 14 * i + y
  · rw [if_pos c, tMv_out (by omega), tMv_in (by omega)]; congr 1; omega
  · rw [if_neg c]
    by_cases d : 5 + 14 * i + y ≤ j ∧ j < 5 + 14 * i + 2 * v (2 + 14 * i)
    · rw [tMv_in d, tMv_in (by omega)]
    · rw [tMv_out (by omega), tMv_out (by omega)]
def tSp (v : rv) (i k fr z : Int) : rv := rc_u (rc_u (rc_u (tMv v i (2 * k)) (2 + 14 * i) (v (2 + 14 * i) + 1)) (3 + 14 * i + 2 * k) fr) (4 + 14 * i + 2 * k) z
theorem x_join {G : rc_G} {q : Nat} {I : rc_M} {v : rv} {i k fr z : Int} {post : Int → rc_M → Prop} (e : eL I q v i) (w : wL v i) (hf : rc_R fr) (hk : 0 ≤ k ∧ k ≤ v (2 + 14 * i)) (hlt : ∀ j : Int, 0 ≤ j → j < k → v (3 + 14 * i + 2 * j) < fr) (hge : k < v (2 + 14 * i) → fr ≤ v (3 + 14 * i + 2 * k))
    (H0 : tK v i fr = k → k < v (2 + 14 * i) → post (v (2 + 14 * i)) (rc_s I (q + 2) k z))
    (H1 : tK v i fr = -1 → v (2 + 14 * i) < 6 → ∀ J : rc_M, (∀ a : Nat, a ≠ q → a ≠ q + 1 → a ≠ q + 2 → J a = I a) → J q 0 = I q 0 → J q 1 = v (2 + 14 * i) + 1 → (∀ j : Int, 0 ≤ j → j < k → J (q + 1) j = I (q + 1) j ∧ J (q + 2) j = I (q + 2) j) → (J (q + 1) k = fr ∧ J (q + 2) k = z) → (∀ j : Int, k < j → j ≤ v (2 + 14 * i) → J (q + 1) j = I (q + 1) (j - 1) ∧ J (q + 2) j = I (q + 2) (j - 1)) → post (v (2 + 14 * i) + 1) J)
    (H2 : tK v i fr = -1 → v (2 + 14 * i) = 6 → post (-100004) I) : wX3_join G q fr z I post := by
  have w2 := w.2.1
  have e2 := e.2.1
  have e3 := e.2.2
  unfold wX3_join
  refine x_spliceOf e w hf ?_
  rcases tK_spec v i fr with ⟨a, b, c⟩ | ⟨a, an⟩
  · have ek : tK v i fr = k := by
      rcases Int.lt_trichotomy (tK v i fr) k with h | h | h
      · have := hlt _ a h; omega
      · exact h
      · have := w.2.2.2 k _ hk.1 h b
        have := hge (by omega); omega
    rw [if_pos a, ek]
    rw [ek] at b
    refine x_hasSplice e w (by unfold rc_R; omega) ?_
    rw [if_pos ⟨hk.1, b⟩]
    refine ⟨by unfold rc_R; omega, fun y => absurd y (by decide), fun _ => ⟨by omega, fun I27 e27 => ?_⟩⟩
    rw [e27, qs_n _ _ _ (show q ≠ q + 2 by omega), e2]
    exact H0 ek b
  · rw [if_neg (by omega)]
    refine x_hasSplice e w (by unfold rc_R; omega) ?_
    rw [if_neg (by omega), e2]
    refine ⟨rc_R0, fun _ => ⟨by unfold rc_R; omega, fun c6 => ?_, fun c6 => H2 a (by omega)⟩, fun y => absurd rfl y⟩
    have hgt : ∀ j : Int, k ≤ j → j < v (2 + 14 * i) → fr < v (3 + 14 * i + 2 * j) := fun j j0 j1 => by
      have n := an j (by omega) j1
      rcases Int.lt_or_eq_of_le j0 with h | h
      · have := w.2.2.2 k j hk.1 h j1
        have := hge (by omega); omega
      · have := hge (by omega)
        rw [h] at this; omega
    have L : ∀ (d : Nat) (y : Int) (J : rc_M), y - k = d → y ≤ v (2 + 14 * i) → (∀ a : Nat, a ≠ q + 1 → a ≠ q + 2 → J a = I a) → (∀ j : Int, 0 ≤ j → j < y → J (q + 1) j = I (q + 1) j ∧ J (q + 2) j = I (q + 2) j) → (∀ j : Int, y < j → j ≤ v (2 + 14 * i) → J (q + 1) j = I (q + 1) (j - 1) ∧ J (q + 2) j = I (q + 2) (j - 1)) → rX3_join_44 G post q fr z (d + 1) y J := by
      intro d
      induction d with
      | zero =>
        intro y J hd hy f1 f2 f3
        show wX3_join_44 G post q fr z (rX3_join_44 G post q fr z 0) y J
        have ey : y = k := by omega
        subst ey
        have P : wX3_join_100 G post q fr z y J := by
          unfold wX3_join_100
          refine ⟨by omega, fun I12 e12 => ⟨by omega, fun I14 e14 I15 e15 => ?_⟩⟩
          have q1 : I14 q 1 = v (2 + 14 * i) := by rw [e14, qs_n _ _ _ (by omega), e12, qs_n _ _ _ (by omega), f1 q (by omega) (by omega), e2]
          rw [q1] at e15
          have q15 : I15 q 1 = v (2 + 14 * i) + 1 := by rw [e15, qs_s, rc_u_s]
          have r1 : ∀ j : Int, I15 (q + 1) j = if j = y then fr else J (q + 1) j := fun j => by rw [e15, qs_n _ _ _ (by omega), e14, qs_n _ _ _ (by omega), e12, qs_s, rc_ue]
          have r2 : ∀ j : Int, I15 (q + 2) j = if j = y then z else J (q + 2) j := fun j => by rw [e15, qs_n _ _ _ (by omega), e14, qs_s, rc_ue, e12, qs_n _ _ _ (by omega)]
          rw [q15]
          refine H1 a (by omega) I15 (fun b b0 b1 b2 => by rw [e15, qs_n _ _ _ b0, e14, qs_n _ _ _ b2, e12, qs_n _ _ _ b1]; exact f1 b b1 b2) (by rw [e15, qs_s, rc_u_n _ _ (by decide), e14, qs_n _ _ _ (by omega), e12, qs_n _ _ _ (by omega), f1 q (by omega) (by omega)]) q15 (fun j j0 j1 => ?_) ⟨by rw [r1, if_pos rfl], by rw [r2, if_pos rfl]⟩ (fun j j0 j1 => ?_)
          · rw [r1, r2, if_neg (by omega), if_neg (by omega)]; exact f2 j j0 j1
          · rw [r1, r2, if_neg (by omega), if_neg (by omega)]; exact f3 j j0 j1
        unfold wX3_join_44
        refine ⟨by unfold rc_R; omega, fun _ => P, fun y0 => ⟨by omega, ?_⟩⟩
        have g := (f2 (y - 1) (by omega) (by omega)).1
        have g3 := (e3 (y - 1) (by omega) (by omega)).1
        have wy := (w.2.2.1 (y - 1) (by omega) (by omega)).1
        have w1 := w.1
        have lt := hlt (y - 1) (by omega) (by omega)
        rw [g, g3]
        exact ⟨by unfold rc_R; omega, hf, fun _ => P, fun h => absurd (by omega) h⟩
      | succ d ih =>
        intro y J hd hy f1 f2 f3
        show wX3_join_44 G post q fr z (rX3_join_44 G post q fr z (d + 1)) y J
        unfold wX3_join_44
        have g := f2 (y - 1) (by omega) (by omega)
        have g3 := e3 (y - 1) (by omega) (by omega)
        have wy := (w.2.2.1 (y - 1) (by omega) (by omega)).1
        have w1 := w.1
        have gt := hgt (y - 1) (by omega) (by omega)
        rw [g.1, g3.1]
        refine ⟨by unfold rc_R; omega, fun y0 => absurd y0 (by omega), fun y0 => ⟨by omega, by unfold rc_R; omega, hf, fun h => absurd h (by omega), fun _ => ⟨by omega, by omega, fun I22 e22 => ⟨by omega, by omega, fun I25 e25 => ?_⟩⟩⟩⟩
        have g22 : I22 (q + 2) (y - 1) = I (q + 2) (y - 1) := by rw [e22, qs_n _ _ _ (by omega)]; exact g.2
        rw [g22] at e25
        have r1 : ∀ j : Int, I25 (q + 1) j = if j = y then v (3 + 14 * i + 2 * (y - 1)) else J (q + 1) j := fun j => by rw [e25, qs_n _ _ _ (by omega), e22, qs_s, rc_ue]
        have r2 : ∀ j : Int, I25 (q + 2) j = if j = y then I (q + 2) (y - 1) else J (q + 2) j := fun j => by rw [e25, qs_s, rc_ue, e22, qs_n _ _ _ (by omega)]
        rw [show y + -1 = y - 1 by omega]
        refine ih (y - 1) I25 (by omega) (by omega) (fun b b1 b2 => by rw [e25, qs_n _ _ _ b2, e22, qs_n _ _ _ b1]; exact f1 b b1 b2) (fun j j0 j1 => ?_) (fun j j0 j1 => ?_)
        · rw [r1, r2, if_neg (by omega), if_neg (by omega)]; exact f2 j j0 (by omega)
        · rw [r1, r2]
          by_cases c : j = y
          · rw [if_pos c, if_pos c, c, g3.1]; exact ⟨rfl, rfl⟩
          · rw [if_neg c, if_neg c]; exact f3 j (by omega) j1
    exact ⟨_, L (v (2 + 14 * i) - k).toNat (v (2 + 14 * i)) I (by omega) (by omega) (fun _ _ _ => rfl) (fun _ _ _ => ⟨rfl, rfl⟩) (fun j j0 j1 => absurd j1 (by omega))⟩
