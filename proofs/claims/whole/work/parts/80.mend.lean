/-! ===== pure part: a reel mended ===== -/
/-- how many of the first k splices stay -/
def tMn (v : rv) (i z : Int) : Nat → Int
  | 0 => 0
  | k + 1 => tMn v i z k + (if v (4 + 14 * i + 2 * (k : Int)) < z then 0 else 1)
/-- the row after the first k splices -/
def tMd (v : rv) (i z : Int) : Nat → rv
  | 0 => v
  | k + 1 => if v (4 + 14 * i + 2 * (k : Int)) < z then tMd v i z k else rc_u (rc_u (tMd v i z k) (3 + 14 * i + 2 * tMn v i z k) (v (3 + 14 * i + 2 * (k : Int)))) (4 + 14 * i + 2 * tMn v i z k) (v (4 + 14 * i + 2 * (k : Int)))
theorem tMn_le (v : rv) (i z : Int) (k : Nat) : 0 ≤ tMn v i z k ∧ tMn v i z k ≤ k := by
  induction k with
  | zero => exact ⟨by simp [tMn], by simp [tMn]⟩
  | succ k ih =>
    rw [tMn]
    by_cases c : v (4 + 14 * i + 2 * (k : Int)) < z
    · rw [if_pos c]; omega
    · rw [if_neg c]; omega
theorem tMd_far (v : rv) (i z : Int) (k : Nat) (j : Int) (h : j < 3 + 14 * i ∨ 3 + 14 * i + 2 * tMn v i z k ≤ j) : tMd v i z k j = v j := by
  induction k with
  | zero => rfl
  | succ k ih =>
    have b := tMn_le v i z k
    rw [tMn] at h
    rw [tMd]
    by_cases c : v (4 + 14 * i + 2 * (k : Int)) < z
    · rw [if_pos c] at h ⊢; exact ih (by omega)
    · rw [if_neg c] at h ⊢
      rw [rc_u_n _ _ (by omega), rc_u_n _ _ (by omega)]; exact ih (by omega)
theorem m_mend {G : rc_G} {m : Nat} {I : rc_M} {v : rv} {i z : Int} {post : Int → rc_M → Prop} (hi : 0 ≤ i ∧ i < 10) (hz : rc_R z) (w : wL v i)
    (h : post (v (2 + 14 * i) - tMn v i z (v (2 + 14 * i)).toNat) (rc_w I (m + 1) (rc_u (tMd v i z (v (2 + 14 * i)).toNat) (2 + 14 * i) (tMn v i z (v (2 + 14 * i)).toNat)))) :
    ∃ n, rX8_mend_41 G post m i z n (v (2 + 14 * i)) 0 0 (rc_w I (m + 1) v) := by
  have w2 := w.2.1
  have e1 : (1 + 14 * i) + 1 = 2 + 14 * i := by omega
  have L : ∀ (d k : Nat), v (2 + 14 * i) - k = d → ∃ n, rX8_mend_41 G post m i z n (v (2 + 14 * i)) (tMn v i z k) k (rc_w I (m + 1) (tMd v i z k)) := by
    intro d
    induction d with
    | zero =>
      intro k hd
      refine ⟨1, ?_⟩
      show wX8_mend_41 G post m i z (rX8_mend_41 G post m i z 0) (v (2 + 14 * i)) (tMn v i z k) k (rc_w I (m + 1) (tMd v i z k))
      unfold wX8_mend_41 wX8_at
      simp only [e1]
      rw [show (v (2 + 14 * i)).toNat = k by omega] at h
      refine ⟨by unfold rc_R; omega, by unfold rc_R; omega, fun _ => ⟨by omega, fun I18 e18 => ?_⟩, fun q => absurd q (by omega)⟩
      rw [pS] at e18
      rw [e18]; exact h
    | succ d ih =>
      intro k hd
      obtain ⟨n, hn⟩ := ih (k + 1) (by omega)
      refine ⟨n + 1, ?_⟩
      show wX8_mend_41 G post m i z (rX8_mend_41 G post m i z n) (v (2 + 14 * i)) (tMn v i z k) k (rc_w I (m + 1) (tMd v i z k))
      have b := tMn_le v i z k
      have st := (w.2.2.1 k (by omega) (by omega)).2
      have g4 : tMd v i z k (4 + 14 * i + 2 * (k : Int)) = v (4 + 14 * i + 2 * (k : Int)) := tMd_far v i z k _ (by omega)
      have g3 : tMd v i z k (3 + 14 * i + 2 * (k : Int)) = v (3 + 14 * i + 2 * (k : Int)) := tMd_far v i z k _ (by omega)
      have e4 : (1 + 14 * i) + (3 + 2 * (k : Int)) = 4 + 14 * i + 2 * (k : Int) := by omega
      have e3 : (1 + 14 * i) + (2 + 2 * (k : Int)) = 3 + 14 * i + 2 * (k : Int) := by omega
      have d4 : (1 + 14 * i) + (3 + 2 * tMn v i z k) = 4 + 14 * i + 2 * tMn v i z k := by omega
      have d3 : (1 + 14 * i) + (2 + 2 * tMn v i z k) = 3 + 14 * i + 2 * tMn v i z k := by omega
      unfold wX8_mend_41 wX8_mend_129 wX8_at
      simp only [rc_w_s, e3, e4, d3, d4, g3, g4]
      rw [tMn, tMd, show (((k + 1 : Nat)) : Int) = (k : Int) + 1 by omega] at hn
      refine ⟨by unfold rc_R; omega, by unfold rc_R; omega, fun q => absurd q (by omega), fun _ => ⟨by omega, by unfold rc_R; omega, hz, fun c => ?_, fun c => ⟨by omega, by omega, fun I31 e31 => ⟨by omega, by omega, fun I38 e38 => ?_⟩⟩⟩⟩
      · rw [if_pos c, if_pos c, Int.add_zero] at hn; exact hn
      · rw [if_neg c, if_neg c] at hn
        rw [pS] at e31
        rw [e31, rc_w_s, rc_u_n _ _ (show 4 + 14 * i + 2 * (k : Int) ≠ 3 + 14 * i + 2 * tMn v i z k by omega), g4, pS] at e38
        rw [e38]; exact hn
  exact L (v (2 + 14 * i)).toNat 0 (by omega)
