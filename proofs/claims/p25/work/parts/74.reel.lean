/-! ===== pure part: reels made and told ===== -/
def tWk (v : rv) (i : Int) : Nat → Int
  | 0 => -100005
  | k + 1 => if tWk v i k = -100005 then v (4 + 14 * i + 2 * (k : Int)) else if tWk v i k ≤ v (4 + 14 * i + 2 * (k : Int)) then tWk v i k else v (4 + 14 * i + 2 * (k : Int))
theorem tWk_R {v : rv} {i : Int} (w : wL v i) (k : Nat) (hk : (k : Int) ≤ v (2 + 14 * i)) : tWk v i k = -100005 ∨ (0 ≤ tWk v i k ∧ tWk v i k ≤ 9) := by
  induction k with
  | zero => exact Or.inl rfl
  | succ k ih =>
    have b := (w.2.2.1 k (by omega) (by omega)).2
    have a := ih (by omega)
    rw [tWk]
    by_cases c : tWk v i k = -100005
    · rw [if_pos c]; exact Or.inr b
    · rw [if_neg c]
      by_cases d : tWk v i k ≤ v (4 + 14 * i + 2 * (k : Int))
      · rw [if_pos d]; exact a
      · rw [if_neg d]; exact Or.inr b
theorem x_least {G : rc_G} {q : Nat} {I : rc_M} {v : rv} {i : Int} {post : Int → rc_M → Prop} (e : eL I q v i) (w : wL v i) (h : post (tWk v i (v (2 + 14 * i)).toNat) I) : wX3_leastStrength G q I post := by
  obtain ⟨e1, e2, e3⟩ := e
  have w2 := w.2.1
  have L : ∀ (d k : Nat), v (2 + 14 * i) - k = d → ∃ n, rX3_leastStrength_5 G post q n (tWk v i k) k I := by
    intro d
    induction d with
    | zero =>
      intro k hd
      refine ⟨1, ?_⟩
      show wX3_leastStrength_5 G post q _ (tWk v i k) k I
      unfold wX3_leastStrength_5
      rw [e2]
      rw [show (v (2 + 14 * i)).toNat = k by omega] at h
      exact ⟨by unfold rc_R; omega, by unfold rc_R; omega, fun _ => h, fun y => absurd y (by omega)⟩
    | succ d ih =>
      intro k hd
      obtain ⟨n, hn⟩ := ih (k + 1) (by omega)
      refine ⟨n + 1, ?_⟩
      show wX3_leastStrength_5 G post q (rX3_leastStrength_5 G post q n) (tWk v i k) k I
      have s := (e3 k (by omega) (by omega)).2
      have b := (w.2.2.1 k (by omega) (by omega)).2
      have R := tWk_R w k (by omega)
      unfold wX3_leastStrength_5 wX3_leastStrength_35 wX3_leastStrength_42
      rw [e2, s]
      rw [tWk, show (((k + 1 : Nat)) : Int) = (k : Int) + 1 by omega] at hn
      refine ⟨by unfold rc_R; omega, by unfold rc_R; omega, fun y => absurd y (by omega), fun _ => ⟨by unfold rc_R; omega, fun y => absurd y (by omega), fun _ => ⟨by unfold rc_R; omega, fun c => ⟨by omega, ?_⟩, fun c => ⟨by omega, by unfold rc_R; omega, by unfold rc_R; omega, fun d => ?_, fun d => ⟨by omega, ?_⟩⟩⟩⟩⟩
      · rw [if_pos c] at hn; exact hn
      · rw [if_neg c, if_pos d] at hn; exact hn
      · rw [if_neg c, if_neg d] at hn; exact hn
  exact L (v (2 + 14 * i)).toNat 0 (by omega)
