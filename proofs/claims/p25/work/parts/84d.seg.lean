/-! ===== pure part: a text without a fault is told the same both ways ===== -/
def gW (rc : Int) (w : List Int) : Prop := ∀ j : Nat, j < w.length → 0 ≤ w.getD j 0 ∧ w.getD j 0 < rc
theorem gW_0 (rc : Int) : gW rc [] := fun j hj => absurd hj (by simp)
theorem gW_app {rc : Int} {u w : List Int} (h1 : gW rc u) (h2 : gW rc w) : gW rc (u ++ w) := fun j hj => by
  rw [List.length_append] at hj
  by_cases c : j < u.length
  · rw [gD_l _ _ c]; exact h1 j c
  · rw [gD_r _ _ (by omega)]; exact h2 (j - u.length) (by omega)
theorem gW_rp {rc : Int} {u : List Int} (h : gW rc u) (k : Nat) : gW rc (rp u k) := by
  induction k with
  | zero => exact gW_0 rc
  | succ k ih => rw [rp]; exact gW_app h ih
theorem fA_i {T : Int → Int} {n rc i dep sta : Int} (hi : i < n) (h : fA T rc (n - i).toNat i dep sta) : fS rc dep sta (T i) ≠ -100005 ∧ fA T rc (n - (i + 1)).toNat (i + 1) (dep + fD (T i)) (fS rc dep sta (T i)) := by
  rw [show (n - i).toNat = (n - (i + 1)).toNat + 1 by omega, fA] at h
  exact h
