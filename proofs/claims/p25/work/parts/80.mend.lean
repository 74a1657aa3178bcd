/-! ===== pure part: a reel mended ===== -/
/-- how many of the first k splices stay -/
def tMn (v : rv) (i z : Int) : Nat → Int
  | 0 => 0
  | k + 1 => tMn v i z k + (if v (4 + 14 * i + 2 * (k : Int)) < z then 0 else 1)
/-- the row after the first k splices -/
def tMd (v : rv) (i z : Int) : Nat → rv
  | 0 => v
  | k + 1 => if v (4 + 14 * i + 2 * (k : Int)) < z then tMd v i z k else rc_u (rc_u (tMd v i z k) (3 + 14 * i + 2 * tMn v i z k) (v (3 + 14 * i + 2 * (k : Int)))) (4 + 14 * i + 2 * tMn v i z k) (v (4 + 14 * i + 2 * (k : Int)))
theorem tMn_le (v : rv) (i z : Int) (k : Nat) : 0 ≤ tMn v i z k ∧ tMn v i z k ≤ k := by
  induction k with
  | zero => exact ⟨by simp [tMn], by simp [tMn]⟩
  | succ k ih =>
    rw [tMn]
    by_cases c : v (4 + 14 * i + 2 * (k : Int)) < z
    · rw [if_pos c]; omega
    · rw [if_neg c]; omega
theorem tMd_far (v : rv) (i z : Int) (k : Nat) (j : Int) (h : j < 3 + 14 * i ∨ 3 + 14 * i + 2 * tMn v i z k ≤ j) : tMd v i z k j = v j := by
  induction k with
  | zero => rfl
  | succ k ih =>
    have b := tMn_le v i z k
    rw [tMn] at h
    rw [tMd]
    by_cases c : v (4 + 14 * i + 2 * (k : Int)) < z
    · rw [if_pos c] at h ⊢; exact ih (by omega)
    · rw [if_neg c] at h ⊢
      rw [rc_u_n _ _ (by omega), rc_u_n _ _ (by omega)]; exact ih (by omega)
