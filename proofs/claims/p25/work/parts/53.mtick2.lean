/-! ===== pure part: a tick of the reference, its other steps ===== -/
theorem tGo1_n {v : rv} {p : Int} {j : Int} (h : j ≠ 193 + 4 * p) : tGo1 v p j = v j := by
  unfold tGo1; by_cases c : v (191 + 4 * p) = 2 ∨ v (191 + 4 * p) = 3
  · rw [if_pos c, rc_u_n _ _ h]
  · rw [if_neg c]
def tIn (w : rv) (x : Int) : rv := fun j => if 175 + x < j ∧ j ≤ 175 + w 174 then w (j - 1) else w j
theorem tIn_u (w : rv) {x : Int} (h : 0 < x ∧ x ≤ w 174) : rc_u (tIn w x) (175 + x) (tIn w x ((175 + x) - 1)) = tIn w (x - 1) := by
  funext j
  unfold rc_u tIn
  by_cases e : j = 175 + x
  · subst e
    rw [if_pos rfl, if_neg (by omega), if_pos (by omega)]
  · rw [if_neg e]
    by_cases c : 175 + x < j ∧ j ≤ 175 + w 174
    · rw [if_pos c, if_pos (by omega)]
    · rw [if_neg c, if_neg (by omega)]
theorem tIn_n (w : rv) {x j : Int} (h : j ≤ 175 + x) : tIn w x j = w j := by unfold tIn; rw [if_neg (by omega)]
theorem tIn_m (w : rv) {x j : Int} (h : 175 + w 174 < j) : tIn w x j = w j := by unfold tIn; rw [if_neg (by omega)]
theorem tAdd_n {v : rv} {c j : Int} (h : j ≠ 175 + v 174) (h2 : j ≠ 174) : tAdd v c j = v j := by unfold tAdd; rw [rc_u_n _ _ h2, rc_u_n _ _ h]
theorem tAdd_s (v : rv) (c : Int) : tAdd v c 174 = v 174 + 1 := by unfold tAdd; rw [rc_u_s]
theorem tCnt_le (v : rv) (n : Nat) : 0 ≤ tCnt v n ∧ tCnt v n ≤ n := by
  induction n with
  | zero => exact ⟨by simp [tCnt], by simp [tCnt]⟩
  | succ n ih =>
    rw [tCnt]
    by_cases c : v (175 + (n : Int)) % 3 = 1
    · rw [if_pos c]; omega
    · rw [if_neg c]; omega
theorem tThr_le (v : rv) (h : 0 ≤ v 174 ∧ v 174 ≤ 8) : 0 ≤ tThr v ∧ tThr v ≤ 100 := by
  have := tCnt_le v (v 174).toNat
  unfold tThr
  by_cases c : 0 ≤ v 172 ∧ v 172 % 3 = 1
  · rw [if_pos c]; omega
  · rw [if_neg c]; omega
