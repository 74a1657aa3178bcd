/-! ===== pure part: a splice made, the call ===== -/
theorem wL_sp {v : rv} {i k fr z : Int} (w : wL v i) (hk : 0 ≤ k ∧ k ≤ v (2 + 14 * i)) (n6 : v (2 + 14 * i) < 6) (hf : 1 ≤ fr ∧ fr < v (1 + 14 * i)) (hz : 1 ≤ z ∧ z ≤ 9) (hlt : ∀ j : Int, 0 ≤ j → j < k → v (3 + 14 * i + 2 * j) < fr) (hgt : ∀ j : Int, k ≤ j → j < v (2 + 14 * i) → fr < v (3 + 14 * i + 2 * j)) :
    wL (tSp v i k fr z) i ∧ (∀ j : Int, (j < 2 + 14 * i ∨ 15 + 14 * i ≤ j) → tSp v i k fr z j = v j) ∧ tSp v i k fr z (2 + 14 * i) = v (2 + 14 * i) + 1 ∧
    (∀ j : Int, 0 ≤ j → j < k → tSp v i k fr z (3 + 14 * i + 2 * j) = v (3 + 14 * i + 2 * j) ∧ tSp v i k fr z (4 + 14 * i + 2 * j) = v (4 + 14 * i + 2 * j)) ∧
    (tSp v i k fr z (3 + 14 * i + 2 * k) = fr ∧ tSp v i k fr z (4 + 14 * i + 2 * k) = z) ∧
    (∀ j : Int, k < j → j ≤ v (2 + 14 * i) → tSp v i k fr z (3 + 14 * i + 2 * j) = v (3 + 14 * i + 2 * (j - 1)) ∧ tSp v i k fr z (4 + 14 * i + 2 * j) = v (4 + 14 * i + 2 * (j - 1))) := by
  have w2 := w.2.1
  have uo : ∀ j : Int, (j < 2 + 14 * i ∨ 15 + 14 * i ≤ j) → tSp v i k fr z j = v j := fun j hj => by
    unfold tSp
    rw [rc_u_n _ _ (by omega), rc_u_n _ _ (by omega), rc_u_n _ _ (by omega), tMv_out (by omega)]
  have u2 : tSp v i k fr z (2 + 14 * i) = v (2 + 14 * i) + 1 := by
    unfold tSp
    rw [rc_u_n _ _ (by omega), rc_u_n _ _ (by omega), rc_u_s]
  have ul : ∀ j : Int, 0 ≤ j → j < k → tSp v i k fr z (3 + 14 * i + 2 * j) = v (3 + 14 * i + 2 * j) ∧ tSp v i k fr z (4 + 14 * i + 2 * j) = v (4 + 14 * i + 2 * j) := fun j j0 j1 => by
    unfold tSp
    rw [rc_u_n _ _ (show 3 + 14 * i + 2 * j ≠ 4 + 14 * i + 2 * k by omega), rc_u_n _ _ (show 3 + 14 * i + 2 * j ≠ 3 + 14 * i + 2 * k by omega), rc_u_n _ _ (show 3 + 14 * i + 2 * j ≠ 2 + 14 * i by omega), tMv_out (by omega), rc_u_n _ _ (show 4 + 14 * i + 2 * j ≠ 4 + 14 * i + 2 * k by omega), rc_u_n _ _ (show 4 + 14 * i + 2 * j ≠ 3 + 14 * i + 2 * k by omega), rc_u_n _ _ (show 4 + 14 * i + 2 * j ≠ 2 + 14 * i by omega), tMv_out (by omega)]
    exact ⟨rfl, rfl⟩
  have uk : tSp v i k fr z (3 + 14 * i + 2 * k) = fr ∧ tSp v i k fr z (4 + 14 * i + 2 * k) = z := by
    unfold tSp
    rw [rc_u_n _ _ (show 3 + 14 * i + 2 * k ≠ 4 + 14 * i + 2 * k by omega), rc_u_s, rc_u_s]
    exact ⟨rfl, rfl⟩
  have ur : ∀ j : Int, k < j → j ≤ v (2 + 14 * i) → tSp v i k fr z (3 + 14 * i + 2 * j) = v (3 + 14 * i + 2 * (j - 1)) ∧ tSp v i k fr z (4 + 14 * i + 2 * j) = v (4 + 14 * i + 2 * (j - 1)) := fun j j0 j1 => by
    unfold tSp
    rw [rc_u_n _ _ (show 3 + 14 * i + 2 * j ≠ 4 + 14 * i + 2 * k by omega), rc_u_n _ _ (show 3 + 14 * i + 2 * j ≠ 3 + 14 * i + 2 * k by omega), rc_u_n _ _ (show 3 + 14 * i + 2 * j ≠ 2 + 14 * i by omega), tMv_in (by omega), rc_u_n _ _ (show 4 + 14 * i + 2 * j ≠ 4 + 14 * i + 2 * k by omega), rc_u_n _ _ (show 4 + 14 * i + 2 * j ≠ 3 + 14 * i + 2 * k by omega), rc_u_n _ _ (show 4 + 14 * i + 2 * j ≠ 2 + 14 * i by omega), tMv_in (by omega)]
    exact ⟨by congr 1; omega, by congr 1; omega⟩
  refine ⟨?_, uo, u2, ul, uk, ur⟩
  have u1 := uo (1 + 14 * i) (by omega)
  generalize tSp v i k fr z = u at *
  clear uo
  obtain ⟨wa, wb, wc, wd⟩ := w
  refine ⟨by rw [u1]; exact wa, by rw [u2]; omega, fun j j0 j1 => ?_, fun a b a0 a1 b1 => ?_⟩
  · rw [u2] at j1
    rw [u1]
    rcases Int.lt_trichotomy j k with c | c | c
    · have h := ul j j0 c
      rw [h.1, h.2]; exact wc j j0 (by omega)
    · rw [c, uk.1, uk.2]; exact ⟨hf, by omega⟩
    · have h := ur j c (by omega)
      rw [h.1, h.2]; exact wc (j - 1) (by omega) (by omega)
  · rw [u2] at b1
    rcases Int.lt_trichotomy b k with c | c | c
    · rw [(ul b (by omega) c).1, (ul a a0 (by omega)).1]; exact wd a b a0 a1 (by omega)
    · rw [c, uk.1, (ul a a0 (by omega)).1]; exact hlt a a0 (by omega)
    · rw [(ur b c (by omega)).1]
      rcases Int.lt_trichotomy a k with d | d | d
      · rw [(ul a a0 d).1]; exact wd a (b - 1) a0 (by omega) (by omega)
      · rw [d, uk.1]; exact hgt (b - 1) (by omega) (by omega)
      · rw [(ur a d (by omega)).1]; exact wd (a - 1) (b - 1) (by omega) (by omega) (by omega)
