/-! ===== pure part: a tick of the reference ===== -/
theorem wL_lo {v u : rv} {i : Int} (hi : 0 ≤ i ∧ i < 10) (h : ∀ j : Int, 0 ≤ j → j < 141 → u j = v j) (w : wL v i) : wL u i := by
  obtain ⟨a, b, c, d⟩ := w
  have e1 := h (1 + 14 * i) (by omega) (by omega)
  have e2 := h (2 + 14 * i) (by omega) (by omega)
  refine ⟨by rw [e1]; exact a, by rw [e2]; exact b, fun k k0 k1 => ?_, fun j k j0 j1 j2 => ?_⟩
  · rw [e2] at k1
    rw [e1, h (3 + 14 * i + 2 * k) (by omega) (by omega), h (4 + 14 * i + 2 * k) (by omega) (by omega)]; exact c k k0 k1
  · rw [e2] at j2
    rw [h (3 + 14 * i + 2 * j) (by omega) (by omega), h (3 + 14 * i + 2 * k) (by omega) (by omega)]; exact d j k j0 j1 j2
theorem tK_lo {v u : rv} {i fr : Int} (hi : 0 ≤ i ∧ i < 10) (h : ∀ j : Int, 0 ≤ j → j < 141 → u j = v j) (w : wL v i) : tK u i fr = tK v i fr := by
  have e2 := h (2 + 14 * i) (by omega) (by omega)
  have w2 := w.2.1
  rcases tK_spec v i fr with ⟨a, b, c⟩ | ⟨a, b⟩
  · exact tK_eq (wL_lo hi h w) a (by rw [e2]; exact b) (by rw [h _ (by omega) (by omega)]; exact c)
  · rw [a]; refine tK_no (fun k k0 k1 => ?_)
    rw [e2] at k1
    rw [h _ (by omega) (by omega)]; exact b k k0 k1
theorem wS_R {v : rv} {p : Int} (s : wS v) (h : 0 ≤ v (192 + 4 * p) ∧ v (192 + 4 * p) < v 149) :
    (0 ≤ v (192 + 4 * p) ∧ v (192 + 4 * p) < 12) ∧ (0 ≤ tR v p ∧ tR v p < 10) ∧ tR v p < v 0 ∧ wL v (tR v p) := by
  have a := s.2.2.1 _ h.1 h.2
  have b := s.1
  have c := s.2.1
  refine ⟨⟨h.1, by omega⟩, ⟨a.1, ?_⟩, a.2, s.2.2.2.2 _ a.1 a.2⟩
  unfold tR; omega
theorem tRep_lo {v : rv} {p : Int} (hp : p = 0 ∨ p = 1) (j : Int) (h : j < 191) : tRep v p j = v j := by
  unfold tRep; rw [rc_u_n _ _ (by omega), rc_u_n _ _ (by omega)]
def tSh (w : rv) (x : Int) : rv := fun j => if 175 ≤ j ∧ j < 175 + x then w (j + 1) else w j
theorem tSh_u (w : rv) {x : Int} (h : 0 ≤ x) : rc_u (tSh w x) (175 + x) (tSh w x ((175 + x) + 1)) = tSh w (x + 1) := by
  funext j
  unfold rc_u tSh
  by_cases e : j = 175 + x
  · subst e
    rw [if_pos rfl, if_neg (by omega), if_pos (by omega)]
  · rw [if_neg e]
    by_cases c : 175 ≤ j ∧ j < 175 + x
    · rw [if_pos c, if_pos (by omega)]
    · rw [if_neg c, if_neg (by omega)]
theorem tSh_0 (w : rv) : tSh w 0 = w := by
  funext j; unfold tSh; rw [if_neg (by omega)]
theorem tSh_n (w : rv) (x : Int) {j : Int} (h : j < 175) : tSh w x j = w j := by unfold tSh; rw [if_neg (by omega)]
theorem tSh_n2 (w : rv) (x : Int) {j : Int} (h : 175 + x ≤ j) : tSh w x j = w j := by unfold tSh; rw [if_neg (by omega)]
