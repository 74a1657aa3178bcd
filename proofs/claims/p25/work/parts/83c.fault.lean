/-! ===== pure part: both ways over a text come to the same fault ===== -/
/-- the letters from i on go through, i.e. the text has no fault -/
def fA (T : Int → Int) (rc : Int) : Nat → Int → Int → Int → Prop
  | 0, _, dep, sta => dep = 0 ∧ (sta = 1 ∨ sta = 2)
  | d + 1, i, dep, sta => fS rc dep sta (T i) ≠ -100005 ∧ fA T rc d (i + 1) (dep + fD (T i)) (fS rc dep sta (T i))
theorem fA_s {T : Int → Int} {n rc i dep sta s : Int} (hi : i < n) (e : fS rc dep sta (T i) = s) (ne : s ≠ -100005) (h : fA T rc (n - (i + 1)).toNat (i + 1) (dep + fD (T i)) s) : fA T rc (n - i).toNat i dep sta := by
  rw [show (n - i).toNat = (n - (i + 1)).toNat + 1 by omega, fA, e]
  exact ⟨ne, h⟩
theorem fS_3 {rc dep c : Int} (h : 50 ≤ c ∧ c ≤ 57) : fS rc dep 3 c = 1 := by unfold fS; rw [if_pos rfl, if_pos h]
theorem fS_3n {rc dep c : Int} (h : ¬ (50 ≤ c ∧ c ≤ 57)) : fS rc dep 3 c = -100005 := by unfold fS; rw [if_pos rfl, if_neg h]
theorem fS_dig {rc dep sta c : Int} (s : sta ≠ 3) (r : rc ≤ 10) (h : 0 ≤ c - 48 ∧ c - 48 < rc) : fS rc dep sta c = 1 := by unfold fS; rw [if_neg s, if_pos (by omega), if_pos h.2]
theorem fS_op {rc dep sta c : Int} (s : sta ≠ 3) (h : c = 40) (d : dep < 3) : fS rc dep sta c = 0 := by unfold fS; rw [if_neg s, if_neg (by omega), if_pos h, if_pos d]
theorem fS_opn {rc dep sta c : Int} (s : sta ≠ 3) (h : c = 40) (d : ¬ dep < 3) : fS rc dep sta c = -100005 := by unfold fS; rw [if_neg s, if_neg (by omega), if_pos h, if_neg d]
theorem fS_cl {rc dep sta c : Int} (s : sta ≠ 3) (h : c = 41) (d : 0 < dep ∧ sta ≠ 0) : fS rc dep sta c = 2 := by unfold fS; rw [if_neg s, if_neg (by omega), if_neg (by omega), if_pos h, if_pos d]
theorem fS_cln {rc dep sta c : Int} (s : sta ≠ 3) (h : c = 41) (d : ¬ (0 < dep ∧ sta ≠ 0)) : fS rc dep sta c = -100005 := by unfold fS; rw [if_neg s, if_neg (by omega), if_neg (by omega), if_pos h, if_neg d]
theorem fS_x {rc dep c : Int} (h : c = 120) : fS rc dep 2 c = 3 := by unfold fS; rw [if_neg (by decide), if_neg (by omega), if_neg (by omega), if_neg (by omega), if_pos h, if_pos rfl]
theorem fS_no {rc dep sta c : Int} (s : sta ≠ 3) (h0 : c ≠ 40) (h1 : c ≠ 41) (h : ¬ (0 ≤ c - 48 ∧ c - 48 < rc)) (x : sta = 2 → c ≠ 120) : fS rc dep sta c = -100005 := by
  unfold fS
  rw [if_neg s]
  by_cases z : 48 ≤ c ∧ c ≤ 57
  · rw [if_pos z, if_neg (by omega)]
  · rw [if_neg z, if_neg h0, if_neg h1]
    by_cases y : c = 120
    · rw [if_pos y, if_neg (fun q => x q y)]
    · rw [if_neg y]
theorem fD_op {c : Int} (h : c = 40) : fD c = 1 := by unfold fD; rw [if_pos h]
theorem fD_cl {c : Int} (h : c = 41) : fD c = -1 := by unfold fD; rw [if_neg (by omega), if_pos h]
theorem fD_no {c : Int} (h : c ≠ 40) (h1 : c ≠ 41) : fD c = 0 := by unfold fD; rw [if_neg h, if_neg h1]
