/-! ===== pure part: the checksum, the reference's part and the call ===== -/
theorem m_fore_c {v u : rv} (s : wS v) (hh : wH v) (k : v 163 = 0 → wK 0 v) (h : ∀ j : Int, 0 ≤ j → j < 199 → u j = v j) : wS u ∧ wH u ∧ (u 163 = 0 → wK 0 u) :=
  ⟨wS_lo (fun j j0 j1 => h j j0 (by omega)) s, wH_c2 (fun j j0 j1 => h j (by omega) j1) hh, fun a => wK_c hh.2.2.2.2.2.2.1 (fun j j0 j1 => h j (by omega) j1) (k (by rw [← h 163 (by decide) (by decide)]; exact a))⟩
