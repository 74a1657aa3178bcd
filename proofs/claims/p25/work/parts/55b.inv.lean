theorem inv_fin {v u : rv} (s : wS v) (hh : wH v) (k : wK 0 v) (n0 : 0 ≤ v 172) (hs : wS u) (h2 : u 172 = -1) (ho : ∀ j : Int, 149 ≤ j → j ≠ 170 → j ≠ 172 → j ≠ 173 → j ≠ 191 + 4 * (v 172 / 3) → j ≠ 192 + 4 * (v 172 / 3) → j ≠ 193 + 4 * (v 172 / 3) → u j = v j)
    (h0 : v 172 % 3 = 0 → u (191 + 4 * (v 172 / 3)) = 0 ∧ u (192 + 4 * (v 172 / 3)) = v (192 + 4 * (v 172 / 3)) ∧ u 170 = v 170)
    (h1 : v 172 % 3 = 1 → u (191 + 4 * (v 172 / 3)) = 1 ∧ u (192 + 4 * (v 172 / 3)) = v 170 ∧ u 170 = v 170 + 1)
    (h3 : v 172 % 3 = 2 → u (191 + 4 * (v 172 / 3)) = 3 ∧ u (192 + 4 * (v 172 / 3)) = v (192 + 4 * (v 172 / 3)) ∧ u 170 = v 170 ∧ 0 ≤ u (193 + 4 * (v 172 / 3)) ∧ u (193 + 4 * (v 172 / 3)) ≤ 3000) : wS u ∧ wH u ∧ wK 0 u := by
  obtain ⟨q162, q163, q165, q171, q172, q173, q174, qrow, q191, q195⟩ := id hh
  obtain ⟨k170, kP0, kP1, kQ⟩ := id k
  have c0 : wE v 0 = v 172 := rfl
  have u149 := ho 149 (by omega) (by omega) (by omega) (by omega) (by omega) (by omega) (by omega)
  have u162 := ho 162 (by omega) (by omega) (by omega) (by omega) (by omega) (by omega) (by omega)
  have u163 := ho 163 (by omega) (by omega) (by omega) (by omega) (by omega) (by omega) (by omega)
  have u165 := ho 165 (by omega) (by omega) (by omega) (by omega) (by omega) (by omega) (by omega)
  have u171 := ho 171 (by omega) (by omega) (by omega) (by omega) (by omega) (by omega) (by omega)
  have u174 := ho 174 (by omega) (by omega) (by omega) (by omega) (by omega) (by omega) (by omega)
  have urow : ∀ k : Int, 0 ≤ k → k < v 174 → u (175 + k) = v (175 + k) := fun k k0 k1 => ho _ (by omega) (by omega) (by omega) (by omega) (by omega) (by omega) (by omega)
  have Q : wQ u := by
    refine wQ_fin hh kQ n0 h2 u174 urow (fun p hp np => ho _ (by omega) (by omega) (by omega) (by omega) (by omega) (by omega) (by omega)) (fun q => (h0 q).1) ?_ u149
    rcases (show v 172 % 3 = 0 ∨ v 172 % 3 = 1 ∨ v 172 % 3 = 2 by omega) with r | r | r
    · rw [if_neg (by omega), (h0 r).2.2]; omega
    · rw [if_pos r]; exact (h1 r).2.2
    · rw [if_neg (by omega), (h3 r).2.2.1]; omega
  have row : ∀ k : Int, 0 ≤ k → k < u 174 → 0 ≤ u (175 + k) ∧ u (175 + k) ≤ 5 := fun k k0 k1 => by
    rw [u174] at k1; rw [urow k k0 k1]; exact qrow k k0 k1
  have kP : ∀ p : Int, p = 0 ∨ p = 1 → wP 0 v p := fun p hp => by rcases hp with rfl | rfl <;> assumption
  have kB : ∀ p : Int, p = 0 ∨ p = 1 → 0 ≤ v (191 + 4 * p) ∧ v (191 + 4 * p) ≤ 5 := fun p hp => by rcases hp with rfl | rfl <;> assumption
  have hp : v 172 / 3 = 0 ∨ v 172 / 3 = 1 := by omega
  obtain ⟨p, ep⟩ : ∃ p, p = v 172 / 3 := ⟨_, rfl⟩
  rw [← ep] at h0 h1 h3 ho hp
  have o0 := kQ.2.1 0 p (by omega) (by omega) hp
  rw [c0] at o0
  have t := kQ.2.2
  have t0 := tCnt_le v (v 174).toNat
  have tt : v 172 % 3 = 1 → v 170 + 1 ≤ v 149 := fun q => by
    unfold tThr at t; rw [if_pos ⟨n0, q⟩] at t; omega
  have P := kP p hp
  have O := kP (1 - p) (by omega)
  have B := kB (1 - p) (by omega)
  have e1 : 1 - (1 - p) = p := by omega
  have v1 := ho (191 + 4 * (1 - p)) (by omega) (by omega) (by omega) (by omega) (by omega) (by omega) (by omega)
  have v2 := ho (192 + 4 * (1 - p)) (by omega) (by omega) (by omega) (by omega) (by omega) (by omega) (by omega)
  have v3 := ho (193 + 4 * (1 - p)) (by omega) (by omega) (by omega) (by omega) (by omega) (by omega) (by omega)
  have v4 := ho (194 + 4 * (1 - p)) (by omega) (by omega) (by omega) (by omega) (by omega) (by omega) (by omega)
  suffices A : (0 ≤ u (191 + 4 * p) ∧ u (191 + 4 * p) ≤ 5) ∧ (1 ≤ u 170 ∧ u 170 ≤ u 149) ∧ wP 0 u p ∧ v (191 + 4 * p) ≠ 3 by
    have A1 : wP 0 u (1 - p) := wP_oth O u149 u165 u171 v1 v2 v3 v4 (fun _ _ q => by rw [e1] at q; exact A.2.2.2 q)
    have A2 := wP_both hp A.2.2.1 A1
    have A3 := wB_both (u := u) hp A.1 (by rw [v1]; exact B)
    exact ⟨hs, ⟨by rw [u162]; exact q162, by rw [u163]; exact q163, by rw [u165]; exact q165, by rw [u171]; exact q171, by omega, fun q => by omega, by omega, row, A3.1, A3.2⟩, ⟨A.2.1.1, A.2.1.2, by rw [u162]; exact k170.2.2⟩, A2.1, A2.2, Q⟩
  rcases (show v 172 % 3 = 0 ∨ v 172 % 3 = 1 ∨ v 172 % 3 = 2 by omega) with r | r | r
  · have a := h0 r
    have b := o0.1 (by omega)
    have d := P.1 (Or.inl (by omega))
    exact ⟨by omega, by omega, wP_idle (Or.inl a.1) (by rw [a.2.1, u149]; exact d), by omega⟩
  · have a := h1 r
    have b : v (191 + 4 * p) = 0 := by
      rcases o0.2.2 (by omega) with z | ⟨_, i, i0, i1, _⟩
      · exact z
      · omega
    have tt' := tt r
    exact ⟨by omega, by omega, wP_idle (Or.inr (Or.inl a.1)) (by rw [a.2.1, u149]; omega), by omega⟩
  · have a := h3 r
    have b := o0.2.1 (by omega)
    have d := P.1 (Or.inl (by omega))
    have x := P.2.1 (Or.inr b)
    exact ⟨by omega, by omega, wP_show a.1 (by rw [a.2.1, u149]; exact d) (by rw [u165]; exact x.1) (by rw [u171]; exact x.2) (by omega), by omega⟩
