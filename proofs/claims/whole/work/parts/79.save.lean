/-! ===== pure part: a slot filled ===== -/
theorem rs_in {I : rc_M} {z b : Nat} {g : Nat → Int → Int} (h : b < z) : rs_ini I z g b = I b := by unfold rs_ini; rw [if_pos h]
theorem k4_40 {G : rc_G} {r : Nat} (k : kX4 G r) : r + 40 ∈ rc_L G := k.2.2.2.2.2.1.1
/-- the reference's part of save -/
theorem m_save {G : rc_G} {m : Nat} {J : rc_M} {n : Int} {post : Int → rc_M → Prop} (hn : n = 0 ∨ n = 1)
    (h : ∀ K : rc_M, (∀ b : Nat, b ≠ m + 3 → b ≠ m + 4 → K b = J b) → (∀ j : Int, 0 ≤ j → j < 199 → K (m + 3) (199 * n + j) = J (m + 1) j) → (∀ j : Int, (j < 199 * n ∨ 199 * n + 199 ≤ j) → K (m + 3) j = J (m + 3) j) → K (m + 4) n = 1 → (∀ j : Int, j ≠ n → K (m + 4) j = J (m + 4) j) → post (J (m + 1) 0) K) : wX8_save G m n J post := by
  unfold wX8_save
  refine m_in (by unfold rc_R; omega) (by unfold rc_R; omega) (by unfold rc_R; omega) ?_
  rw [if_pos (by omega)]
  refine ⟨by unfold rc_R; omega, fun _ => ?_, fun q => absurd q (by decide)⟩
  have L : ∀ (d : Nat) (y : Int) (K : rc_M), 0 ≤ y → 199 - y = d → (∀ b : Nat, b ≠ m + 3 → K b = J b) → (∀ j : Int, 0 ≤ j → j < y → K (m + 3) (199 * n + j) = J (m + 1) j) → (∀ j : Int, (j < 199 * n ∨ 199 * n + y ≤ j) → K (m + 3) j = J (m + 3) j) → rX8_save_14 G post m n (d + 1) y K := by
    intro d
    induction d with
    | zero =>
      intro y K y0 hd f1 f2 f3
      show wX8_save_14 G post m n (rX8_save_14 G post m n 0) y K
      unfold wX8_save_14
      have e : y = 199 := by omega
      subst e
      refine ⟨by unfold rc_R; omega, fun _ => ⟨by omega, fun I8 e8 => ?_⟩, fun q => absurd q (by omega)⟩
      have a : I8 (m + 1) 0 = J (m + 1) 0 := by rw [e8, qs_n _ _ _ (by omega), f1 _ (by omega)]
      rw [a]
      exact h I8 (fun b b1 b2 => by rw [e8, qs_n _ _ _ b2]; exact f1 b b1) (fun j j0 j1 => by rw [e8, qs_n _ _ _ (by omega)]; exact f2 j j0 j1) (fun j hj => by rw [e8, qs_n _ _ _ (by omega)]; exact f3 j hj) (by rw [e8, qs_s, rc_u_s]) (fun j hj => by rw [e8, qs_s, rc_u_n _ _ hj, f1 _ (by omega)])
    | succ d ih =>
      intro y K y0 hd f1 f2 f3
      show wX8_save_14 G post m n (rX8_save_14 G post m n (d + 1)) y K
      unfold wX8_save_14
      refine ⟨by unfold rc_R; omega, fun q => absurd q (by omega), fun _ => ⟨by omega, by omega, fun I11 e11 => ?_⟩⟩
      rw [f1 (m + 1) (by omega)] at e11
      refine ih (y + 1) I11 (by omega) (by omega) (fun b hb => by rw [e11, qs_n _ _ _ hb]; exact f1 b hb) (fun j j0 j1 => ?_) (fun j hj => ?_)
      · rw [e11, qs_s, rc_ue]
        by_cases c : j = y
        · rw [if_pos (by omega), c]
        · rw [if_neg (by omega)]; exact f2 j j0 (by omega)
      · rw [e11, qs_s, rc_u_n _ _ (by omega)]; exact f3 j (by omega)
  exact ⟨200, L 199 0 J (by omega) (by omega) (fun _ _ => rfl) (fun j j0 j1 => absurd j1 (by omega)) (fun _ _ => rfl)⟩
