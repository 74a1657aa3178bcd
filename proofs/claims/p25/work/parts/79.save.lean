/-! ===== pure part: a slot filled ===== -/
theorem rs_in {I : rc_M} {z b : Nat} {g : Nat → Int → Int} (h : b < z) : rs_ini I z g b = I b := by unfold rs_ini; rw [if_pos h]
theorem k4_40 {G : rc_G} {r : Nat} (k : kX4 G r) : r + 40 ∈ rc_L G := k.2.2.2.2.2.1.1
