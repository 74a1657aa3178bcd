/-! ===== pure part: where a text has its fault, the reference's turns ===== -/
def jO (I : rc_M) (m : Nat) (i dep fl : Int) : rc_M := rc_s (rc_s (rc_s I m 10 dep) (m + 9) dep fl) m 9 i
theorem jO_9 (I : rc_M) (m : Nat) (i dep fl : Int) : jO I m i dep fl m 9 = i := by unfold jO; rw [qs_s, rc_u_s]
theorem jO_10 (I : rc_M) (m : Nat) (i dep fl : Int) : jO I m i dep fl m 10 = dep := by unfold jO; rw [qs_s, rc_u_n _ _ (by decide), qs_n _ _ _ (by omega), qs_s, rc_u_s]
theorem jO_8 (I : rc_M) (m : Nat) (i dep fl : Int) : jO I m i dep fl m 8 = I m 8 := by unfold jO; rw [qs_s, rc_u_n _ _ (by decide), qs_n _ _ _ (by omega), qs_s, rc_u_n _ _ (by decide)]
theorem jO_f (I : rc_M) (m : Nat) (i dep fl : Int) : jO I m i dep fl (m + 9) dep = fl := by unfold jO; rw [qs_n _ _ _ (by omega), qs_s, rc_u_s]
theorem jO_far (I : rc_M) (m : Nat) (i dep fl : Int) (a : Nat) (h1 : a ≠ m) (h2 : a ≠ m + 9) : jO I m i dep fl a = I a := by unfold jO; rw [qs_n _ _ _ h1, qs_n _ _ _ h2, qs_n _ _ _ h1]
section PM
variable {T : Int → Int} {n rc i dep fil pos dp : Int}
end PM
