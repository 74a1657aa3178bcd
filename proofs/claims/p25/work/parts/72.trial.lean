/-! ===== pure part: the trial room, slots ===== -/
theorem qw_i {I : rc_M} {a : Nat} {f : Int → Int} (h : I a = f) : rc_w I a f = I := by rw [← h]; exact rc_w_id _ _
def tCp (a b : rv) (x : Int) : rv := fun j => if 0 ≤ j ∧ j < x then a j else b j
theorem tCp_u (a b : rv) {x : Int} (h : 0 ≤ x) : rc_u (tCp a b x) x (a x) = tCp a b (x + 1) := by
  funext j
  unfold rc_u tCp
  by_cases e : j = x
  · subst e; rw [if_pos rfl, if_pos (by omega)]
  · rw [if_neg e]
    by_cases c : 0 ≤ j ∧ j < x
    · rw [if_pos c, if_pos (by omega)]
    · rw [if_neg c, if_neg (by omega)]
theorem tCp_0 (a b : rv) : tCp a b 0 = b := by funext j; unfold tCp; rw [if_neg (by omega)]
/-- what a show on trial has come to -/
def tFore (v : rv) (a : Int) : Int := if v 163 = 0 then -100005 else if a = 0 then v 164 else v (165 + a)
theorem x_foretold {G : rc_G} {x : Nat} {J : rc_M} {u : rv} {a : Int} {post : Int → rc_M → Prop} (E : eA J (x + 42) u) (hh : wH u) (h162 : u 163 = 0 → u 162 = 1) (ha : 0 ≤ a ∧ a ≤ 4) (h : post (tFore u a) J) : wX7_foretold G x a J post := by
  obtain ⟨c0, c1, c2, c3, c4, c5, c7, c8, c9⟩ := E.2.1
  unfold wX7_foretold
  rw [c0, c1, c2, c3, c4, c5]
  unfold tFore at h
  by_cases z : u 163 = 0
  · rw [if_pos z] at h
    rw [if_pos ⟨h162 z, z⟩]
    exact ⟨by unfold rc_R; omega, fun q => absurd q (by decide), fun _ => h⟩
  · rw [if_neg z] at h
    rw [if_neg (fun q => z q.2)]
    refine ⟨rc_R0, fun _ => ⟨by unfold rc_R; omega, fun c => ?_, fun c => ?_, fun c => ?_, fun c => ?_, fun c => ?_⟩, fun q => absurd rfl q⟩
    · subst c; simpa using h
    · subst c; simpa using h
    · subst c; simpa using h
    · subst c; simpa using h
    · have : a = 4 := by omega
      subst this; simpa using h
