/-! ===== passes ===== -/
theorem tPass_ov {n : Nat} {v : rv} (h : v 163 ≠ 0) : tPass n v = v := by
  cases n with
  | zero => rfl
  | succ n => show (if v 163 = 0 then tPass n (tTick v) else v) = v; rw [if_neg h]
theorem tPassN_ov {n : Nat} {v : rv} (h : v 163 ≠ 0) : tPassN n v = 0 := by
  cases n with
  | zero => rfl
  | succ n => show (if v 163 = 0 then 1 + tPassN n (tTick v) else 0) = 0; rw [if_neg h]
theorem tPass_s {n : Nat} {v : rv} (h : v 163 = 0) : tPass (n + 1) v = tPass n (tTick v) := by
  show (if v 163 = 0 then tPass n (tTick v) else v) = _; rw [if_pos h]
theorem tPassN_s {n : Nat} {v : rv} (h : v 163 = 0) : tPassN (n + 1) v = 1 + tPassN n (tTick v) := by
  show (if v 163 = 0 then 1 + tPassN n (tTick v) else 0) = _; rw [if_pos h]
theorem tPass_add (n : Nat) : ∀ (m : Nat) (v : rv), tPass (m + n) v = tPass n (tPass m v) := by
  intro m
  induction m with
  | zero => intro v; rw [Nat.zero_add]; rfl
  | succ m ih =>
    intro v
    rw [show m + 1 + n = (m + n) + 1 by omega]
    by_cases h : v 163 = 0
    · rw [tPass_s h, tPass_s h]; exact ih _
    · rw [tPass_ov h, tPass_ov h, tPass_ov h]
theorem tPassN_add (n : Nat) : ∀ (m : Nat) (v : rv), tPassN (m + n) v = tPassN m v + tPassN n (tPass m v) := by
  intro m
  induction m with
  | zero => intro v; rw [Nat.zero_add]; show _ = 0 + tPassN n v; omega
  | succ m ih =>
    intro v
    rw [show m + 1 + n = (m + n) + 1 by omega]
    by_cases h : v 163 = 0
    · rw [tPassN_s h, tPassN_s h, tPass_s h, ih]; omega
    · rw [tPassN_ov h, tPassN_ov h, tPass_ov h, tPassN_ov h]; omega
theorem tPassN_le : ∀ (n : Nat) (v : rv), 0 ≤ tPassN n v ∧ tPassN n v ≤ n := by
  intro n
  induction n with
  | zero => intro v; exact ⟨Int.le_refl _, Int.le_refl _⟩
  | succ n ih =>
    intro v
    by_cases h : v 163 = 0
    · rw [tPassN_s h]; have := ih (tTick v); omega
    · rw [tPassN_ov h]; omega
theorem tPassN_run : ∀ (n : Nat) (v : rv), tPass n v 163 = 0 → tPassN n v = n := by
  intro n
  induction n with
  | zero => intro v _; rfl
  | succ n ih =>
    intro v q
    by_cases h : v 163 = 0
    · rw [tPass_s h] at q; rw [tPassN_s h]; have := ih _ q; omega
    · rw [tPass_ov h] at q; exact absurd q h
theorem tPass_N : ∀ (n : Nat) (v : rv), tPass (tPassN n v).toNat v = tPass n v := by
  intro n
  induction n with
  | zero => intro v; rfl
  | succ n ih =>
    intro v
    by_cases h : v 163 = 0
    · have a := tPassN_le n (tTick v)
      rw [tPassN_s h, show (1 + tPassN n (tTick v)).toNat = (tPassN n (tTick v)).toNat + 1 by omega, tPass_s h, tPass_s h]; exact ih _
    · rw [tPassN_ov h, tPass_ov h, tPass_ov h]
theorem tPass_mid {n j : Nat} {v : rv} (hj : (j : Int) < tPassN n v) : tPass j v 163 = 0 := by
  have a := tPassN_le n v
  rcases Int.lt_trichotomy (tPass j v 163) 0 with h | h | h
  · have b := tPassN_add (n - j) j v
    rw [tPassN_ov (n := n - j) (by omega), show j + (n - j) = n by omega] at b
    have := tPassN_le j v
    omega
  · exact h
  · have b := tPassN_add (n - j) j v
    rw [tPassN_ov (n := n - j) (by omega), show j + (n - j) = n by omega] at b
    have := tPassN_le j v
    omega
theorem n_pass : ∀ (n : Nat) {v : rv}, nS v → nS (tPass n v) ∧ cK (tPass n v) v ∧ tPass n v 164 = v 164 + tPassN n v := by
  intro n
  induction n with
  | zero => intro v h; exact ⟨h, fun _ _ => rfl, (Int.add_zero _).symm⟩
  | succ n ih =>
    intro v h
    by_cases z : v 163 = 0
    · obtain ⟨a, b, c, _⟩ := n_tick h z
      obtain ⟨a2, b2, c2⟩ := ih a
      rw [tPass_s z, tPassN_s z]
      exact ⟨a2, cK_t b2 b, by rw [c2, c]; omega⟩
    · rw [tPass_ov z, tPassN_ov z]
      exact ⟨h, fun _ _ => rfl, (Int.add_zero _).symm⟩
/-! ===== single answers ===== -/
theorem R_of {z : Int} (h : -1000000000 ≤ z ∧ z ≤ 1000000000) : rc_R z := ⟨by omega, by omega⟩
theorem c_t0 {G : rc_G} {x : Nat} {I : rc_M} {v : rv} {post : Int → rc_M → Prop} (E : eA I (x + 1) v) (h : post (if v 162 = 1 ∧ v 163 = 0 then 1 else 0) I) : wX7_tell G x 0 I post := c_tell E rc_R0 (by rw [if_pos (by decide)]; exact h)
theorem c_t1 {G : rc_G} {x : Nat} {I : rc_M} {v : rv} {post : Int → rc_M → Prop} (E : eA I (x + 1) v) (h : post (v 164) I) : wX7_tell G x 1 I post := c_tell E ⟨by decide, by decide⟩ (by rw [if_pos (by decide)]; exact h)
theorem c_t2 {G : rc_G} {x : Nat} {I : rc_M} {v : rv} {post : Int → rc_M → Prop} (E : eA I (x + 1) v) (h : post (v 165) I) : wX7_tell G x 2 I post := c_tell E ⟨by decide, by decide⟩ (by rw [if_pos (by decide)]; exact h)
theorem c_t3 {G : rc_G} {x : Nat} {I : rc_M} {v : rv} {post : Int → rc_M → Prop} (E : eA I (x + 1) v) (h : post (v 166) I) : wX7_tell G x 3 I post := c_tell E ⟨by decide, by decide⟩ (by rw [if_pos (by decide)]; exact h)
theorem c_t4 {G : rc_G} {x : Nat} {I : rc_M} {v : rv} {post : Int → rc_M → Prop} (E : eA I (x + 1) v) (h : post (v 167) I) : wX7_tell G x 4 I post := c_tell E ⟨by decide, by decide⟩ (by rw [if_pos (by decide)]; exact h)
theorem c_t5 {G : rc_G} {x : Nat} {I : rc_M} {v : rv} {post : Int → rc_M → Prop} (E : eA I (x + 1) v) (h : post (v 168) I) : wX7_tell G x 5 I post := c_tell E ⟨by decide, by decide⟩ (by rw [if_pos (by decide)]; exact h)
theorem c_t6 {G : rc_G} {x : Nat} {I : rc_M} {v : rv} {post : Int → rc_M → Prop} (E : eA I (x + 1) v) (h : post (v 169) I) : wX7_tell G x 6 I post := c_tell E ⟨by decide, by decide⟩ (by rw [if_pos (by decide)]; exact h)
theorem c_t7 {G : rc_G} {x : Nat} {I : rc_M} {v : rv} {post : Int → rc_M → Prop} (E : eA I (x + 1) v) (h : post (v 170) I) : wX7_tell G x 7 I post := c_tell E ⟨by decide, by decide⟩ (by rw [if_pos (by decide)]; exact h)
theorem c_t8 {G : rc_G} {x : Nat} {I : rc_M} {v : rv} {post : Int → rc_M → Prop} (E : eA I (x + 1) v) (h : post (v 174) I) : wX7_tell G x 8 I post := c_tell E ⟨by decide, by decide⟩ (by rw [if_pos (by decide)]; exact h)
theorem c_t9 {G : rc_G} {x : Nat} {I : rc_M} {v : rv} {post : Int → rc_M → Prop} (E : eA I (x + 1) v) (h : post (if 0 ≤ v 172 then v 173 else 0) I) : wX7_tell G x 9 I post := c_tell E ⟨by decide, by decide⟩ (by rw [if_pos (by decide)]; exact h)
theorem c_p0 {G : rc_G} {x : Nat} {I : rc_M} {v : rv} {p : Int} {post : Int → rc_M → Prop} (t1 : kX7 G x) (E : eA I (x + 1) v) (hh : wH v) (hp : p = 0 ∨ p = 1) (h : post (v (191 + 4 * p)) I) : wX7_projector G x p 0 I post :=
  x_projTells t1.2.1.2.2 E hh (R_of (by omega)) rc_R0 (by rw [if_pos (by omega), if_pos (by decide)]; exact h)
theorem c_p1 {G : rc_G} {x : Nat} {I : rc_M} {v : rv} {p : Int} {post : Int → rc_M → Prop} (t1 : kX7 G x) (E : eA I (x + 1) v) (hh : wH v) (hp : p = 0 ∨ p = 1) (h : post (if v (191 + 4 * p) = 0 then -100005 else v (192 + 4 * p)) I) : wX7_projector G x p 1 I post :=
  x_projTells t1.2.1.2.2 E hh (R_of (by omega)) ⟨by decide, by decide⟩ (by rw [if_pos (by omega), if_pos (by decide)]; exact h)
theorem c_p2 {G : rc_G} {x : Nat} {I : rc_M} {v : rv} {p : Int} {post : Int → rc_M → Prop} (t1 : kX7 G x) (E : eA I (x + 1) v) (hh : wH v) (hp : p = 0 ∨ p = 1) (h : post (if v (191 + 4 * p) = 2 ∨ v (191 + 4 * p) = 3 ∨ v (191 + 4 * p) = 5 then v (193 + 4 * p) else -100005) I) : wX7_projector G x p 2 I post :=
  x_projTells t1.2.1.2.2 E hh (R_of (by omega)) ⟨by decide, by decide⟩ (by rw [if_pos (by omega), if_pos (by decide)]; exact h)
theorem c_k00 {G : rc_G} {x : Nat} {I : rc_M} {v : rv} {post : Int → rc_M → Prop} (E : eA I (x + 1) v) (hh : wH v) (h : post (if 0 ≤ v 172 then v 172 % 3 else -100001) I) : wX7_task G x 0 0 I post :=
  x_task E hh rc_R0 rc_R0 h
theorem c_k {G : rc_G} {x : Nat} {I : rc_M} {v : rv} {a w : Int} {post : Int → rc_M → Prop} (E : eA I (x + 1) v) (hh : wH v) (ha : 1 ≤ a ∧ a ≤ v 174) (hw : w = 0 ∨ w = 1) (h0 : w = 0 → ∀ z : Int, (0 ≤ z ∧ z < 3) → post z I) (h1 : w = 1 → ∀ z : Int, (0 ≤ z ∧ z < 2) → post z I) : wX7_task G x a w I post := by
  have q174 := hh.2.2.2.2.2.2.1
  have row := hh.2.2.2.2.2.2.2.1 (a - 1) (by omega) (by omega)
  rw [show (175 : Int) + (a - 1) = 174 + a by omega] at row
  have e : tTask v a = v (174 + a) := by unfold tTask; rw [if_neg (by omega), if_pos ha]
  refine x_task E hh (R_of (by omega)) (R_of (by omega)) ?_
  rw [e, if_pos row.1]
  rcases hw with y | y
  · rw [if_pos y]; exact h0 y _ (by omega)
  · rw [if_neg (by omega), if_pos y]; exact h1 y _ (by omega)
/-- the two projectors of a show -/
theorem s_f {v : rv} (n : nS v) : ∀ p : Int, p = 0 ∨ p = 1 → (0 ≤ v (191 + 4 * p) ∧ v (191 + 4 * p) ≤ 5) ∧ (v (191 + 4 * p) = 0 ∨ (0 ≤ v (192 + 4 * p) ∧ v (192 + 4 * p) < v 170)) ∧ ((v (191 + 4 * p) = 3 ∨ v (191 + 4 * p) = 5) → v 165 = p) ∧ (v (191 + 4 * p) = 2 → v 165 ≠ p) ∧
    ((v (191 + 4 * p) = 2 ∨ v (191 + 4 * p) = 3 ∨ v (191 + 4 * p) = 5) → -90 ≤ v (193 + 4 * p) ∧ v (193 + 4 * p) ≤ 4000) := by
  intro p hp
  obtain ⟨⟨s, hh, kk⟩, z162, R, O⟩ := n
  have q165 := hh.2.2.1
  have B : 0 ≤ v (191 + 4 * p) ∧ v (191 + 4 * p) ≤ 5 := by
    rcases hp with rfl | rfl
    · exact hh.2.2.2.2.2.2.2.2.1
    · exact hh.2.2.2.2.2.2.2.2.2
  have P : v (191 + 4 * p) = 0 ∨ (0 ≤ v (192 + 4 * p) ∧ v (192 + 4 * p) < v 170) := by
    rcases hp with rfl | rfl
    · exact R.1.1
    · exact R.1.2
  by_cases z : v 163 = 0
  · have K := kk z162 z
    have kP : ∀ p : Int, p = 0 ∨ p = 1 → wP 0 v p := fun p hp => by rcases hp with rfl | rfl; exact K.2.1; exact K.2.2.1
    obtain ⟨w1, w2, w3, w4, w5⟩ := kP p hp
    refine ⟨B, P, fun q => (w2 q).1, fun q => by have := (w5 q).1; omega, fun q => ?_⟩
    rcases q with q | q | q
    · obtain ⟨a, b, c, d⟩ := w5 q
      refine ⟨b, ?_⟩
      rcases hh.2.2.2.1 with y | y
      · have e := c y
        have f := (kP (1 - p) (by omega)).2.2.1 e.1
        omega
      · have e := (d y).2; omega
    · have a := w3 q; omega
    · have a := w4 q; omega
  · obtain ⟨o1, o2, o3, o4⟩ := O z
    by_cases e : p = v 165
    · subst e
      exact ⟨B, P, fun q => rfl, fun q => by omega, fun q => by omega⟩
    · have e2 : p = 1 - v 165 := by omega
      subst e2
      exact ⟨B, P, fun q => by omega, fun q => by omega, fun q => o4 (by omega)⟩
