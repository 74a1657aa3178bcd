/-! ===== pure part: letters, a slot brought back ===== -/
theorem tI_text {G : rc_G} {x : Nat} {I J : rc_M} (t : tI G x I) (h : ∀ a : Nat, (a < x + 84 ∨ x + 88 < a) → a ≠ x + 96 → a ≠ x + 97 → a ≠ x + 98 → a ≠ x + 99 → a ≠ x + 100 → J a = I a) (T : tT J x) : tI G x J := by
  obtain ⟨t0, t1, t2, E, V, t5, t6, t7⟩ := t
  have e89 : J (x + 89) = I (x + 89) := h _ (by omega) (by omega) (by omega) (by omega) (by omega) (by omega)
  refine ⟨t0, t1, t2, ?_, by rw [e89]; exact V, T, fun j j0 j1 => ?_, tZ_c (h _ (by omega) (by omega) (by omega) (by omega) (by omega) (by omega)) (h _ (by omega) (by omega) (by omega) (by omega) (by omega) (by omega)) (h _ (by omega) (by omega) (by omega) (by omega) (by omega) (by omega)) (fun a ha => h a (by omega) (by omega) (by omega) (by omega) (by omega) (by omega)) t7⟩
  · rw [e89]
    exact eA_far V.1 (fun a a0 a1 => h a (by omega) (by omega) (by omega) (by omega) (by omega) (by omega)) E
  · rw [h _ (by omega) (by omega) (by omega) (by omega) (by omega) (by omega), h _ (by omega) (by omega) (by omega) (by omega) (by omega) (by omega)]; exact t6 j j0 j1
theorem op_append {G : rc_G} {x : Nat} {I : rc_M} {a : Int} {k : rc_M → Prop} (t : tI G x I) (ha : rc_R a) (hk : ∀ J : rc_M, tI G x J → k J) : wX7_append G x a I (fun r1 I1 => wX8_append G (x + 88) a I1 (fun r2 I2 => r1 = r2 ∧ k I2)) := by
  obtain ⟨T1, T2, T3⟩ := t.2.2.2.2.2.1
  unfold wX7_append
  refine x_within ha (by unfold rc_R; omega) (by unfold rc_R; omega) ?_
  by_cases c : 0 ≤ a ∧ a ≤ 127
  · rw [if_pos c]
    refine ⟨by unfold rc_R; omega, fun _ => ?_, fun q => absurd q (by decide)⟩
    unfold wX1_add
    rw [T1]
    generalize hn : I (x + 88) 8 = n at *
    refine ⟨by unfold rc_R; omega, fun d => ⟨by omega, fun I4 e4 I5 e5 => ?_⟩, fun d => ?_⟩
    · have f4 : I4 (x + 84) 2 = n := by rw [e4, qs_n _ _ _ (by omega)]; exact T1
      rw [f4] at e5
      have a5 : I5 (x + 84) 2 = n + 1 := by rw [e5, qs_s, rc_u_s]
      have o5 : ∀ b : Nat, b ≠ x + 84 → b ≠ x + 84 + 2 → I5 b = I b := fun b h1 h2 => by rw [e5, qs_n _ _ _ h1, e4, qs_n _ _ _ h2]
      have r5 : ∀ j : Int, I5 (x + 86) j = if j = n then a else I (x + 86) j := fun j => by rw [e5, qs_n _ _ _ (by omega), e4]; exact (by rw [qs_s, rc_ue] : rc_s I (x + 84 + 2) n a (x + 84 + 2) j = _)
      have m5 : I5 (x + 88) 8 = n := by rw [o5 _ (by omega) (by omega)]; exact hn
      rw [a5]
      unfold wX8_append
      refine m_in ha (by unfold rc_R; omega) (by unfold rc_R; omega) ?_
      rw [if_pos c, m5]
      refine ⟨by unfold rc_R; omega, fun _ => ⟨by unfold rc_R; omega, fun _ => ⟨by omega, fun I8 e8 I9 e9 => ?_⟩, fun q => absurd q (by omega)⟩, fun q => absurd q (by decide)⟩
      have m8 : I8 (x + 88) 8 = n := by rw [e8, qs_n _ _ _ (by omega)]; exact m5
      rw [m8] at e9
      have a9 : I9 (x + 88) 8 = n + 1 := by rw [e9, qs_s, rc_u_s]
      have o9 : ∀ b : Nat, b ≠ x + 88 → b ≠ x + 88 + 8 → I9 b = I5 b := fun b h1 h2 => by rw [e9, qs_n _ _ _ h1, e8, qs_n _ _ _ h2]
      have r9 : ∀ j : Int, I9 (x + 96) j = if j = n then a else I (x + 96) j := fun j => by rw [e9, qs_n _ _ _ (by omega), e8]; exact (by rw [qs_s, rc_ue, o5 _ (by omega) (by omega)] : rc_s I5 (x + 88 + 8) n a (x + 88 + 8) j = _)
      refine ⟨a9.symm, hk _ (tI_text t (fun b h1 h2 _ _ _ _ => by rw [o9 b (by omega) (by omega), o5 b (by omega) (by omega)]) ⟨by rw [a9, o9 _ (by omega) (by omega), a5], by rw [a9]; omega, fun j j0 j1 => ?_⟩)⟩
      rw [a9] at j1
      rw [r9, o9 _ (by omega) (by omega), r5]
      by_cases e : j = n
      · rw [if_pos e, if_pos e]; exact ⟨rfl, c⟩
      · rw [if_neg e, if_neg e]; exact T3 j j0 (by omega)
    · unfold wX8_append
      refine m_in ha (by unfold rc_R; omega) (by unfold rc_R; omega) ?_
      rw [if_pos c, hn]
      exact ⟨by unfold rc_R; omega, fun _ => ⟨by unfold rc_R; omega, fun q => absurd (show n = 60 by omega) q, fun _ => ⟨rfl, hk I t⟩⟩, fun q => absurd q (by decide)⟩
  · rw [if_neg c]
    refine ⟨rc_R0, fun q => absurd rfl q, fun _ => ?_⟩
    unfold wX8_append
    refine m_in ha (by unfold rc_R; omega) (by unfold rc_R; omega) ?_
    rw [if_neg c]
    exact ⟨rc_R0, fun q => absurd rfl q, fun _ => ⟨rfl, hk I t⟩⟩
theorem op_clear {G : rc_G} {x : Nat} {I : rc_M} {k : rc_M → Prop} (t : tI G x I) (hk : ∀ J : rc_M, tI G x J → k J) : wX7_clearText G x I (fun r1 I1 => wX8_clearText G (x + 88) I1 (fun r2 I2 => r1 = r2 ∧ k I2)) := by
  obtain ⟨T1, T2, T3⟩ := t.2.2.2.2.2.1
  unfold wX7_clearText wX1_empty wX8_clearText
  intro I1 e1 I2 e2
  refine ⟨by rw [T1, e1, qs_n _ _ _ (by omega)], hk _ (tI_text t (fun b h1 h2 _ _ _ _ => by rw [e2, qs_n _ _ _ (by omega), e1, qs_n _ _ _ (by omega)]) ⟨by rw [e2, qs_n _ _ _ (by omega), e1, qs_s, rc_u_s, qs_s, rc_u_s], by rw [e2, qs_s, rc_u_s]; omega, fun j j0 j1 => ?_⟩)⟩
  rw [e2, qs_s, rc_u_s] at j1; omega
