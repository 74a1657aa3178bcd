/-! ===== pure part: calls that ask ===== -/
def tTell (v : rv) (a : Int) : Int :=
  if a = 0 then (if v 162 = 1 ∧ v 163 = 0 then 1 else 0) else if a = 1 then v 164 else if a = 2 then v 165 else if a = 3 then v 166 else if a = 4 then v 167 else if a = 5 then v 168 else if a = 6 then v 169 else if a = 7 then v 170 else if a = 8 then v 174 else (if 0 ≤ v 172 then v 173 else 0)
theorem x_count {G : rc_G} {s : Nat} {I : rc_M} {v : rv} {a : Int} {post : Int → rc_M → Prop} (E : eS I s v) (ha : rc_R a) (h : post (if 0 ≤ a ∧ a ≤ 9 then tTell v a else -100001) I) : wX5_count G s a I post := by
  obtain ⟨⟨c0, c1, c2, c3, c4, c5, c7, c8, c9⟩, ⟨o0, o1, _, _⟩, _⟩ := E
  unfold wX5_count
  rw [c0, c1, c2, c3, c4, c5, c7, c8, o0, o1]
  unfold tTell at h
  refine ⟨ha, fun c => ?_, fun c => ?_, fun c => ?_, fun c => ?_, fun c => ?_, fun c => ?_, fun c => ?_, fun c => ?_, fun c => ?_, fun c => ?_, fun c => ?_⟩
  · subst c
    by_cases z : v 162 = 1 ∧ v 163 = 0
    · rw [if_pos z]
      refine ⟨by unfold rc_R; omega, fun q => absurd q (by decide), fun _ => ?_⟩
      simpa [z] using h
    · rw [if_neg z]
      refine ⟨rc_R0, fun _ => ?_, fun q => absurd rfl q⟩
      simpa [z] using h
  · subst c; simpa using h
  · subst c; simpa using h
  · subst c; simpa using h
  · subst c; simpa using h
  · subst c; simpa using h
  · subst c; simpa using h
  · subst c; simpa using h
  · subst c; simpa using h
  · subst c; simpa using h
  · rw [if_neg (by omega)] at h; exact h
def tProj (v : rv) (p w : Int) : Int :=
  if w = 0 then v (191 + 4 * p) else if w = 1 then (if v (191 + 4 * p) = 0 then -100005 else v (192 + 4 * p)) else (if v (191 + 4 * p) = 2 ∨ v (191 + 4 * p) = 3 ∨ v (191 + 4 * p) = 5 then v (193 + 4 * p) else -100005)
theorem x_projTells {G : rc_G} {x : Nat} {I : rc_M} {v : rv} {p w : Int} {post : Int → rc_M → Prop} (k5 : kX5 G (x + 1 + 35)) (E : eA I (x + 1) v) (hh : wH v) (hp : rc_R p) (hw : rc_R w)
    (h : post (if 0 ≤ p ∧ p ≤ 1 then (if 0 ≤ w ∧ w ≤ 2 then tProj v p w else -100002) else -100001) I) : wX7_projector G x p w I post := by
  obtain ⟨q162, q163, q165, q171, q172, _, _, _, q191, q195⟩ := id hh
  have qs : ∀ p : Int, p = 0 ∨ p = 1 → 0 ≤ v (191 + 4 * p) ∧ v (191 + 4 * p) ≤ 5 := fun p hp => by rcases hp with rfl | rfl <;> assumption
  unfold wX7_projector
  refine x_within hp (by unfold rc_R; omega) (by unfold rc_R; omega) ?_
  by_cases c : 0 ≤ p ∧ p ≤ 1
  · rw [if_pos c] at h ⊢
    have p2 : p = 0 ∨ p = 1 := by omega
    have s := qs p p2
    refine ⟨by unfold rc_R; omega, fun _ => x_proj p2 ⟨_, rfl, k2_of k5 p2, ?_⟩, fun q => absurd q (by decide)⟩
    obtain ⟨P0, P1, P2⟩ := E.2.2.2 p p2
    rw [P0]
    unfold tProj at h
    refine ⟨hw, fun c0 => ?_, fun c1 => ⟨by unfold rc_R; omega, fun d => ?_, fun d => ?_⟩, fun c2 => ?_, fun c3 => ?_⟩
    · subst c0; simpa using h
    · subst c1
      rw [P1 (Or.inl d)]
      rw [if_pos (by omega), if_neg (by omega), if_pos rfl, if_neg d] at h; exact h
    · subst c1
      rw [if_pos (by omega), if_neg (by omega), if_pos rfl, if_pos d] at h; exact h
    · subst c2
      rw [if_pos (by omega), if_neg (by omega), if_neg (by omega)] at h
      unfold wX2_isAtFrame wX2_isAtFrame_24
      rw [P0]
      have Y : v (191 + 4 * p) = 2 ∨ v (191 + 4 * p) = 3 ∨ v (191 + 4 * p) = 5 → post (I (x + 1 + 35 + 4 + p.toNat) 2) I := fun d => by
        rw [if_pos d] at h; rw [P2 d]; exact h
      exact ⟨by unfold rc_R; omega, fun d => ⟨by unfold rc_R; omega, fun q => absurd q (by decide), fun _ => Y (Or.inl d)⟩, fun d => ⟨by unfold rc_R; omega, fun d1 => ⟨by unfold rc_R; omega, fun q => absurd q (by decide), fun _ => Y (Or.inr (Or.inl d1))⟩, fun d1 => ⟨by unfold rc_R; omega, fun d2 => ⟨rc_R0, fun _ => by rw [if_neg (by omega)] at h; exact h, fun q => absurd rfl q⟩, fun d2 => ⟨by unfold rc_R; omega, fun q => absurd q (by decide), fun _ => Y (Or.inr (Or.inr d2))⟩⟩⟩⟩
    · rw [if_neg (by omega)] at h; exact h
  · rw [if_neg c] at h ⊢
    exact ⟨rc_R0, fun q => absurd rfl q, fun _ => h⟩
def tTask (v : rv) (a : Int) : Int := if a = 0 then v 172 else if 1 ≤ a ∧ a ≤ v 174 then v (174 + a) else -1
theorem tTask_has {v : rv} {a : Int} (hh : wH v) : (0 ≤ tTask v a ↔ ((a = 0 ∧ 0 ≤ v 172) ∨ (0 < a ∧ a ≤ v 174))) ∧ -1 ≤ tTask v a ∧ tTask v a ≤ 5 := by
  obtain ⟨_, _, _, _, q172, _, q174, qrow, _, _⟩ := hh
  unfold tTask
  by_cases c : a = 0
  · rw [if_pos c]; omega
  · rw [if_neg c]
    by_cases d : 1 ≤ a ∧ a ≤ v 174
    · rw [if_pos d]
      have b := qrow (a - 1) (by omega) (by omega)
      rw [show (175 : Int) + (a - 1) = 174 + a by omega] at b
      omega
    · rw [if_neg d]; omega
theorem x_task {G : rc_G} {x : Nat} {I : rc_M} {v : rv} {a w : Int} {post : Int → rc_M → Prop} (E : eA I (x + 1) v) (hh : wH v) (ha : rc_R a) (hw : rc_R w)
    (h : post (if 0 ≤ tTask v a then (if w = 0 then tTask v a % 3 else if w = 1 then tTask v a / 3 else -100002) else -100001) I) : wX7_task G x a w I post := by
  obtain ⟨T1, T2⟩ := tTask_has (a := a) hh
  obtain ⟨_, _, _, _, q172, q173, q174, qrow, _, _⟩ := id hh
  have O := E.2.2.1
  unfold wX7_task
  refine x_hasTask O q173 (by omega) ha ?_
  by_cases c : (a = 0 ∧ 0 ≤ v 172) ∨ (0 < a ∧ a ≤ v 174)
  · rw [if_pos c]
    rw [if_pos (T1.mpr c)] at h
    have e0 : a = 0 → 0 ≤ v 172 → tTask v a = v 172 := fun y _ => by unfold tTask; rw [if_pos y]
    have e1 : 0 < a → a ≤ v 174 → tTask v a = v (174 + a) := fun y z => by unfold tTask; rw [if_neg (by omega), if_pos (by omega)]
    refine ⟨by unfold rc_R; omega, fun _ => ⟨hw, fun d => ?_, fun d => ?_, fun d d2 => ?_⟩, fun q => absurd q (by decide)⟩
    · rw [if_pos d] at h
      exact x_kindOf O q173 (by omega) ha (fun y z => by rw [← e0 y z]; exact h) (fun y z => by rw [← e1 y z]; exact h) (fun y => absurd c y)
    · rw [if_neg (by omega), if_pos d] at h
      exact x_projOf O q173 (by omega) ha (fun y z => by rw [← e0 y z]; exact h) (fun y z => by rw [← e1 y z]; exact h) (fun y => absurd c y)
    · rw [if_neg d, if_neg d2] at h; exact h
  · rw [if_neg c]
    rw [if_neg (fun y => c (T1.mp y))] at h
    exact ⟨rc_R0, fun q => absurd rfl q, fun _ => h⟩
