/-! ===== what is refused changes nothing ===== -/
theorem g_refuses {G : rc_G} {x : Nat} {I : rc_M} {v : rv} {a1 : Int} {post : Int → rc_M → Prop} (t1 : kX7 G x) (E : eA I (x + 1) v) (V : tV v) (h0 : 1 ≤ v 0) (ha : a1 = v 0) (H : ∀ J : rc_M, eA J (x + 1) v → cF x I J → post 1 J) : wL_refuses G x a1 I post := by
  have s0 := V.1.1
  have s1 := V.1.2.1
  have i0 : (0 : Int) ≤ 0 ∧ 0 < v 0 := ⟨by decide, by omega⟩
  unfold wL_refuses
  refine c_sum t1 E V (fun I1 E1 F1 => ?_)
  refine c_makeE rc_R0 (by decide) ⟨R_of (by decide), rfl, ?_⟩
  refine c_spl0 E1 V (R_of (by omega)) (by omega) ⟨R_of (by decide), rfl, ?_⟩
  refine c_splice t1 E1 V i0 rc_R0 (R_of (by decide)) (fun d _ _ _ _ _ _ _ _ => absurd d.1 (by decide)) (fun d _ _ _ _ _ _ _ _ _ _ _ _ _ _ _ => absurd d.1 (by decide)) (fun d _ _ => absurd d.1 (by decide)) (fun _ => ⟨R_of (by decide), rfl, ?_⟩)
  refine c_splice t1 E1 V i0 (R_of (by decide)) rc_R0 (fun _ d _ _ _ _ _ _ _ => absurd d.1 (by decide)) (fun _ d _ _ _ _ _ _ _ _ _ _ _ _ _ _ => absurd d.1 (by decide)) (fun _ d _ => absurd d.1 (by decide)) (fun _ => ⟨R_of (by decide), rfl, ?_⟩)
  refine c_mend t1 E1 V i0 rc_R0 (fun d _ _ _ _ _ _ => absurd d.1 (by decide)) (fun _ => ⟨R_of (by decide), rfl, ?_⟩)
  refine c_reel t1 E1 V (R_of (by decide)) rc_R0 (fun d _ => absurd d.1 (by decide)) (fun d _ => absurd d.1 (by decide)) (fun d _ => absurd d.1 (by decide)) (fun d _ => absurd d.1 (by decide)) (fun _ => ⟨R_of (by decide), rfl, ?_⟩)
  refine c_reel t1 E1 V rc_R0 (R_of (by decide)) (fun _ d => absurd d (by decide)) (fun _ d => absurd d (by decide)) (fun _ d => absurd d (by decide)) (fun _ _ => ⟨R_of (by decide), rfl, ?_⟩) (fun d => absurd i0 d)
  refine c_spliceE t1 E1 V i0 rfl ⟨R_of (by decide), rfl, ?_⟩
  refine c_set E1 V (R_of (by decide)) rc_R0 (fun d _ _ _ _ => absurd d.1.1 (by decide)) (fun d _ => absurd d.1 (by decide)) (fun _ => ⟨R_of (by decide), rfl, ?_⟩)
  refine c_appendE (R_of (by decide)) (by decide) ⟨R_of (by decide), rfl, ?_⟩
  refine c_program E1 V (R_of (by decide)) ?_
  rw [if_neg (by omega)]
  refine ⟨R_of (by decide), rfl, by decide, ?_⟩
  refine c_pass t1 E1 V (R_of (by decide)) (fun d _ _ _ _ _ _ => absurd d.1 (by decide)) (fun d _ => absurd d.1 (by decide)) (fun _ => ⟨R_of (by decide), rfl, ?_⟩)
  refine c_tell E1 (R_of (by decide)) ?_
  rw [if_neg (by decide)]
  refine ⟨R_of (by decide), rfl, ?_⟩
  refine x_projTells t1.2.1.2.2 E1 V.2.1 (R_of (by decide)) rc_R0 ?_
  rw [if_neg (by decide)]
  refine ⟨R_of (by decide), rfl, ?_⟩
  refine x_projTells t1.2.1.2.2 E1 V.2.1 rc_R0 (R_of (by decide)) ?_
  rw [if_pos (by decide), if_neg (by decide)]
  refine ⟨R_of (by decide), rfl, ?_⟩
  refine x_task E1 V.2.1 (R_of (by decide)) rc_R0 ?_
  have eT : tTask v (-1) = -1 := by unfold tTask; rw [if_neg (by decide), if_neg (by omega)]
  rw [eT, if_neg (by decide)]
  refine ⟨R_of (by decide), rfl, ?_⟩
  refine c_fore t1 E1 V (R_of (by decide)) (fun d _ _ _ _ _ => absurd d.1 (by decide)) (fun d _ => absurd d.1 (by decide)) (fun _ => ⟨R_of (by decide), rfl, ?_⟩)
  refine c_darkE (R_of (by decide)) rc_R0 (fun d => absurd d.1.1 (by decide)) (fun d => absurd d.1 (by decide)) (fun _ => ⟨R_of (by decide), rfl, ?_⟩)
  refine c_darkE rc_R0 rc_R0 (fun d => absurd d.2.1 (by decide)) (fun _ => ⟨R_of (by decide), rfl, ?_⟩) (fun d => absurd (by decide) d)
  refine c_saveE (R_of (by decide)) (by decide) ⟨R_of (by decide), rfl, ?_⟩
  refine c_restoreE (R_of (by decide)) (by decide) ⟨R_of (by decide), rfl, by decide, ?_⟩
  exact c_sum t1 E1 V (fun L EL FL => ⟨rfl, H L EL (cF_t F1 FL)⟩)
/-! ===== projectors, tasks and counts belong together ===== -/
theorem g_sound {G : rc_G} {x : Nat} {I : rc_M} {v : rv} {a1 : Int} {post : Int → rc_M → Prop} (t1 : kX7 G x) (E : eA I (x + 1) v) (n : nS v) (ha : a1 = v 149) (ht : v 164 ≤ 100000) (H : post 1 I) : wL_sound G x a1 I post := by
  have F := s_f n
  obtain ⟨⟨s, hh, kk⟩, z162, R, O⟩ := id n
  have s1 := s.2.1
  have q163 := hh.2.1
  have q165 := hh.2.2.1
  have q172 := hh.2.2.2.2.1
  have q173 := hh.2.2.2.2.2.1
  have q174 := hh.2.2.2.2.2.2.1
  obtain ⟨⟨R1, R2⟩, R3, R4, R5, R6, R7, R8⟩ := id R
  have a3 := rr_or (v 191)
  have a4 := rr_or (v 195)
  -- the tasks, and the end
  have T : ∀ (d : Nat) (x4 x6 k : Int), x4 = (if v 162 = 1 ∧ v 163 = 0 then 1 else 0) → (0 ≤ x6 ∧ x6 ≤ 1) → 1 ≤ k → v 174 + 1 - k = d → rL_sound_318 G post x a1 (d + 1) (v 165) x4 1 x6 k I := by
    intro d
    induction d with
    | zero =>
      intro x4 x6 k h4 h6 k1 hd
      show wL_sound_318 G post x a1 (rL_sound_318 G post x a1 0) (v 165) x4 1 x6 k I
      unfold wL_sound_318 wL_sound_435
      refine c_t8 E ⟨R_of (by omega), R_of (by omega), fun _ => ⟨R_of (by decide), by decide, R_of (by omega), by omega, ?_⟩, fun q => absurd (show v 174 < k by omega) q⟩
      by_cases z : v 163 = 0
      · rw [if_pos ⟨z162, z⟩] at h4
        exact ⟨R_of (by omega), fun _ => H, fun q => absurd q (by omega)⟩
      · rw [if_neg (fun q => z q.2)] at h4
        obtain ⟨o1, o2, o3, o4⟩ := O z
        refine ⟨R_of (by omega), fun q => absurd h4 q, fun _ => c_t1 E ⟨R_of (by omega), fun _ => H, fun _ => ?_⟩⟩
        refine c_p0 t1 E hh q165 ⟨R_of (by omega), o1, ?_⟩
        refine c_p1 t1 E hh q165 ?_
        rw [if_neg (by omega), o2, ha]
        exact ⟨R_of (by omega), R_of (by omega), rfl, H⟩
    | succ d ih =>
      intro x4 x6 k h4 h6 k1 hd
      show wL_sound_318 G post x a1 (rL_sound_318 G post x a1 (d + 1)) (v 165) x4 1 x6 k I
      unfold wL_sound_318
      refine c_t8 E ⟨R_of (by omega), R_of (by omega), fun q => absurd q (by omega), fun _ => ⟨R_of (by decide), by decide, ?_⟩⟩
      have hk : 1 ≤ k ∧ k ≤ v 174 := ⟨k1, by omega⟩
      refine c_k E hh hk (Or.inl rfl) (fun _ z hz => ⟨R_of (by omega), by omega, ?_⟩) (fun q => absurd q (by decide))
      refine c_k E hh hk (Or.inl rfl) (fun _ z hz => ⟨R_of (by omega), by omega, ?_⟩) (fun q => absurd q (by decide))
      refine c_k E hh hk (Or.inr rfl) (fun q => absurd q (by decide)) (fun _ z hz => ⟨R_of (by omega), by omega, ?_⟩)
      refine c_k E hh hk (Or.inr rfl) (fun q => absurd q (by decide)) (fun _ z hz => ⟨R_of (by omega), by omega, ?_⟩)
      exact ih x4 x6 (k + 1) h4 h6 (by omega) (by omega)
  -- a projector
  have P : ∀ (k143 : Int → Int → Int → Int → Int → Int → rc_M → Prop) (x4 x6 p : Int), (p = 0 ∨ p = 1) → (0 ≤ x6 ∧ x6 ≤ 1) → (∀ y : Int, ((v (191 + 4 * p) = 3 ∧ y = 1) ∨ (v (191 + 4 * p) ≠ 3 ∧ y = 0)) → k143 (v 165) (v 170) x4 1 (x6 + y) (p + 1) I) → wL_sound_143 G post x a1 k143 (v 165) (v 170) x4 1 x6 p I := by
    intro k143 x4 x6 p hp h6 hk
    obtain ⟨f1, f2, f3, f4, f5⟩ := F p hp
    unfold wL_sound_143
    refine ⟨R_of (by omega), fun q => absurd q (by omega), fun _ => ⟨R_of (by decide), by decide, ?_⟩⟩
    refine c_p0 t1 E hh hp (c_p1 t1 E hh hp ?_)
    have S299 : ∀ y0 y1 z : Int, y1 = y0 → (y0 = 0 ∨ y0 = 1) → k143 (v 165) (v 170) x4 1 z (p + 1) I → wL_sound_299 G post x a1 k143 (v 165) (v 170) x4 z p y0 y1 I := fun y0 y1 z e h y => by
      unfold wL_sound_299
      exact ⟨R_of (by omega), R_of (by omega), e, y⟩
    have S277 : ∀ y0 z : Int, ((y0 = 1 ∧ (v (191 + 4 * p) = 0 ∨ v (191 + 4 * p) = 1 ∨ v (191 + 4 * p) = 4)) ∨ (y0 = 0 ∧ (v (191 + 4 * p) = 2 ∨ v (191 + 4 * p) = 3 ∨ v (191 + 4 * p) = 5))) → k143 (v 165) (v 170) x4 1 z (p + 1) I → wL_sound_277 G post x a1 k143 (v 165) (v 170) x4 z p (v (191 + 4 * p)) y0 I := fun y0 z h y => by
      unfold wL_sound_277 wL_sound_294
      exact ⟨R_of (by omega), fun q => S299 _ _ z (by omega) (by omega) y, fun q => ⟨R_of (by omega), fun q => S299 _ _ z (by omega) (by omega) y, fun q => ⟨R_of (by omega), fun q => S299 _ _ z (by omega) (by omega) y, fun q => S299 _ _ z (by omega) (by omega) y⟩⟩⟩
    have S260 : ∀ z : Int, k143 (v 165) (v 170) x4 1 z (p + 1) I → wL_sound_260 G post x a1 k143 (v 165) (v 170) x4 z p (v (191 + 4 * p)) I := fun z y => by
      unfold wL_sound_260
      refine c_p2 t1 E hh hp ?_
      by_cases c : v (191 + 4 * p) = 2 ∨ v (191 + 4 * p) = 3 ∨ v (191 + 4 * p) = 5
      · rw [if_pos c]
        have g := f5 c
        exact ⟨R_of (by omega), fun _ => S277 0 z (Or.inr ⟨rfl, c⟩) y, fun q => absurd q (by omega)⟩
      · rw [if_neg c]
        exact ⟨R_of (by decide), fun q => absurd rfl q, fun _ => S277 1 z (Or.inl ⟨rfl, by omega⟩) y⟩
    have S248 : ∀ z : Int, k143 (v 165) (v 170) x4 1 z (p + 1) I → wL_sound_248 G post x a1 k143 (v 165) (v 170) x4 z p (v (191 + 4 * p)) I := fun z y => by
      unfold wL_sound_248
      exact ⟨R_of (by omega), fun _ => S260 z y, fun q => ⟨R_of (by omega), R_of (by omega), fun e => f4 q e.symm, S260 z y⟩⟩
    have S242 : ∀ z : Int, (v (191 + 4 * p) = 3 ∨ v (191 + 4 * p) = 5) → k143 (v 165) (v 170) x4 1 z (p + 1) I → wL_sound_242 G post x a1 k143 (v 165) (v 170) x4 z p (v (191 + 4 * p)) I := fun z q y => by
      unfold wL_sound_242
      exact ⟨R_of (by omega), R_of (by omega), (f3 q).symm, S248 z y⟩
    have S221 : ∀ y0 y1 x9 z : Int, y1 = y0 → (y0 = 0 ∨ y0 = 1) → (-100005 ≤ x9 ∧ x9 < v 170) → k143 (v 165) (v 170) x4 1 z (p + 1) I → wL_sound_221 G post x a1 k143 (v 165) (v 170) x4 z p (v (191 + 4 * p)) x9 y0 y1 I := fun y0 y1 x9 z e h h9 y => by
      unfold wL_sound_221
      exact ⟨R_of (by omega), R_of (by omega), e, R_of (by omega), R_of (by omega), by omega, R_of (by omega), fun q => S242 z (Or.inl q) y, fun _ => ⟨R_of (by omega), fun _ => S248 z y, fun q => S242 z (Or.inr q) y⟩⟩
    have S185 : ∀ y0 : Int, ((v (191 + 4 * p) = 3 ∧ y0 = 1) ∨ (v (191 + 4 * p) ≠ 3 ∧ y0 = 0)) → wL_sound_185 G post x a1 k143 (v 165) (v 170) x4 p (v (191 + 4 * p)) (if v (191 + 4 * p) = 0 then -100005 else v (192 + 4 * p)) y0 x6 I := fun y0 h => by
      have y := hk y0 h
      unfold wL_sound_185 wL_sound_209
      by_cases c : v (191 + 4 * p) = 0
      · rw [if_pos c]
        exact ⟨R_of (by omega), by omega, R_of (by omega), by omega, R_of (by omega), fun q => absurd c q, fun _ => ⟨R_of (by decide), fun q => absurd rfl q, fun _ => S221 _ _ _ _ rfl (by omega) (by omega) y⟩⟩
      · rw [if_neg c]
        have g : 0 ≤ v (192 + 4 * p) ∧ v (192 + 4 * p) < v 170 := by omega
        exact ⟨R_of (by omega), by omega, R_of (by omega), by omega, R_of (by omega), fun _ => ⟨R_of (by omega), fun _ => S221 _ _ _ _ rfl (by omega) (by omega) y, fun q => absurd q (by omega)⟩, fun q => absurd q c⟩
    exact ⟨R_of (by omega), fun q => S185 0 (Or.inr ⟨q, rfl⟩), fun q => S185 1 (Or.inl ⟨q, rfl⟩)⟩
  -- from the loop over the projectors on
  have L : ∀ x4 : Int, x4 = (if v 162 = 1 ∧ v 163 = 0 then 1 else 0) → ∃ m, rL_sound_143 G post x a1 m (v 165) (v 170) x4 1 0 0 I := by
    intro x4 h4
    refine ⟨3, ?_⟩
    show wL_sound_143 G post x a1 (rL_sound_143 G post x a1 2) (v 165) (v 170) x4 1 0 0 I
    refine P _ x4 0 0 (Or.inl rfl) (by decide) (fun y hy => ?_)
    show wL_sound_143 G post x a1 (rL_sound_143 G post x a1 1) (v 165) (v 170) x4 1 (0 + y) (0 + 1) I
    refine P _ x4 (0 + y) (0 + 1) (Or.inr rfl) (by omega) (fun y2 hy2 => ?_)
    show wL_sound_143 G post x a1 (rL_sound_143 G post x a1 0) (v 165) (v 170) x4 1 (0 + y + y2) (0 + 1 + 1) I
    unfold wL_sound_143
    have g0 := (F 0 (Or.inl rfl)).2.2.1
    have g1 := (F 1 (Or.inr rfl)).2.2.1
    have hs : 0 + y + y2 ≤ 1 := by
      rcases hy with ⟨e, e2⟩ | ⟨e, e2⟩
      · rcases hy2 with ⟨f, f2⟩ | ⟨f, f2⟩
        · have a := g0 (Or.inl e)
          have b := g1 (Or.inl f)
          omega
        · omega
      · omega
    exact ⟨R_of (by decide), fun _ => ⟨_, T (v 174).toNat x4 (0 + y + y2) 1 h4 (by omega) (by omega) (by omega)⟩, fun q => absurd (by decide) q⟩
  have S127 : ∀ y0 y1 x4 : Int, y1 = y0 → (y0 = 0 ∨ y0 = 1) → x4 = (if v 162 = 1 ∧ v 163 = 0 then 1 else 0) → wL_sound_127 G post x a1 (v 165) (v 170) x4 y0 y1 I := fun y0 y1 x4 e h h4 => by
    unfold wL_sound_127
    exact ⟨R_of (by omega), R_of (by omega), e, L x4 h4⟩
  have S113 : ∀ y0 x4 : Int, ((y0 = 1 ∧ 0 ≤ v 172) ∨ (y0 = 0 ∧ v 172 < 0)) → x4 = (if v 162 = 1 ∧ v 163 = 0 then 1 else 0) → wL_sound_113 G post x a1 (v 165) (v 170) x4 y0 I := fun y0 x4 h h4 => by
    unfold wL_sound_113
    refine c_k00 E hh ?_
    by_cases c : 0 ≤ v 172
    · rw [if_pos c]
      exact ⟨R_of (by omega), fun q => absurd q (by omega), fun _ => S127 _ _ x4 (by omega) (by omega) h4⟩
    · rw [if_neg c]
      exact ⟨R_of (by decide), fun q => S127 _ _ x4 (by omega) (by omega) h4, fun q => absurd (by decide) q⟩
  have S27 : ∀ x4 : Int, x4 = (if v 162 = 1 ∧ v 163 = 0 then 1 else 0) → wL_sound_27 G post x a1 (v 165) (v 170) x4 I := fun x4 h4 => by
    unfold wL_sound_27
    refine c_t3 E (c_t1 E ⟨R_of (by omega), R_of (by omega), by omega, ?_⟩)
    refine c_t4 E ⟨R_of (by omega), by omega, ?_⟩
    refine c_t5 E ⟨R_of (by omega), by omega, ?_⟩
    refine c_t5 E (c_t6 E ⟨R_of (by omega), R_of (by omega), by omega, R_of (by omega), R_of (by omega), by omega, ?_⟩)
    refine c_t8 E ⟨R_of (by omega), by omega, ?_⟩
    refine c_t8 E ⟨R_of (by omega), by omega, ?_⟩
    refine c_t9 E ?_
    by_cases c : 0 ≤ v 172
    · rw [if_pos c]
      have g := q173 c
      exact ⟨R_of (by omega), fun q => absurd q (by omega), fun _ => S113 _ x4 (Or.inl ⟨rfl, c⟩) h4⟩
    · rw [if_neg c]
      exact ⟨R_of (by decide), fun q => S113 _ x4 (Or.inr ⟨rfl, by omega⟩) h4, fun q => absurd (by decide) q⟩
  unfold wL_sound
  refine c_t2 E (c_t7 E (c_t0 E ?_))
  by_cases z : v 162 = 1 ∧ v 163 = 0
  · rw [if_pos z]
    exact ⟨R_of (by decide), fun q => absurd rfl q, fun _ => S27 1 (by rw [if_pos z])⟩
  · rw [if_neg z]
    exact ⟨R_of (by decide), fun q => S27 0 (by rw [if_neg z]), fun q => absurd q (by decide)⟩
