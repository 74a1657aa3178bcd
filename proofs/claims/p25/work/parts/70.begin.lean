/-! ===== pure part: a show begins, a setting changes ===== -/
def tOz (v : rv) (x : Int) : rv := fun j => if 162 ≤ j ∧ j < x then 0 else v j
theorem tOz_u (v : rv) {x : Int} (h : 162 ≤ x) : rc_u (tOz v x) x 0 = tOz v (x + 1) := by
  funext j
  unfold rc_u tOz
  by_cases e : j = x
  · rw [if_pos e, if_pos (by omega)]
  · rw [if_neg e]
    by_cases c : 162 ≤ j ∧ j < x
    · rw [if_pos c, if_pos (by omega)]
    · rw [if_neg c, if_neg (by omega)]
theorem tOz_0 (v : rv) : tOz v 162 = v := by funext j; unfold tOz; rw [if_neg (by omega)]
def tOp1 (v : rv) : rv := rc_u (rc_u (tComes (rc_u (rc_u (tOz v 199) 162 1) 172 (-1)) 0) 191 3) 193 0
def tOpen (v : rv) : rv := if v 149 ≤ 1 then tOp1 v else tComes (tOp1 v) 1
theorem tOp1_lo {v : rv} {j : Int} (h : j < 162) : tOp1 v j = v j := by
  unfold tOp1 tComes
  rw [rc_u_n _ _ (by omega), rc_u_n _ _ (by omega), rc_u_n _ _ (by omega), rc_u_n _ _ (by omega), rc_u_n _ _ (by omega), rc_u_n _ _ (by omega), rc_u_n _ _ (by omega)]
  unfold tOz; rw [if_neg (by omega)]
theorem tOp1_hi {v : rv} : tOp1 v 162 = 1 ∧ tOp1 v 163 = 0 ∧ tOp1 v 164 = 0 ∧ tOp1 v 165 = 0 ∧ tOp1 v 166 = 0 ∧ tOp1 v 167 = 0 ∧ tOp1 v 168 = 0 ∧ tOp1 v 169 = 0 ∧ tOp1 v 170 = 1 ∧ tOp1 v 171 = 0 ∧ tOp1 v 172 = -1 ∧ tOp1 v 173 = 0 ∧ tOp1 v 174 = 0 ∧ tOp1 v 191 = 3 ∧ tOp1 v 192 = 0 ∧ tOp1 v 193 = 0 ∧ tOp1 v 194 = 0 ∧ tOp1 v 195 = 0 ∧ tOp1 v 196 = 0 ∧ tOp1 v 197 = 0 ∧ tOp1 v 198 = 0 := by
  refine ⟨?_, ?_, ?_, ?_, ?_, ?_, ?_, ?_, ?_, ?_, ?_, ?_, ?_, ?_, ?_, ?_, ?_, ?_, ?_, ?_, ?_⟩ <;> simp [tOp1, tComes, rc_ue, tOz]
theorem tOpen_spec (v : rv) : (∀ j : Int, j < 162 → tOpen v j = v j) ∧ (∀ j : Int, 162 ≤ j → j < 195 → j ≠ 170 → tOpen v j = tOp1 v j) ∧ tOpen v 197 = 0 ∧ tOpen v 198 = 0 ∧
    ((v 149 ≤ 1 ∧ tOpen v 170 = 1 ∧ tOpen v 195 = 0 ∧ tOpen v 196 = 0) ∨ (¬ v 149 ≤ 1 ∧ tOpen v 170 = 2 ∧ tOpen v 195 = 1 ∧ tOpen v 196 = 1)) := by
  obtain ⟨a162, a163, a164, a165, a166, a167, a168, a169, a170, a171, a172, a173, a174, a191, a192, a193, a194, a195, a196, a197, a198⟩ := tOp1_hi (v := v)
  have lo := fun j hj => tOp1_lo (v := v) (j := j) hj
  unfold tOpen
  by_cases c : v 149 ≤ 1
  · rw [if_pos c]
    exact ⟨lo, fun _ _ _ _ => rfl, a197, a198, Or.inl ⟨c, a170, a195, a196⟩⟩
  · rw [if_neg c]
    generalize tOp1 v = w at *
    unfold tComes
    refine ⟨fun j hj => ?_, fun j h0 h1 h2 => ?_, ?_, ?_, Or.inr ⟨c, ?_, ?_, ?_⟩⟩
    · rw [rc_u_n _ _ (by omega), rc_u_n _ _ (by omega), rc_u_n _ _ (by omega)]; exact lo j hj
    · rw [rc_u_n _ _ h2, rc_u_n _ _ (by omega), rc_u_n _ _ (by omega)]
    · rw [rc_u_n _ _ (by omega), rc_u_n _ _ (by omega), rc_u_n _ _ (by omega)]; exact a197
    · rw [rc_u_n _ _ (by omega), rc_u_n _ _ (by omega), rc_u_n _ _ (by omega)]; exact a198
    · rw [rc_u_s, a170]; rfl
    · rw [rc_u_n _ _ (by omega), rc_u_n _ _ (by omega)]; rfl
    · rw [rc_u_n _ _ (by omega)]; show rc_u _ 196 (w 170) 196 = 1; rw [rc_u_s, a170]
theorem tV_open {v : rv} (s : wS v) (h1 : v 149 ≠ 0) : tV (tOpen v) := by
  obtain ⟨a162, a163, a164, a165, a166, a167, a168, a169, a170, a171, a172, a173, a174, a191, a192, a193, a194, a195, a196, a197, a198⟩ := tOp1_hi (v := v)
  obtain ⟨lo, mid, b197, b198, b⟩ := tOpen_spec v
  have s1 := s.2.1
  have u149 := lo 149 (by decide)
  have u162 := (mid 162 (by decide) (by decide) (by decide)).trans a162
  have u163 := (mid 163 (by decide) (by decide) (by decide)).trans a163
  have u165 := (mid 165 (by decide) (by decide) (by decide)).trans a165
  have u171 := (mid 171 (by decide) (by decide) (by decide)).trans a171
  have u172 := (mid 172 (by decide) (by decide) (by decide)).trans a172
  have u174 := (mid 174 (by decide) (by decide) (by decide)).trans a174
  have u191 := (mid 191 (by decide) (by decide) (by decide)).trans a191
  have u192 := (mid 192 (by decide) (by decide) (by decide)).trans a192
  have u193 := (mid 193 (by decide) (by decide) (by decide)).trans a193
  clear a162 a163 a164 a165 a166 a167 a168 a169 a170 a171 a172 a173 a174 a191 a192 a193 a194 a195 a196 a197 a198
  have su : wS (tOpen v) := wS_lo (fun j _ hj => lo j hj) s
  generalize tOpen v = u at *
  refine ⟨su, ⟨Or.inr u162, Or.inl u163, Or.inl u165, Or.inl u171, by omega, fun q => by omega, by omega, fun k k0 k1 => by omega, by omega, by omega⟩, fun _ _ => ⟨⟨by omega, by omega, u162⟩, ?_, ?_, ?_, ?_, ?_⟩⟩
  · exact wP_show (p := 0) u191 (by show 0 ≤ u 192 ∧ u 192 < u 149; omega) u165 u171 (by show 0 ≤ u 193 ∧ u 193 ≤ _; omega)
  · rcases b with ⟨c, c1, c2, c3⟩ | ⟨c, c1, c2, c3⟩
    · rw [wP1]
      exact ⟨fun q => by omega, fun q => by omega, fun q => by omega, fun q => by omega, fun q => by omega⟩
    · exact wP_idle (p := 1) (Or.inr (Or.inl c2)) (by show 0 ≤ u 196 ∧ u 196 < u 149; omega)
  · intro i j i0 i1 j1; omega
  · intro j p j0 j1 hp
    have : j = 0 := by omega
    rw [this, wE_0, u172]
    exact ⟨fun q => by omega, fun q => by omega, fun q => by omega⟩
  · unfold tThr
    rw [u172, u174, if_neg (by omega)]
    have : tCnt u (0 : Int).toNat = 0 := rfl
    rw [this]; omega
theorem x_open {G : rc_G} {r : Nat} {I : rc_M} {v : rv} {post : rc_M → Prop} (s : wS v) (R : eR I r v) (H : ∀ J : rc_M, eA J r (tOpen v) → eF r I J → post J) : wX5_open G (r + 35) (r + 1) I post := by
  obtain ⟨a162, a163, a164, a165, a166, a167, a168, a169, a170, a171, a172, a173, a174, a191, a192, a193, a194, a195, a196, a197, a198⟩ := tOp1_hi (v := v)
  obtain ⟨lo, mid, b197, b198, b⟩ := tOpen_spec v
  have s1 := s.2.1
  have u162 := (mid 162 (by decide) (by decide) (by decide)).trans a162
  have u163 := (mid 163 (by decide) (by decide) (by decide)).trans a163
  have u164 := (mid 164 (by decide) (by decide) (by decide)).trans a164
  have u165 := (mid 165 (by decide) (by decide) (by decide)).trans a165
  have u166 := (mid 166 (by decide) (by decide) (by decide)).trans a166
  have u167 := (mid 167 (by decide) (by decide) (by decide)).trans a167
  have u168 := (mid 168 (by decide) (by decide) (by decide)).trans a168
  have u169 := (mid 169 (by decide) (by decide) (by decide)).trans a169
  have u171 := (mid 171 (by decide) (by decide) (by decide)).trans a171
  have u172 := (mid 172 (by decide) (by decide) (by decide)).trans a172
  have u174 := (mid 174 (by decide) (by decide) (by decide)).trans a174
  have u191 := (mid 191 (by decide) (by decide) (by decide)).trans a191
  have u192 := (mid 192 (by decide) (by decide) (by decide)).trans a192
  have u193 := (mid 193 (by decide) (by decide) (by decide)).trans a193
  clear a162 a163 a164 a165 a166 a167 a168 a169 a170 a171 a172 a173 a174 a191 a192 a193 a194 a195 a196 a197 a198 mid
  generalize tOpen v = u at *
  -- any memory that has these cells will do
  have fin : ∀ J : rc_M, (∀ a : Nat, a ≠ r + 35 → a ≠ r + 35 + 1 → a ≠ r + 35 + 4 → a ≠ r + 35 + 5 → J a = I a) → (J (r + 35) 0 = 1 ∧ J (r + 35) 1 = 0 ∧ J (r + 35) 2 = 0 ∧ J (r + 35) 3 = 0 ∧ J (r + 35) 4 = 0 ∧ J (r + 35) 5 = 0 ∧ J (r + 35) 7 = 0 ∧ J (r + 35) 8 = u 170 ∧ J (r + 35) 9 = 0) → (J (r + 35 + 1) 0 = 0 ∧ J (r + 35 + 1) 1 = 0) →
      (J (r + 35 + 4) 0 = 3 ∧ J (r + 35 + 4) 1 = 0 ∧ J (r + 35 + 4) 2 = 0) → (J (r + 35 + 5) 0 = u 195 ∧ (u 195 ≠ 0 → J (r + 35 + 5) 1 = u 196)) → post J := by
    intro J f1 f2 f3 f4 f5
    obtain ⟨g0, g1, g2, g3, g4, g5, g7, g8, g9⟩ := f2
    refine H J ⟨eR_c s (fun a a0 a1 => f1 a (by omega) (by omega) (by omega) (by omega)) (fun j _ hj => lo j hj) R, ?_, ?_, fun p hp => ?_⟩ (fun a ha => f1 a (by omega) (by omega) (by omega) (by omega))
    · unfold eC
      rw [u162, u163, u164, u165, u166, u167, u168, u169, u171]
      exact ⟨g0, g1, g2, g3, g4, g5, g7, g8, g9⟩
    · unfold eO
      rw [u172, u174]
      exact ⟨f3.1, f3.2, fun q => by omega, fun k k0 k1 => by omega⟩
    · rcases hp with rfl | rfl
      · show eP J (r + 35 + 4) u 0
        exact ⟨by rw [f4.1]; exact u191.symm, fun _ => by rw [f4.2.1]; exact u192.symm, fun _ => by rw [f4.2.2]; exact u193.symm⟩
      · show eP J (r + 35 + 5) u 1
        have h195 : u 195 = 0 ∨ u 195 = 1 := by omega
        refine ⟨f5.1, fun q => ?_, fun q => ?_⟩
        · change (u 195 ≠ 0 ∨ (u 162 = 1 ∧ u 163 = 0 ∧ u 165 = 1)) at q
          rcases q with q | q
          · exact f5.2 q
          · omega
        · change (u 195 = 2 ∨ u 195 = 3 ∨ u 195 = 5) at q
          omega
  have i1 : I (r + 1) 1 = v 149 := R.2.1
  unfold wX5_open wX0_dropAll wX2_thread
  intro I1 e1 I2 e2 I3 e3 I4 e4 I5 e5 I6 e6 I7 e7 I8 e8 I9 e9 I10 e10 I11 e11 I12 e12 I13 e13 I14 e14 I15 e15 I16 e16
  have n1 : r + 35 ≠ r + 35 + 1 := by omega
  have n4 : r + 35 ≠ r + 35 + 4 := by omega
  have n5 : r + 35 ≠ r + 35 + 5 := by omega
  have n14 : r + 35 + 1 ≠ r + 35 + 4 := by omega
  have n15 : r + 35 + 1 ≠ r + 35 + 5 := by omega
  have n45 : r + 35 + 4 ≠ r + 35 + 5 := by omega
  generalize hs : r + 35 = sh at *
  generalize ho : sh + 1 = o at *
  generalize hp4 : sh + 4 = p4 at *
  generalize hp5 : sh + 5 = p5 at *
  -- rows one by one
  have so : ∀ a : Nat, a ≠ sh → a ≠ o → a ≠ p4 → a ≠ p5 → I16 a = I a := fun a a0 a1 a2 a3 => by
    rw [e16, qs_n _ _ _ a0, e15, qs_n _ _ _ a3, e14, qs_n _ _ _ a2, e13, qs_n _ _ _ a2, e12, qs_n _ _ _ a2, e11, qs_n _ _ _ a2, e10, qs_n _ _ _ a1, e9, qs_n _ _ _ a1, e8, qs_n _ _ _ a0, e7, qs_n _ _ _ a0, e6, qs_n _ _ _ a0, e5, qs_n _ _ _ a0, e4, qs_n _ _ _ a0, e3, qs_n _ _ _ a0, e2, qs_n _ _ _ a0, e1, qs_n _ _ _ a0]
  have s15 : I15 sh = rc_u (rc_u (rc_u (rc_u (rc_u (rc_u (rc_u (rc_u (I sh) 0 1) 1 0) 2 0) 3 0) 4 0) 5 0) 7 0) 9 0 := by
    rw [e15, qs_n _ _ _ n5, e14, qs_n _ _ _ n4, e13, qs_n _ _ _ n4, e12, qs_n _ _ _ n4, e11, qs_n _ _ _ n4, e10, qs_n _ _ _ n1, e9, qs_n _ _ _ n1, e8, qs_s, e7, qs_s, e6, qs_s, e5, qs_s, e4, qs_s, e3, qs_s, e2, qs_s, e1, qs_s]
  have s16 : I16 sh = rc_u (rc_u (rc_u (rc_u (rc_u (rc_u (rc_u (rc_u (rc_u (I sh) 0 1) 1 0) 2 0) 3 0) 4 0) 5 0) 7 0) 9 0) 8 1 := by rw [e16, qs_s, s15]
  have o16 : I16 o = rc_u (rc_u (I8 o) 0 0) 1 0 := by
    rw [e16, qs_n _ _ _ n1.symm, e15, qs_n _ _ _ n15, e14, qs_n _ _ _ n14, e13, qs_n _ _ _ n14, e12, qs_n _ _ _ n14, e11, qs_n _ _ _ n14, e10, qs_s, e9, qs_s]
  have p16 : I16 p4 = rc_u (rc_u (rc_u (rc_u (I10 p4) 0 1) 1 0) 0 3) 2 0 := by
    rw [e16, qs_n _ _ _ n4.symm, e15, qs_n _ _ _ n45, e14, qs_s, e13, qs_s, e12, qs_s, e11, qs_s]
  have r16 : I16 p5 = rc_u (I14 p5) 0 0 := by rw [e16, qs_n _ _ _ n5.symm, e15, qs_s]
  have l1 : I16 (r + 1) 1 = v 149 := by rw [so _ (by omega) (by omega) (by omega) (by omega)]; exact i1
  rw [l1]
  refine ⟨by unfold rc_R; omega, fun c => ?_, fun c J1 f1 J2 f2 J3 f3 => ?_⟩
  · have c2 : u 170 = 1 ∧ u 195 = 0 := by
      rcases b with x | x
      · exact ⟨x.2.1, x.2.2.1⟩
      · exact absurd c x.1
    refine fin I16 so ?_ ?_ ?_ ?_
    · rw [s16, c2.1]; simp [rc_ue]
    · rw [o16]; simp [rc_ue]
    · rw [p16]; simp [rc_ue]
    · rw [r16, c2.2]; simp [rc_ue]
  · have c2 : u 170 = 2 ∧ u 195 = 1 ∧ u 196 = 1 := by
      rcases b with x | x
      · exact absurd x.1 c
      · exact x.2
    refine fin J3 (fun a a0 a1 a2 a3 => by rw [f3, qs_n _ _ _ a0, f2, qs_n _ _ _ a3, f1, qs_n _ _ _ a3]; exact so a a0 a1 a2 a3) ?_ ?_ ?_ ?_
    · rw [f3, qs_s, f2, qs_n _ _ _ n5, f1, qs_n _ _ _ n5, s16, c2.1]; simp [rc_ue]
    · rw [f3, qs_n _ _ _ n1.symm, f2, qs_n _ _ _ n15, f1, qs_n _ _ _ n15, o16]; simp [rc_ue]
    · rw [f3, qs_n _ _ _ n4.symm, f2, qs_n _ _ _ n45, f1, qs_n _ _ _ n45, p16]; simp [rc_ue]
    · rw [f3, qs_n _ _ _ n5.symm, f2, qs_s, f1, qs_s, c2.2.1, c2.2.2]; simp [rc_ue]
