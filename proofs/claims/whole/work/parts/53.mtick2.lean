/-! ===== pure part: a tick of the reference, its other steps ===== -/
theorem m_starts {G : rc_G} {m : Nat} {I : rc_M} {v : rv} {g : Int} {post : rc_M → Prop} (s : wS v) (hh : wH v) (hg : 0 ≤ g ∧ g ≤ 1) (k : wK g v) (h : post (rc_w I (m + 1) (tStart v))) : wX8_starts G m (rc_w I (m + 1) v) post := by
  obtain ⟨_, _, q165, q171, _, _, _, _, q191, q195⟩ := id hh
  obtain ⟨_, kP0, kP1, _⟩ := id k
  have kP : ∀ p : Int, p = 0 ∨ p = 1 → wP g v p := fun p hp => by rcases hp with rfl | rfl <;> assumption
  have qs : ∀ p : Int, p = 0 ∨ p = 1 → 0 ≤ v (191 + 4 * p) ∧ v (191 + 4 * p) ≤ 5 := fun p hp => by rcases hp with rfl | rfl <;> assumption
  unfold tStart at h
  unfold wX8_starts
  simp only [rc_w_s]
  obtain ⟨f, e165⟩ : ∃ f, f = v 165 := ⟨_, rfl⟩
  rw [← e165] at h q165 ⊢
  have hf := qs f q165
  have hb := qs (1 - f) (by omega)
  have PF := kP f q165
  obtain ⟨b1, b2, b3, bL⟩ := wS_R s (PF.1 (Or.inr e165.symm))
  have wl1 := bL.1
  have s1 := s.2.2.2.1
  have e0 : (191 + 4 * f) + 0 = 191 + 4 * f := by omega
  have e2 : (191 + 4 * f) + 2 = 193 + 4 * f := by omega
  have g0 : (191 + 4 * (1 - f)) + 0 = 191 + 4 * (1 - f) := by omega
  have g2 : (191 + 4 * (1 - f)) + 2 = 193 + 4 * (1 - f) := by omega
  unfold tStart1 at h
  -- the part behind the question whether it is time
  have T : ∀ x4 y0 : Int, rc_R x4 → (y0 = 0 ∨ y0 = 1) → (y0 = 1 ↔ (v 171 = 1 ∨ (v (191 + 4 * f) = 3 ∧ v 171 = 0 ∧ tLen v f - v 142 ≤ v (193 + 4 * f)))) → (v 171 ≠ 1 → y0 = 1 → x4 = tLen v f - v 142) →
      wX8_starts_104 G post m f (1 - f) x4 y0 (rc_w I (m + 1) v) := by
    intro x4 y0 hx hy hiff hx4
    unfold wX8_starts_104 wX8_on
    simp only [rc_w_s, e0, e2, g0, g2]
    refine ⟨by omega, by unfold rc_R; omega, fun n1 => ?_, fun n1 => ⟨by unfold rc_R; omega, fun n2 => ?_, fun n2 => ⟨by omega, fun I20 e20 => ?_⟩⟩⟩
    · rw [if_neg (fun q => n1 q.1)] at h; exact h
    · rw [if_neg (fun q => absurd (hiff.mpr q.2) (by omega))] at h; exact h
    · have y1 : y0 = 1 := by omega
      have hc := hiff.mp y1
      rw [if_pos ⟨n1, hc⟩] at h
      subst e20
      rw [pS]
      refine ⟨by omega, fun I24 e24 => ?_⟩
      subst e24
      have a141 : rc_u v (191 + 4 * (1 - f)) 2 141 = v 141 := rc_u_n _ _ (by omega)
      rw [rc_w_s, a141, pS]
      generalize hw : rc_u (rc_u v (191 + 4 * (1 - f)) 2) (193 + 4 * (1 - f)) (-(v 141)) = w at h ⊢
      have a168 : w 168 = v 168 := by rw [← hw, rc_u_n _ _ (by omega), rc_u_n _ _ (by omega)]
      have a171 : w 171 = v 171 := by rw [← hw, rc_u_n _ _ (by omega), rc_u_n _ _ (by omega)]
      have afr : w (193 + 4 * f) = v (193 + 4 * f) := by rw [← hw, rc_u_n _ _ (by omega), rc_u_n _ _ (by omega)]
      rw [rc_w_s, a171, a168, afr]
      refine ⟨by unfold rc_R; omega, fun n3 => ?_, fun n3 => ⟨by omega, ?_, hx, fun n4 => ?_, fun n4 => ?_⟩⟩
      · unfold wX8_starts_191 wX8_starts_196
        refine ⟨by omega, fun I28 e28 => ?_⟩
        subst e28
        rw [if_pos (Or.inl n3)] at h
        rw [pS]; exact h
      · have d := (kP f q165).2.2.1
        unfold rc_R; omega
      · unfold wX8_starts_196
        refine ⟨by omega, fun I28 e28 => ?_⟩
        subst e28
        have := hx4 n3 y1
        rw [if_neg (by omega)] at h
        rw [pS]; exact h
      · unfold wX8_starts_191 wX8_starts_196
        refine ⟨by omega, fun I28 e28 => ?_⟩
        subst e28
        have := hx4 n3 y1
        rw [if_pos (by omega)] at h
        rw [pS]; exact h
  have U : ∀ x3 y0 : Int, rc_R y0 → (x3 = 0 ∨ x3 = 1) → (x3 = 1 → v (191 + 4 * f) = 3 ∧ v 171 = 0 ∧ y0 = tLen v f - v 142) → (x3 = 0 → ¬ (v (191 + 4 * f) = 3 ∧ v 171 = 0)) →
      wX8_starts_66 G post m f (1 - f) x3 y0 (rc_w I (m + 1) v) := by
    intro x3 y0 hy hx h1 h0
    unfold wX8_starts_66 wX8_starts_99 wX8_starts_103 wX8_on
    simp only [rc_w_s, e2]
    refine ⟨by unfold rc_R; omega, fun n1 => ?_, fun n1 => ⟨by unfold rc_R; omega, fun n2 => ?_, fun n2 => ⟨by omega, ?_, hy, fun n3 => ?_, fun n3 => ?_⟩⟩⟩
    · exact T _ 1 hy (Or.inr rfl) ⟨fun _ => Or.inl n1, fun _ => rfl⟩ (fun q => absurd n1 q)
    · exact T _ 0 hy (Or.inl rfl) ⟨fun q => absurd q (by omega), fun q => by
        rcases q with q | q
        · exact absurd q n1
        · exact absurd ⟨q.1, q.2.1⟩ (h0 n2)⟩ (fun _ q => absurd q (by omega))
    · have a := h1 (by omega)
      have d := (kP f q165).2.2.1 a.1
      unfold rc_R; omega
    · have a := h1 (by omega)
      exact T _ 0 hy (Or.inl rfl) ⟨fun q => absurd q (by omega), fun q => by omega⟩ (fun _ q => absurd q (by omega))
    · have a := h1 (by omega)
      exact T _ 1 hy (Or.inr rfl) ⟨fun _ => Or.inr ⟨a.1, a.2.1, by omega⟩, fun _ => rfl⟩ (fun _ _ => a.2.2)
  unfold wX8_starts_42 wX8_starts_43 wX8_on
  simp only [rc_w_s, e0]
  refine ⟨by omega, by unfold rc_R; omega, fun n1 => ⟨rc_R0, fun _ => ?_, fun q => absurd trivial q⟩, fun n1 => ⟨by unfold rc_R; omega, fun n2 => ⟨rc_R0, fun _ => ?_, fun q => absurd trivial q⟩, fun n2 => ⟨by unfold rc_R; omega, fun q => absurd q (by omega), fun _ => ?_⟩⟩⟩
  · exact U 0 0 rc_R0 (Or.inl rfl) (fun q => absurd q (by omega)) (fun _ q => n1 q.1)
  · exact U 0 0 rc_R0 (Or.inl rfl) (fun q => absurd q (by omega)) (fun _ q => n2 q.2)
  · refine m_lengthOn q165 b1 b2 ?_
    rw [rc_w_s]
    refine U 1 _ ?_ (Or.inr rfl) (fun _ => ⟨n1, n2, rfl⟩) (fun q => absurd q (by omega))
    unfold tLen
    unfold rc_R; omega
theorem m_go1 {G : rc_G} {m : Nat} {I : rc_M} {v : rv} {p : Int} {post : rc_M → Prop} {k2 : Int → rc_M → Prop} (hp : p = 0 ∨ p = 1) (hs : 0 ≤ v (191 + 4 * p) ∧ v (191 + 4 * p) ≤ 5) (h : k2 (p + 1) (rc_w I (m + 1) (tGo1 v p))) :
    wX8_goes_2 G post m k2 p (rc_w I (m + 1) v) := by
  have e0 : (191 + 4 * p) + 0 = 191 + 4 * p := by omega
  have e2 : (191 + 4 * p) + 2 = 193 + 4 * p := by omega
  have F : ∀ x : Int, x = (if v (191 + 4 * p) = 2 ∨ v (191 + 4 * p) = 3 then 1 else 0) → wX8_goes_51 G post m k2 p x (v (193 + 4 * p)) (193 + 4 * p) (rc_w I (m + 1) v) := by
    intro x hx
    unfold wX8_goes_51
    refine ⟨by omega, fun J e => ?_⟩
    subst e
    rw [pS]
    unfold tGo1 at h
    by_cases c : v (191 + 4 * p) = 2 ∨ v (191 + 4 * p) = 3
    · rw [if_pos c] at h hx; rw [hx]; exact h
    · rw [if_neg c] at h hx
      have e : rc_u v (193 + 4 * p) (v (193 + 4 * p) + x) = v := by
        funext j; rw [rc_ue, hx]; by_cases q : j = 193 + 4 * p
        · rw [if_pos q, q]; omega
        · rw [if_neg q]
      rw [e]; exact h
  unfold wX8_goes_2 wX8_goes_46 wX8_on
  simp only [rc_w_s, e0, e2]
  refine ⟨by unfold rc_R; omega, fun q => absurd q (by omega), fun _ => ⟨by omega, by omega, by unfold rc_R; omega, fun q => ?_, fun q => ⟨by omega, by unfold rc_R; omega, fun q2 => ?_, fun q2 => ?_⟩⟩⟩
  · exact F 1 (by rw [if_pos (Or.inl q)])
  · exact F 0 (by rw [if_neg (by omega)])
  · exact F 1 (by rw [if_pos (Or.inr q2)])
theorem tGo1_n {v : rv} {p : Int} {j : Int} (h : j ≠ 193 + 4 * p) : tGo1 v p j = v j := by
  unfold tGo1; by_cases c : v (191 + 4 * p) = 2 ∨ v (191 + 4 * p) = 3
  · rw [if_pos c, rc_u_n _ _ h]
  · rw [if_neg c]
theorem m_goes {G : rc_G} {m : Nat} {I : rc_M} {v : rv} {post : rc_M → Prop} (hh : wH v) (h : post (rc_w I (m + 1) (tGo v))) : wX8_goes G m (rc_w I (m + 1) v) post := by
  obtain ⟨_, _, _, _, _, _, _, _, q191, q195⟩ := id hh
  refine ⟨3, ?_⟩
  show wX8_goes_2 G post m (rX8_goes_2 G post m 2) 0 (rc_w I (m + 1) v)
  refine m_go1 (Or.inl rfl) q191 ?_
  show wX8_goes_2 G post m (rX8_goes_2 G post m 1) 1 _
  refine m_go1 (Or.inr rfl) ?_ ?_
  · rw [tGo1_n (by omega)]; exact q195
  · show wX8_goes_2 G post m (rX8_goes_2 G post m 0) 2 _
    unfold wX8_goes_2
    exact ⟨by unfold rc_R; omega, fun _ => h, fun q => absurd q (by omega)⟩
def tIn (w : rv) (x : Int) : rv := fun j => if 175 + x < j ∧ j ≤ 175 + w 174 then w (j - 1) else w j
theorem tIn_u (w : rv) {x : Int} (h : 0 < x ∧ x ≤ w 174) : rc_u (tIn w x) (175 + x) (tIn w x ((175 + x) - 1)) = tIn w (x - 1) := by
  funext j
  unfold rc_u tIn
  by_cases e : j = 175 + x
  · subst e
    rw [if_pos rfl, if_neg (by omega), if_pos (by omega)]
  · rw [if_neg e]
    by_cases c : 175 + x < j ∧ j ≤ 175 + w 174
    · rw [if_pos c, if_pos (by omega)]
    · rw [if_neg c, if_neg (by omega)]
theorem tIn_n (w : rv) {x j : Int} (h : j ≤ 175 + x) : tIn w x j = w j := by unfold tIn; rw [if_neg (by omega)]
theorem tIn_m (w : rv) {x j : Int} (h : 175 + w 174 < j) : tIn w x j = w j := by unfold tIn; rw [if_neg (by omega)]
theorem m_wears_133 {G : rc_G} {m : Nat} {I : rc_M} {w : rv} {f : Int} {post : rc_M → Prop} (hf : f = 0 ∨ f = 1) (h0 : 0 ≤ w 174 ∧ w 174 ≤ 6) (hs : 0 ≤ w (191 + 4 * (1 - f)) ∧ w (191 + 4 * (1 - f)) ≤ 5)
    (h : post (rc_w I (m + 1) (tBrk3 (tBrk2 w f) f))) : ∃ n, rX8_wears_133 G post m n f (w 174) (rc_w I (m + 1) w) := by
  have L : ∀ (d : Nat) (x : Int), x ≤ w 174 → x = d → ∃ n, rX8_wears_133 G post m n f x (rc_w I (m + 1) (tIn w x)) := by
    intro d
    induction d with
    | zero =>
      intro x x0 hd
      refine ⟨1, ?_⟩
      show wX8_wears_133 G post m _ f x (rc_w I (m + 1) (tIn w x))
      have ex : x = 0 := by omega
      subst ex
      have eI : tIn w 0 = tIns w := by funext j; unfold tIn tIns; rw [show (175 : Int) + 0 = 175 by omega]
      rw [eI]
      unfold wX8_wears_133
      refine ⟨rc_R0, fun _ => ?_, fun q => absurd q (by omega)⟩
      intro I38 e38; subst e38
      rw [pS]
      intro I39 e39; subst e39
      rw [pS, rc_w_s, rc_u_n _ _ (show (174 : Int) ≠ 175 by omega)]
      have e174 : tIns w 174 = w 174 := by unfold tIns; rw [if_neg (by omega)]
      rw [e174]
      change wX8_on G (1 - f) 0 (rc_w I (m + 1) (tBrk2 w f)) _
      have eb : tBrk2 w f (191 + 4 * (1 - f)) = w (191 + 4 * (1 - f)) := by
        unfold tBrk2 tIns; rw [rc_u_n _ _ (by omega), rc_u_n _ _ (by omega), if_neg (by omega)]
      have g0 : (191 + 4 * (1 - f)) + 0 = 191 + 4 * (1 - f) := by omega
      unfold tBrk3 at h
      unfold wX8_on wX8_wears_233
      simp only [rc_w_s, g0]
      rw [eb] at h ⊢
      refine ⟨by omega, by unfold rc_R; omega, fun n1 => ⟨by omega, by omega, fun J e => ?_⟩, fun n1 => ⟨by omega, fun J e => ?_⟩⟩
      · rw [if_neg n1] at h
        subst e
        rw [pS]
        have ee : rc_u (tBrk2 w f) (191 + 4 * (1 - f)) (w (191 + 4 * (1 - f))) = tBrk2 w f := by
          funext j; rw [rc_ue]; by_cases q : j = 191 + 4 * (1 - f)
          · rw [if_pos q, q, eb]
          · rw [if_neg q]
        rw [ee]; exact h
      · rw [if_pos n1] at h
        subst e
        rw [pS]; exact h
    | succ d ih =>
      intro x x0 hd
      obtain ⟨n, hn⟩ := ih (x - 1) (by omega) (by omega)
      refine ⟨n + 1, ?_⟩
      show wX8_wears_133 G post m (rX8_wears_133 G post m n) f x (rc_w I (m + 1) (tIn w x))
      unfold wX8_wears_133
      refine ⟨by unfold rc_R; omega, fun q => absurd q (by omega), fun _ => ⟨by omega, by omega, fun J e => ?_⟩⟩
      subst e
      rw [pS, rc_w_s, tIn_u w (by omega)]; exact hn
  have := L (w 174).toNat (w 174) (by omega) (by omega)
  have e : tIn w (w 174) = w := by funext j; unfold tIn; rw [if_neg (by omega)]
  rw [e] at this; exact this
theorem m_wears {G : rc_G} {m : Nat} {I : rc_M} {v : rv} {g : Int} {post : rc_M → Prop} (s : wS v) (hh : wH v) (hg : 0 ≤ g ∧ g ≤ 1) (k : wK g v) (h : post (rc_w I (m + 1) (tWear v))) : wX8_wears G m (rc_w I (m + 1) v) post := by
  obtain ⟨_, _, q165, q171, _, _, q174, _, q191, q195⟩ := id hh
  obtain ⟨_, kP0, kP1, _⟩ := id k
  have kP : ∀ p : Int, p = 0 ∨ p = 1 → wP g v p := fun p hp => by rcases hp with rfl | rfl <;> assumption
  have qs : ∀ p : Int, p = 0 ∨ p = 1 → 0 ≤ v (191 + 4 * p) ∧ v (191 + 4 * p) ≤ 5 := fun p hp => by rcases hp with rfl | rfl <;> assumption
  unfold tWear at h
  unfold wX8_wears
  simp only [rc_w_s]
  obtain ⟨f, e165⟩ : ∃ f, f = v 165 := ⟨_, rfl⟩
  rw [← e165] at h q165 ⊢
  have hf := qs f q165
  have hb := qs (1 - f) (by omega)
  have PF := kP f q165
  have PB := PF.1 (Or.inr e165.symm)
  obtain ⟨b1, b2, b3, bL⟩ := wS_R s PB
  have wl1 := bL.1
  have e0 : (191 + 4 * f) + 0 = 191 + 4 * f := by omega
  have e2 : (191 + 4 * f) + 2 = 193 + 4 * f := by omega
  have e3 : (191 + 4 * f) + 3 = 194 + 4 * f := by omega
  unfold tWear1 at h
  unfold wX8_on
  simp only [rc_w_s, e0, e2]
  refine ⟨by omega, by unfold rc_R; omega, fun n1 => ?_, fun n1 => ?_⟩
  · refine m_reelOn q165 b1 ?_
    simp only [rc_w_s]
    have d := PF.2.2.1 n1
    refine ⟨by omega, m_strengthAt bL b2 (by unfold rc_R; omega) ?_⟩
    have w2 := bL.2.1
    rcases tK_spec v (tR v f) (v (193 + 4 * f)) with ⟨a, b, c⟩ | ⟨a, _⟩
    · rw [if_pos ⟨n1, a⟩] at h
      rw [if_pos a]
      generalize tK v (tR v f) (v (193 + 4 * f)) = k at *
      have st := (bL.2.2.1 k a b).2
      generalize hz : 4 + 14 * tR v f + 2 * k = z at *
      simp only [rc_w_s]
      have W : ∀ y0 : Int, y0 = (if v z ≤ 0 then 0 else 1) → wX8_wears_70 G post m f z y0 (v z) z (rc_w I (m + 1) v) := by
        intro y0 hy
        unfold wX8_wears_70
        refine ⟨by omega, fun J e => ?_⟩
        subst e
        rw [pS, rc_w_s, rc_u_s]
        refine ⟨by omega, by unfold rc_R; omega, fun n2 => ?_, fun n2 => ?_⟩
        · rw [if_neg (by omega)] at h
          have : y0 = 1 := by omega
          subst this; exact h
        · rw [if_pos (by omega)] at h
          rw [n2]
          generalize hw : rc_u v z 0 = w at h ⊢
          have wn : ∀ j : Int, 141 ≤ j → w j = v j := fun j hj => by rw [← hw, rc_u_n _ _ (by omega)]
          unfold wX8_on
          simp only [rc_w_s, e0, e2, e3]
          refine ⟨by omega, fun J e => ?_⟩
          subst e
          rw [pS, rc_w_s]
          refine ⟨by omega, by omega, fun J e => ?_⟩
          subst e
          rw [pS]
          intro J e
          subst e
          simp only [pS, rc_w_s]
          rw [rc_u_n _ _ (show (193 : Int) + 4 * f ≠ 191 + 4 * f by omega), rc_u_n _ _ (show (169 : Int) ≠ 194 + 4 * f by omega), rc_u_n _ _ (show (169 : Int) ≠ 191 + 4 * f by omega)]
          change ∃ n, rX8_wears_133 G post m n f (tBrk w f 174) (rc_w I (m + 1) (tBrk w f))
          have t174 : tBrk w f 174 = v 174 := by unfold tBrk; rw [rc_u_n _ _ (by omega), rc_u_n _ _ (by omega), rc_u_n _ _ (by omega)]; exact wn _ (by omega)
          have tb : tBrk w f (191 + 4 * (1 - f)) = v (191 + 4 * (1 - f)) := by unfold tBrk; rw [rc_u_n _ _ (by omega), rc_u_n _ _ (by omega), rc_u_n _ _ (by omega)]; exact wn _ (by omega)
          exact m_wears_133 q165 (by rw [t174]; exact q174) (by rw [tb]; exact hb) h
      refine ⟨by unfold rc_R; omega, fun _ => ⟨by omega, by omega, by unfold rc_R; omega, fun q => W 0 (by rw [if_pos q]), fun q => W 1 (by rw [if_neg q])⟩, fun q => absurd q (by omega)⟩
    · rw [if_neg (by omega)] at h
      rw [if_neg (by omega)]
      exact ⟨by unfold rc_R; omega, fun q => absurd q (by omega), fun _ => h⟩
  · rw [if_neg (fun q => n1 q.1)] at h; exact h
theorem m_threads {G : rc_G} {m : Nat} {I : rc_M} {v : rv} {post : Int → rc_M → Prop} (q172 : -1 ≤ v 172 ∧ v 172 ≤ 5) (q174 : 0 ≤ v 174 ∧ v 174 ≤ 8) (qrow : ∀ k : Int, 0 ≤ k → k < v 174 → 0 ≤ v (175 + k) ∧ v (175 + k) ≤ 5)
    (h : post (tThr v) (rc_w I (m + 1) v)) : wX8_threads G m (rc_w I (m + 1) v) post := by
  have L : ∀ (d : Nat) (x a y : Int), 0 ≤ x → v 174 - x = d → a = y + tCnt v x.toNat → (post (y + tCnt v (v 174).toNat) (rc_w I (m + 1) v)) → ∃ n, rX8_threads_33 G post m n a x (rc_w I (m + 1) v) := by
    intro d
    induction d with
    | zero =>
      intro x a y x0 hd ha hp
      refine ⟨1, ?_⟩
      show wX8_threads_33 G post m _ a x (rc_w I (m + 1) v)
      unfold wX8_threads_33
      simp only [rc_w_s]
      have e : x = v 174 := by omega
      refine ⟨by unfold rc_R; omega, by unfold rc_R; omega, fun _ => ?_, fun q => absurd q (by omega)⟩
      rw [ha, e]; exact hp
    | succ d ih =>
      intro x a y x0 hd ha hp
      have qx := qrow x x0 (by omega)
      have et : (x + 1).toNat = x.toNat + 1 := by omega
      have en : 175 + ((x.toNat : Nat) : Int) = 175 + x := by omega
      have ec : tCnt v (x + 1).toNat = tCnt v x.toNat + (if v (175 + x) % 3 = 1 then 1 else 0) := by rw [et, tCnt, en]
      obtain ⟨n, hn⟩ := ih (x + 1) (a + (if v (175 + x) % 3 = 1 then 1 else 0)) y (by omega) (by omega) (by rw [ec, ha]; omega) hp
      refine ⟨n + 1, ?_⟩
      show wX8_threads_33 G post m (rX8_threads_33 G post m n) a x (rc_w I (m + 1) v)
      unfold wX8_threads_33 wX8_threads_67
      simp only [rc_w_s]
      refine ⟨by unfold rc_R; omega, by unfold rc_R; omega, fun q => absurd q (by omega), fun _ => ⟨by omega, by omega, by unfold rc_R; omega, fun q => ?_, fun q => ?_⟩⟩
      · rw [if_neg q] at hn; exact hn
      · rw [if_pos q] at hn; exact hn
  unfold tThr at h
  unfold wX8_threads wX8_threads_29 wX8_threads_30
  simp only [rc_w_s]
  have c0 : tCnt v (0 : Int).toNat = 0 := rfl
  refine ⟨by unfold rc_R; omega, fun q => ?_, fun q => ⟨by omega, by unfold rc_R; omega, fun q2 => ?_, fun q2 => ?_⟩⟩
  · rw [if_neg (by omega)] at h
    exact L (v 174).toNat 0 0 0 (by omega) (by omega) (by rw [c0]; rfl) h
  · rw [if_neg (by omega)] at h
    exact L (v 174).toNat 0 0 0 (by omega) (by omega) (by rw [c0]; rfl) h
  · rw [if_pos (by omega)] at h
    exact L (v 174).toNat 0 1 1 (by omega) (by omega) (by rw [c0]; rfl) h
theorem m_adds {G : rc_G} {m : Nat} {I : rc_M} {v : rv} {c : Int} {post : rc_M → Prop} (q174 : 0 ≤ v 174 ∧ v 174 ≤ 8) (h : post (rc_w I (m + 1) (tAdd v c))) : wX8_adds G m c (rc_w I (m + 1) v) post := by
  unfold wX8_adds
  simp only [rc_w_s]
  refine ⟨by omega, fun J e => ?_⟩
  subst e
  rw [pS]
  intro J e
  subst e
  rw [pS, rc_w_s, rc_u_n _ _ (show (174 : Int) ≠ 175 + v 174 by omega)]
  exact h
theorem tAdd_n {v : rv} {c j : Int} (h : j ≠ 175 + v 174) (h2 : j ≠ 174) : tAdd v c j = v j := by unfold tAdd; rw [rc_u_n _ _ h2, rc_u_n _ _ h]
theorem tAdd_s (v : rv) (c : Int) : tAdd v c 174 = v 174 + 1 := by unfold tAdd; rw [rc_u_s]
theorem m_ord {G : rc_G} {m : Nat} {I : rc_M} {w : rv} {f : Int} {post : rc_M → Prop} (hf : f = 0 ∨ f = 1) (q172 : -1 ≤ w 172 ∧ w 172 ≤ 5) (q174 : 0 ≤ w 174 ∧ w 174 ≤ 6) (qrow : ∀ k : Int, 0 ≤ k → k < w 174 → 0 ≤ w (175 + k) ∧ w (175 + k) ≤ 5)
    (q1 : 0 ≤ w 149 ∧ w 149 ≤ 12) (q2 : 1 ≤ w 170 ∧ w 170 ≤ w 149) (qt : 0 ≤ tThr (tAdd w (3 * f)) ∧ tThr (tAdd w (3 * f)) ≤ 100)
    (h : post (rc_w I (m + 1) (tOrd w f))) :
    wX8_adds G m (3 * f + 0) (rc_w I (m + 1) w) (fun I31 => wX8_threads G m I31 (fun r33 I32 => rc_R ((I31 (m + 1) 149) - (I31 (m + 1) 170)) ∧ (rc_R r33 ∧ ((((I31 (m + 1) 149) - (I31 (m + 1) 170)) ≤ r33 → post I32) ∧ (¬ ((I31 (m + 1) 149) - (I31 (m + 1) 170)) ≤ r33 → wX8_adds G m ((3 * f) + 1) I32 (fun I37 => post I37)))))) := by
  rw [show 3 * f + 0 = 3 * f by omega]
  refine m_adds (by omega) ?_
  unfold tOrd at h
  have a174 := tAdd_s w (3 * f)
  have a172 : tAdd w (3 * f) 172 = w 172 := tAdd_n (by omega) (by omega)
  have a149 : tAdd w (3 * f) 149 = w 149 := tAdd_n (by omega) (by omega)
  have a170 : tAdd w (3 * f) 170 = w 170 := tAdd_n (by omega) (by omega)
  refine m_threads (by rw [a172]; exact q172) (by rw [a174]; omega) (fun k k0 k1 => ?_) ?_
  · rw [a174] at k1
    rcases Int.lt_or_eq_of_le (show k ≤ w 174 by omega) with c | c
    · rw [tAdd_n (by omega) (by omega)]; exact qrow k k0 c
    · subst c; unfold tAdd; rw [rc_u_n _ _ (by omega), rc_u_s]; omega
  · simp only [rc_w_s, a149, a170]
    refine ⟨by unfold rc_R; omega, by unfold rc_R; omega, fun c => ?_, fun c => ?_⟩
    · rw [if_pos c] at h; exact h
    · rw [if_neg c] at h
      exact m_adds (by rw [a174]; omega) h
theorem tCnt_le (v : rv) (n : Nat) : 0 ≤ tCnt v n ∧ tCnt v n ≤ n := by
  induction n with
  | zero => exact ⟨by simp [tCnt], by simp [tCnt]⟩
  | succ n ih =>
    rw [tCnt]
    by_cases c : v (175 + (n : Int)) % 3 = 1
    · rw [if_pos c]; omega
    · rw [if_neg c]; omega
theorem tThr_le (v : rv) (h : 0 ≤ v 174 ∧ v 174 ≤ 8) : 0 ≤ tThr v ∧ tThr v ≤ 100 := by
  have := tCnt_le v (v 174).toNat
  unfold tThr
  by_cases c : 0 ≤ v 172 ∧ v 172 % 3 = 1
  · rw [if_pos c]; omega
  · rw [if_neg c]; omega
theorem m_runsOut {G : rc_G} {m : Nat} {I : rc_M} {v : rv} {post : rc_M → Prop} (s : wS v) (hh : wH v) (k : wK 1 v) (h : post (rc_w I (m + 1) (tRun v))) : wX8_runsOut G m (rc_w I (m + 1) v) post := by
  obtain ⟨_, _, q165, q171, q172, _, q174, qrow, q191, q195⟩ := id hh
  obtain ⟨k170, kP0, kP1, _⟩ := id k
  have kP : ∀ p : Int, p = 0 ∨ p = 1 → wP 1 v p := fun p hp => by rcases hp with rfl | rfl <;> assumption
  have qs : ∀ p : Int, p = 0 ∨ p = 1 → 0 ≤ v (191 + 4 * p) ∧ v (191 + 4 * p) ≤ 5 := fun p hp => by rcases hp with rfl | rfl <;> assumption
  unfold tRun at h
  unfold wX8_runsOut
  simp only [rc_w_s]
  obtain ⟨f, e165⟩ : ∃ f, f = v 165 := ⟨_, rfl⟩
  rw [← e165] at h q165 ⊢
  have hf := qs f q165
  have PF := kP f q165
  have PB := PF.1 (Or.inr e165.symm)
  obtain ⟨b1, b2, b3, bL⟩ := wS_R s PB
  have wl1 := bL.1
  have s2 := s.2.1
  have s1 := s.2.2.2.1
  have e0 : (191 + 4 * f) + 0 = 191 + 4 * f := by omega
  have e1 : (191 + 4 * f) + 1 = 192 + 4 * f := by omega
  have e2 : (191 + 4 * f) + 2 = 193 + 4 * f := by omega
  unfold tRun1 at h
  unfold wX8_on
  simp only [rc_w_s, e0, e1]
  refine ⟨by omega, by unfold rc_R; omega, fun n1 => ?_, fun n1 => ⟨by unfold rc_R; omega, fun n2 => ?_, fun n2 => ?_⟩⟩
  · rw [if_neg (fun q => n1 q.1)] at h; exact h
  · have d := PF.2.2.1 n1
    have z171 : v 171 = 0 := by omega
    have X : ∀ y0 : Int, y0 = (if v (192 + 4 * f) = v 149 - 1 then 1 else 0) → wX8_runsOut_64 G post m f y0 (rc_w I (m + 1) v) := by
      intro y0 hy
      unfold wX8_runsOut_64
      refine m_lengthOn q165 b1 b2 ?_
      rw [rc_w_s]
      have Y : ∀ z : Int, z = (if v (192 + 4 * f) = v 149 - 1 then 0 else v 143) → wX8_runsOut_86 G post m f y0 z (tLen v f) (rc_w I (m + 1) v) := by
        intro z hz
        rw [← hz] at h
        unfold wX8_runsOut_86 wX8_on
        simp only [rc_w_s, e0, e2]
        have rz : 0 ≤ z ∧ z ≤ 50 := by
          rw [hz]; by_cases c : v (192 + 4 * f) = v 149 - 1
          · rw [if_pos c]; omega
          · rw [if_neg c]; omega
        refine ⟨by omega, by unfold rc_R; omega, by unfold tLen; unfold rc_R; omega, fun n3 => ⟨by omega, fun J e => ?_⟩, fun n3 => ?_⟩
        · rw [if_pos ⟨n1, z171, n3⟩] at h
          subst e
          rw [pS]
          intro J e
          subst e
          rw [pS]
          by_cases c : v (192 + 4 * f) = v 149 - 1
          · rw [if_pos c] at h hy
            refine ⟨by unfold rc_R; omega, fun q => absurd q (by omega), fun _ J e => ?_⟩
            subst e
            rw [pS]; exact h
          · rw [if_neg c] at h hy
            refine ⟨by unfold rc_R; omega, fun _ => ?_, fun q => absurd hy q⟩
            generalize hw : rc_u (rc_u v (191 + 4 * f) 4) 171 1 = w at h ⊢
            have wn : ∀ j : Int, j ≠ 191 + 4 * f → j ≠ 171 → w j = v j := fun j j1 j2 => by rw [← hw, rc_u_n _ _ j2, rc_u_n _ _ j1]
            refine m_ord q165 (by rw [wn 172 (by omega) (by omega)]; exact q172) (by rw [wn 174 (by omega) (by omega)]; exact q174) (fun k k0 k1 => ?_) (by rw [wn 149 (by omega) (by omega)]; exact s2) (by rw [wn 149 (by omega) (by omega), wn 170 (by omega) (by omega)]; exact ⟨k170.1, k170.2.1⟩) (tThr_le _ (by rw [tAdd_s, wn 174 (by omega) (by omega)]; omega)) h
            rw [wn 174 (by omega) (by omega)] at k1
            rw [wn _ (by omega) (by omega)]; exact qrow k k0 k1
        · rw [if_neg (fun q => n3 q.2.2)] at h; exact h
      by_cases c : v (192 + 4 * f) = v 149 - 1
      · rw [if_pos c] at hy
        exact ⟨by unfold rc_R; omega, fun q => absurd q (by omega), fun _ => Y 0 (by rw [if_pos c])⟩
      · rw [if_neg c] at hy
        exact ⟨by unfold rc_R; omega, fun _ => Y _ (by rw [if_neg c]), fun q => absurd hy q⟩
    refine ⟨by omega, by unfold rc_R; omega, by unfold rc_R; omega, fun c => X 0 (by rw [if_neg c]), fun c => X 1 (by rw [if_pos c])⟩
  · rw [if_neg (fun q => absurd q.2.1 (by omega))] at h; exact h
theorem m_changes {G : rc_G} {m : Nat} {I : rc_M} {v : rv} {post : rc_M → Prop} (hh : wH v) (hb : ∀ p : Int, p = 0 ∨ p = 1 → v (191 + 4 * p) = 2 → rc_R (v (193 + 4 * p))) (h : post (rc_w I (m + 1) (tChange v))) : wX8_changes G m (rc_w I (m + 1) v) post := by
  obtain ⟨_, q163, q165, q171, q172, _, q174, qrow, q191, q195⟩ := id hh
  have qs : ∀ p : Int, p = 0 ∨ p = 1 → 0 ≤ v (191 + 4 * p) ∧ v (191 + 4 * p) ≤ 5 := fun p hp => by rcases hp with rfl | rfl <;> assumption
  unfold tChange at h
  unfold wX8_changes
  simp only [rc_w_s]
  obtain ⟨b, eb⟩ : ∃ b, b = 1 - v 165 := ⟨_, rfl⟩
  rw [← eb] at h ⊢
  have hp : b = 0 ∨ b = 1 := by omega
  have hq := qs b hp
  have e0 : (191 + 4 * b) + 0 = 191 + 4 * b := by omega
  have e2 : (191 + 4 * b) + 2 = 193 + 4 * b := by omega
  unfold tChange1 at h
  unfold wX8_on
  simp only [rc_w_s, e0, e2]
  refine ⟨by unfold rc_R; omega, fun n1 => ?_, fun n1 => ⟨by unfold rc_R; omega, fun n2 => ?_, fun n2 => ⟨by omega, by unfold rc_R; omega, fun n3 => ?_, fun n3 => ⟨by omega, hb b hp n3, fun n4 => ?_, fun n4 => ⟨by omega, fun J e => ?_⟩⟩⟩⟩⟩
  · rw [if_neg (fun q => n1 q.1)] at h; exact h
  · rw [if_neg (fun q => n2 q.2.1)] at h; exact h
  · rw [if_neg (fun q => n3 q.2.2.1)] at h; exact h
  · rw [if_neg (fun q => absurd q.2.2.2 (by omega))] at h; exact h
  · rw [if_pos ⟨n1, n2, n3, by omega⟩] at h
    subst e
    rw [pS]
    intro J e; subst e
    rw [pS]
    intro J e; subst e
    rw [pS]
    refine ⟨by omega, fun J e => ?_⟩
    subst e
    rw [pS, rc_w_s]
    have a167 : rc_u (rc_u (rc_u v (191 + 4 * b) 3) 165 b) 171 0 167 = v 167 := by rw [rc_u_n _ _ (by omega), rc_u_n _ _ (by omega), rc_u_n _ _ (by omega)]
    have afr : rc_u (rc_u (rc_u v (191 + 4 * b) 3) 165 b) 171 0 (193 + 4 * b) = v (193 + 4 * b) := by rw [rc_u_n _ _ (by omega), rc_u_n _ _ (by omega), rc_u_n _ _ (by omega)]
    rw [a167, afr]; exact h
theorem m_end {G : rc_G} {m : Nat} {I : rc_M} {v : rv} {post : rc_M → Prop} (hh : wH v) (h : post (rc_w I (m + 1) (tEnd v))) :
    ∀ I7 : rc_M, I7 = rc_s (rc_w I (m + 1) v) (m + 1) 164 (((rc_w I (m + 1) v) (m + 1) 164) + 1) → rc_R (I7 (m + 1) 163) ∧ ((¬ (I7 (m + 1) 163) = 0 → wX8_ticks_93 G post m  (I7 (m + 1) 166) 166 I7) ∧ ((I7 (m + 1) 163) = 0 → wX8_on G (I7 (m + 1) 165) 0 I7 (fun r13 I12 => (0 ≤ r13 ∧ r13 < 199) ∧ (rc_R (I12 (m + 1) r13) ∧ ((¬ (I12 (m + 1) r13) = 3 → wX8_ticks_89 G post m  (I7 (m + 1) 166) 166 I12) ∧ ((I12 (m + 1) r13) = 3 → rc_R (I12 (m + 1) 171) ∧ ((¬ (I12 (m + 1) 171) = 1 → wX8_ticks_93 G post m  (I7 (m + 1) 166) 166 I12) ∧ ((I12 (m + 1) 171) = 1 → wX8_ticks_89 G post m  (I7 (m + 1) 166) 166 I12)))))))) := by
  obtain ⟨_, q163, q165, q171, q172, _, q174, qrow, q191, q195⟩ := id hh
  have qs : ∀ p : Int, p = 0 ∨ p = 1 → 0 ≤ v (191 + 4 * p) ∧ v (191 + 4 * p) ≤ 5 := fun p hp => by rcases hp with rfl | rfl <;> assumption
  have hq := qs _ q165
  have e0 : (191 + 4 * v 165) + 0 = 191 + 4 * v 165 := by omega
  intro I7 e7
  subst e7
  rw [pS, rc_w_s]
  have lo : ∀ j : Int, j ≠ 164 → rc_u v 164 (v 164 + 1) j = v j := fun j hj => rc_u_n _ _ hj
  unfold tEnd at h
  unfold wX8_ticks_93 wX8_ticks_89 wX8_ticks_94 wX8_on
  simp only [rc_w_s, pS, lo 163 (by omega), lo 165 (by omega), lo 166 (by omega), lo 171 (by omega), e0, lo (191 + 4 * v 165) (by omega)]
  refine ⟨by unfold rc_R; omega, fun n1 => ⟨by omega, fun J e => ?_⟩, fun n1 => ⟨by omega, by unfold rc_R; omega, fun n2 => ⟨by omega, fun J e => ?_⟩, fun n2 => ⟨by unfold rc_R; omega, fun n3 => ⟨by omega, fun J e => ?_⟩, fun n3 => ⟨by omega, fun J e => ?_⟩⟩⟩⟩
  · subst e; rw [if_neg (fun q => n1 q.1)] at h; exact h
  · subst e; rw [if_pos ⟨n1, Or.inl n2⟩] at h; exact h
  · subst e; rw [if_neg (fun q => by rcases q.2 with c | c; exact c n2; exact n3 c)] at h; exact h
  · subst e; rw [if_pos ⟨n1, Or.inr n3⟩] at h; exact h
