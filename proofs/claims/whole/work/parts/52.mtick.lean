/-! ===== pure part: a tick of the reference ===== -/
theorem wL_lo {v u : rv} {i : Int} (hi : 0 ≤ i ∧ i < 10) (h : ∀ j : Int, 0 ≤ j → j < 141 → u j = v j) (w : wL v i) : wL u i := by
  obtain ⟨a, b, c, d⟩ := w
  have e1 := h (1 + 14 * i) (by omega) (by omega)
  have e2 := h (2 + 14 * i) (by omega) (by omega)
  refine ⟨by rw [e1]; exact a, by rw [e2]; exact b, fun k k0 k1 => ?_, fun j k j0 j1 j2 => ?_⟩
  · rw [e2] at k1
    rw [e1, h (3 + 14 * i + 2 * k) (by omega) (by omega), h (4 + 14 * i + 2 * k) (by omega) (by omega)]; exact c k k0 k1
  · rw [e2] at j2
    rw [h (3 + 14 * i + 2 * j) (by omega) (by omega), h (3 + 14 * i + 2 * k) (by omega) (by omega)]; exact d j k j0 j1 j2
theorem tK_lo {v u : rv} {i fr : Int} (hi : 0 ≤ i ∧ i < 10) (h : ∀ j : Int, 0 ≤ j → j < 141 → u j = v j) (w : wL v i) : tK u i fr = tK v i fr := by
  have e2 := h (2 + 14 * i) (by omega) (by omega)
  have w2 := w.2.1
  rcases tK_spec v i fr with ⟨a, b, c⟩ | ⟨a, b⟩
  · exact tK_eq (wL_lo hi h w) a (by rw [e2]; exact b) (by rw [h _ (by omega) (by omega)]; exact c)
  · rw [a]; refine tK_no (fun k k0 k1 => ?_)
    rw [e2] at k1
    rw [h _ (by omega) (by omega)]; exact b k k0 k1
theorem wS_R {v : rv} {p : Int} (s : wS v) (h : 0 ≤ v (192 + 4 * p) ∧ v (192 + 4 * p) < v 149) :
    (0 ≤ v (192 + 4 * p) ∧ v (192 + 4 * p) < 12) ∧ (0 ≤ tR v p ∧ tR v p < 10) ∧ tR v p < v 0 ∧ wL v (tR v p) := by
  have a := s.2.2.1 _ h.1 h.2
  have b := s.1
  have c := s.2.1
  refine ⟨⟨h.1, by omega⟩, ⟨a.1, ?_⟩, a.2, s.2.2.2.2 _ a.1 a.2⟩
  unfold tR; omega
theorem tRep_lo {v : rv} {p : Int} (hp : p = 0 ∨ p = 1) (j : Int) (h : j < 191) : tRep v p j = v j := by
  unfold tRep; rw [rc_u_n _ _ (by omega), rc_u_n _ _ (by omega)]
theorem m_finishes {G : rc_G} {m : Nat} {I : rc_M} {v : rv} {c : Int} {post : rc_M → Prop} (hc : 0 ≤ c ∧ c ≤ 5) (s : wS v)
    (h1 : c % 3 = 2 → (0 ≤ v (192 + 4 * (c / 3)) ∧ v (192 + 4 * (c / 3)) < v 149) ∧ (0 ≤ v (194 + 4 * (c / 3)) ∧ v (194 + 4 * (c / 3)) ≤ 3001))
    (h : post (rc_w I (m + 1) (tFin v c))) : wX8_finishes G m c (rc_w I (m + 1) v) post := by
  have hp : c / 3 = 0 ∨ c / 3 = 1 := by omega
  generalize hq : c / 3 = p at *
  unfold wX8_finishes
  rw [hq]
  unfold tFin at h
  rw [hq] at h
  refine ⟨by omega, by omega, by unfold rc_R; omega, fun n0 => ⟨by omega, by unfold rc_R; omega, fun n1 => ?_, fun n1 => ?_⟩, fun n0 => ?_⟩
  · rw [if_neg n0, if_neg n1] at h
    obtain ⟨hpl, hfr⟩ := h1 (by omega)
    obtain ⟨b1, b2, b3, bL⟩ := wS_R s hpl
    have lo := fun j hj => tRep_lo (v := v) hp j hj
    have eR : tR (tRep v p) p = tR v p := by
      unfold tR; rw [lo _ (by have := lo; have : (192 + 4 * p) ≥ 191 := by omega
                              have e : tRep v p (192 + 4 * p) = v (192 + 4 * p) := by unfold tRep; rw [rc_u_n _ _ (by omega), rc_u_n _ _ (by omega)]
                              rw [e]; omega)]
      have e : tRep v p (192 + 4 * p) = v (192 + 4 * p) := by unfold tRep; rw [rc_u_n _ _ (by omega), rc_u_n _ _ (by omega)]
      rw [e]
    have e192 : tRep v p (192 + 4 * p) = v (192 + 4 * p) := by unfold tRep; rw [rc_u_n _ _ (by omega), rc_u_n _ _ (by omega)]
    have e194 : tRep v p (194 + 4 * p) = v (194 + 4 * p) := by unfold tRep; rw [rc_u_n _ _ (by omega), rc_u_n _ _ (by omega)]
    have eu192 : ∀ x, rc_u v (191 + 4 * p) x (192 + 4 * p) = v (192 + 4 * p) := fun x => rc_u_n _ _ (by omega)
    have euR : tR (rc_u v (191 + 4 * p) 3) p = tR v p := by unfold tR; rw [eu192]; exact rc_u_n _ _ (by omega)
    have euL : tLen (rc_u v (191 + 4 * p) 3) p = tLen v p := by unfold tLen; rw [euR]; exact rc_u_n _ _ (by omega)
    have wl1 := bL.1
    have s8 := s.2.2.2.1.2.2.2.2.2.2.2
    have fin : ∀ I' : rc_M, ∀ x : Int, x = min (v (194 + 4 * p) + v 148) (tLen v p) → wX8_finishes_97 G post m c p x (193 + 4 * p) (rc_w I (m + 1) (rc_u v (191 + 4 * p) 3)) := by
      intro _ x hx
      unfold wX8_finishes_97
      refine ⟨by omega, fun I25 e25 => ?_⟩
      subst e25
      rw [pS, hx]
      change wX8_reelOn G m p (rc_w I (m + 1) (tRep v p)) _
      refine m_reelOn hp (by rw [e192]; exact b1) ?_
      unfold wX8_on
      have e : (191 + 4 * p) + 3 = 194 + 4 * p := by omega
      simp only [rc_w_s, e]
      refine ⟨by omega, ?_⟩
      rw [eR, e194]
      have bL2 : wL (tRep v p) (tR v p) := wL_lo b2 (fun j _ hj => lo j (by omega)) bL
      refine m_strengthAt bL2 b2 (by unfold rc_R; omega) ?_
      unfold tMark at h
      have w2 := bL2.2.1
      rcases tK_spec (tRep v p) (tR v p) (v (194 + 4 * p)) with ⟨a, b, _⟩ | ⟨a, _⟩
      · rw [if_pos a] at h ⊢
        refine ⟨by unfold rc_R; omega, fun q => absurd q (by omega), fun _ => ⟨by omega, fun I36 e36 => ?_⟩⟩
        subst e36
        rw [pS]; exact h
      · rw [a] at h ⊢
        refine ⟨by unfold rc_R; omega, fun q => by simpa using h, fun q => absurd q (by omega)⟩
    unfold wX8_on
    have e0 : (191 + 4 * p) + 0 = 191 + 4 * p := by omega
    have e2 : (191 + 4 * p) + 2 = 193 + 4 * p := by omega
    have e3 : (191 + 4 * p) + 3 = 194 + 4 * p := by omega
    simp only [rc_w_s, e0, e2, e3]
    refine ⟨by omega, by omega, fun I14 e14 => ?_⟩
    subst e14
    rw [pS]
    refine m_lengthOn hp (by rw [eu192]; exact b1) (by rw [euR]; exact b2) ?_
    rw [euL]
    unfold tLen at fin ⊢
    refine ⟨by unfold rc_R; omega, by unfold rc_R; omega, fun q => ?_, fun q => ?_⟩
    · refine m_lengthOn hp (by rw [eu192]; exact b1) (by rw [euR]; exact b2) ?_
      rw [euL]
      exact fin I _ (by unfold tLen; omega)
    · exact fin I _ (by omega)
  · rw [if_neg n0, if_pos n1] at h
    exact m_comes hp h
  · rw [if_pos n0] at h
    unfold wX8_on
    have e0 : (191 + 4 * p) + 0 = 191 + 4 * p := by omega
    simp only [e0]
    refine ⟨by omega, fun I41 e41 => ?_⟩
    subst e41; rw [pS]; exact h
theorem m_ticksFor {G : rc_G} {m : Nat} {I : rc_M} {v : rv} {c : Int} {post : Int → rc_M → Prop} (hc : 0 ≤ c ∧ c ≤ 5) (s : wS v)
    (h1 : c % 3 = 0 → 0 ≤ v (192 + 4 * (c / 3)) ∧ v (192 + 4 * (c / 3)) < v 149)
    (h : post (tTicks v c) (rc_w I (m + 1) v)) : wX8_ticksFor G m c (rc_w I (m + 1) v) post := by
  have hp : c / 3 = 0 ∨ c / 3 = 1 := by omega
  unfold wX8_ticksFor
  unfold tTicks at h
  refine ⟨by omega, by omega, by unfold rc_R; omega, fun n1 => ⟨by omega, by unfold rc_R; omega, fun n2 => ?_, fun n2 => ?_⟩, fun n1 => ?_⟩
  · rw [if_neg n1, if_neg n2] at h
    obtain ⟨b1, b2, b3, bL⟩ := wS_R s (h1 (by omega))
    refine m_lengthOn hp b1 b2 ?_
    have wl1 := bL.1
    have s5 := s.2.2.2.1.2.2.2.2.1
    simp only [rc_w_s]
    unfold tLen at h ⊢
    exact ⟨by omega, by omega, h⟩
  · rw [if_neg n1, if_pos n2] at h; simp only [rc_w_s]; exact h
  · rw [if_pos n1] at h; simp only [rc_w_s]; exact h
def tSh (w : rv) (x : Int) : rv := fun j => if 175 ≤ j ∧ j < 175 + x then w (j + 1) else w j
theorem tSh_u (w : rv) {x : Int} (h : 0 ≤ x) : rc_u (tSh w x) (175 + x) (tSh w x ((175 + x) + 1)) = tSh w (x + 1) := by
  funext j
  unfold rc_u tSh
  by_cases e : j = 175 + x
  · subst e
    rw [if_pos rfl, if_neg (by omega), if_pos (by omega)]
  · rw [if_neg e]
    by_cases c : 175 ≤ j ∧ j < 175 + x
    · rw [if_pos c, if_pos (by omega)]
    · rw [if_neg c, if_neg (by omega)]
theorem tSh_0 (w : rv) : tSh w 0 = w := by
  funext j; unfold tSh; rw [if_neg (by omega)]
theorem tSh_n (w : rv) (x : Int) {j : Int} (h : j < 175) : tSh w x j = w j := by unfold tSh; rw [if_neg (by omega)]
theorem tSh_n2 (w : rv) (x : Int) {j : Int} (h : 175 + x ≤ j) : tSh w x j = w j := by unfold tSh; rw [if_neg (by omega)]
theorem m_works_99 {G : rc_G} {m : Nat} {I : rc_M} {w : rv} {post : rc_M → Prop} (h0 : 0 ≤ w 174 ∧ w 174 ≤ 6)
    (h : wX8_ticksFor G m (w 172) (rc_w I (m + 1) (tShift w)) (fun r I1 => ∀ J : rc_M, J = rc_s I1 (m + 1) 173 r → post J)) : ∃ n, rX8_works_99 G post m n 0 (rc_w I (m + 1) w) := by
  have L : ∀ (d : Nat) (x : Int), 0 ≤ x → w 174 - x = d → ∃ n, rX8_works_99 G post m n x (rc_w I (m + 1) (tSh w x)) := by
    intro d
    induction d with
    | zero =>
      intro x x0 hd
      refine ⟨1, ?_⟩
      show wX8_works_99 G post m _ x (rc_w I (m + 1) (tSh w x))
      unfold wX8_works_99
      simp only [rc_w_s, tSh_n w x (show (174 : Int) < 175 by omega), tSh_n w x (show (172 : Int) < 175 by omega)]
      refine ⟨by unfold rc_R; omega, by unfold rc_R; omega, fun _ => ?_, fun q => absurd q (by omega)⟩
      have e : tSh w x = tShift w := by
        have e : x = w 174 := by omega
        rw [e]; rfl
      rw [e]; exact h
    | succ d ih =>
      intro x x0 hd
      obtain ⟨n, hn⟩ := ih (x + 1) (by omega) (by omega)
      refine ⟨n + 1, ?_⟩
      show wX8_works_99 G post m (rX8_works_99 G post m n) x (rc_w I (m + 1) (tSh w x))
      unfold wX8_works_99
      simp only [rc_w_s, tSh_n w x (show (174 : Int) < 175 by omega), tSh_n w x (show (172 : Int) < 175 by omega)]
      refine ⟨by unfold rc_R; omega, by unfold rc_R; omega, fun q => absurd q (by omega), fun _ => ⟨by omega, by omega, fun J e => ?_⟩⟩
      subst e
      rw [pS, tSh_u w x0]; exact hn
  have := L (w 174).toNat 0 (by omega) (by omega)
  rw [tSh_0] at this; exact this
theorem m_works {G : rc_G} {m : Nat} {I : rc_M} {v : rv} {post : rc_M → Prop} (s : wS v) (hh : wH v) (k : wK 0 v) (h : post (rc_w I (m + 1) (tWork v))) : wX8_works G m (rc_w I (m + 1) v) post := by
  obtain ⟨_, _, _, _, q172, q173, q174, qrow, _, _⟩ := id hh
  obtain ⟨_, kP0, kP1, kQ⟩ := id k
  have kP : ∀ p : Int, p = 0 ∨ p = 1 → wP 0 v p := fun p hp => by rcases hp with rfl | rfl <;> assumption
  unfold wX8_works
  simp only [rc_w_s]
  unfold tWork at h
  refine ⟨by unfold rc_R; omega, fun n0 => ⟨by unfold rc_R; omega, fun n1 => ?_, fun n1 => ?_⟩, fun n0 => ?_⟩
  · rw [if_pos n0, if_pos n1] at h; exact h
  · rw [if_pos n0, if_neg n1] at h
    intro I5 e5; subst e5
    rw [pS]
    intro I6 e6; subst e6
    rw [pS, rc_w_s, rc_u_n _ _ (show (174 : Int) ≠ 172 by omega)]
    have r0 := qrow 0 (by omega) (by omega)
    have r0' : 0 ≤ v 175 ∧ v 175 ≤ 5 := by simpa using r0
    have e172 : rc_u (rc_u v 172 (v 175)) 174 (v 174 - 1) 172 = v 175 := by rw [rc_u_n _ _ (by omega), rc_u_s]
    have e174 : rc_u (rc_u v 172 (v 175)) 174 (v 174 - 1) 174 = v 174 - 1 := by rw [rc_u_s]
    refine m_works_99 (by rw [e174]; omega) ?_
    rw [e172]
    change wX8_ticksFor G m (v 175) (rc_w I (m + 1) (tUp v)) _
    have up : ∀ j : Int, j < 172 ∨ 181 < j → tUp v j = v j := fun j hj => by
      unfold tUp tShift
      rw [if_neg (by rw [e174]; omega), rc_u_n _ _ (by omega), rc_u_n _ _ (by omega)]
    have sU : wS (tUp v) := by
      obtain ⟨a, b, c, d, f⟩ := s
      refine ⟨by rw [up 0 (by omega)]; exact a, by rw [up 149 (by omega)]; exact b, fun k k0 k1 => ?_, ?_, fun i i0 i1 => ?_⟩
      · rw [up 149 (by omega)] at k1; rw [up (150 + k) (by omega), up 0 (by omega)]; exact c k k0 k1
      · rw [up 141 (by omega), up 142 (by omega), up 143 (by omega), up 144 (by omega), up 145 (by omega), up 146 (by omega), up 147 (by omega), up 148 (by omega)]; exact d
      · rw [up 0 (by omega)] at i1; exact wL_lo (by omega) (fun j _ hj => up j (by omega)) (f i i0 i1)
    refine m_ticksFor r0' sU (fun q => ?_) ?_
    · have hp : v 175 / 3 = 0 ∨ v 175 / 3 = 1 := by omega
      rw [up _ (by omega), up 149 (by omega)]
      have x := (kQ.2.1 1 (v 175 / 3) (by omega) (by omega) hp).1 (by unfold wE; simp; omega)
      exact (kP _ hp).1 (Or.inl (by omega))
    · intro J e; subst e
      rw [pS]; exact h
  · rw [if_neg n0] at h
    intro I16 e16; subst e16
    rw [pS, rc_w_s, rc_u_s]
    have q := q173 (by omega)
    refine ⟨by unfold rc_R; omega, fun n1 => ?_, fun n1 => ?_⟩
    · rw [if_neg n1] at h; exact h
    · rw [if_pos n1] at h
      have lo : ∀ j : Int, j ≠ 173 → rc_u v 173 (v 173 - 1) j = v j := fun j hj => rc_u_n _ _ hj
      rw [lo 172 (by omega)]
      have sU : wS (rc_u v 173 (v 173 - 1)) := by
        obtain ⟨a, b, c, d, f⟩ := s
        refine ⟨by rw [lo 0 (by omega)]; exact a, by rw [lo 149 (by omega)]; exact b, fun k k0 k1 => ?_, ?_, fun i i0 i1 => ?_⟩
        · rw [lo 149 (by omega)] at k1; rw [lo (150 + k) (by omega), lo 0 (by omega)]; exact c k k0 k1
        · rw [lo 141 (by omega), lo 142 (by omega), lo 143 (by omega), lo 144 (by omega), lo 145 (by omega), lo 146 (by omega), lo 147 (by omega), lo 148 (by omega)]; exact d
        · rw [lo 0 (by omega)] at i1; exact wL_lo (by omega) (fun j _ hj => lo j (by omega)) (f i i0 i1)
      refine m_finishes (by omega) sU (fun c2 => ?_) ?_
      · have hp : v 172 / 3 = 0 ∨ v 172 / 3 = 1 := by omega
        rw [lo _ (by omega), lo 149 (by omega), lo _ (by omega)]
        have x := (kQ.2.1 0 (v 172 / 3) (by omega) (by omega) hp).2.1 (by unfold wE; simp; omega)
        have y := kP _ hp
        have z := y.2.2.2.1 x
        exact ⟨y.1 (Or.inl (by omega)), z.1, z.2.1⟩
      · intro J e; subst e
        rw [pS]; exact h
