/-! ===== pure part: the reference's small steps ===== -/
theorem m_reelOn {G : rc_G} {m : Nat} {I : rc_M} {v : rv} {p : Int} {post : Int → rc_M → Prop} (hp : p = 0 ∨ p = 1) (h1 : 0 ≤ v (192 + 4 * p) ∧ v (192 + 4 * p) < 12)
    (h : post (tR v p) (rc_w I (m + 1) v)) : wX8_reelOn G m p (rc_w I (m + 1) v) post := by
  have e : (191 + 4 * p) + 1 = 192 + 4 * p := by omega
  unfold wX8_reelOn wX8_on
  simp only [rc_w_s, e]
  exact ⟨by omega, by omega, h⟩
theorem m_lengthOn {G : rc_G} {m : Nat} {I : rc_M} {v : rv} {p : Int} {post : Int → rc_M → Prop} (hp : p = 0 ∨ p = 1) (h1 : 0 ≤ v (192 + 4 * p) ∧ v (192 + 4 * p) < 12) (h2 : 0 ≤ tR v p ∧ tR v p < 10)
    (h : post (tLen v p) (rc_w I (m + 1) v)) : wX8_lengthOn G m p (rc_w I (m + 1) v) post := by
  refine m_reelOn hp h1 ?_
  have e : (1 + 14 * tR v p) + 0 = 1 + 14 * tR v p := by omega
  unfold wX8_at
  simp only [rc_w_s, e]
  exact ⟨by omega, h⟩
theorem m_spliceFrom {G : rc_G} {m : Nat} {I : rc_M} {v : rv} {i fr : Int} {post : Int → rc_M → Prop} (w : wL v i) (hi : 0 ≤ i ∧ i < 10) (hf : rc_R fr)
    (h : ∀ k : Int, 0 ≤ k → k ≤ v (2 + 14 * i) → (∀ j : Int, 0 ≤ j → j < k → v (3 + 14 * i + 2 * j) < fr) → (k < v (2 + 14 * i) → fr ≤ v (3 + 14 * i + 2 * k)) → post k (rc_w I (m + 1) v)) :
    wX8_spliceFrom G m i fr (rc_w I (m + 1) v) post := by
  have e1 : (1 + 14 * i) + 1 = 2 + 14 * i := by omega
  have L : ∀ (d : Nat) (x : Int), 0 ≤ x → v (2 + 14 * i) - x = d → (∀ j : Int, 0 ≤ j → j < x → v (3 + 14 * i + 2 * j) < fr) → ∃ n, rX8_spliceFrom_2 G post m i fr n x (rc_w I (m + 1) v) := by
    intro d
    induction d with
    | zero =>
      intro x h0 hd hj
      refine ⟨1, ?_⟩
      show wX8_spliceFrom_2 G post m i fr _ x (rc_w I (m + 1) v)
      unfold wX8_spliceFrom_2 wX8_at
      simp only [rc_w_s, e1]
      have w2 := w.2.1
      refine ⟨by omega, by unfold rc_R; omega, by unfold rc_R; omega, fun _ => h x h0 (by omega) hj (fun q => by omega), fun q => absurd q (by omega)⟩
    | succ d ih =>
      intro x h0 hd hj
      have e2 : (1 + 14 * i) + (2 + 2 * x) = 3 + 14 * i + 2 * x := by omega
      have w2 := w.2.1
      have w3 := w.2.2.1 x h0 (by omega)
      have w1 := w.1
      by_cases c : v (3 + 14 * i + 2 * x) < fr
      · obtain ⟨n, hn⟩ := ih (x + 1) (by omega) (by omega) (fun j j0 j1 => by
          rcases Int.lt_or_eq_of_le (show j ≤ x by omega) with q | q
          · exact hj j j0 q
          · subst q; exact c)
        refine ⟨n + 1, ?_⟩
        show wX8_spliceFrom_2 G post m i fr (rX8_spliceFrom_2 G post m i fr n) x (rc_w I (m + 1) v)
        unfold wX8_spliceFrom_2 wX8_at
        simp only [rc_w_s, e1, e2]
        refine ⟨by omega, by unfold rc_R; omega, by unfold rc_R; omega, fun q => absurd q (by omega), fun _ => ⟨by omega, by unfold rc_R; omega, hf, fun q => absurd q (by omega), fun _ => hn⟩⟩
      · refine ⟨1, ?_⟩
        show wX8_spliceFrom_2 G post m i fr _ x (rc_w I (m + 1) v)
        unfold wX8_spliceFrom_2 wX8_at
        simp only [rc_w_s, e1, e2]
        refine ⟨by omega, by unfold rc_R; omega, by unfold rc_R; omega, fun q => absurd q (by omega), fun _ => ⟨by omega, by unfold rc_R; omega, hf, fun q => h x h0 (by omega) hj (fun _ => q), fun q => absurd q (by omega)⟩⟩
  have w2 := w.2.1
  exact L (v (2 + 14 * i)).toNat 0 (by omega) (by omega) (fun j j0 j1 => absurd j1 (by omega))
theorem m_strengthAt {G : rc_G} {m : Nat} {I : rc_M} {v : rv} {i fr : Int} {post : Int → rc_M → Prop} (w : wL v i) (hi : 0 ≤ i ∧ i < 10) (hf : rc_R fr)
    (h : post (if 0 ≤ tK v i fr then 4 + 14 * i + 2 * tK v i fr else -1) (rc_w I (m + 1) v)) :
    wX8_strengthAt G m i fr (rc_w I (m + 1) v) post := by
  unfold wX8_strengthAt
  refine m_spliceFrom w hi hf (fun k k0 k1 hlt hge => ?_)
  have e1 : (1 + 14 * i) + 1 = 2 + 14 * i := by omega
  have e2 : (1 + 14 * i) + (2 + 2 * k) = 3 + 14 * i + 2 * k := by omega
  have e3 : (1 + 14 * i) + (3 + 2 * k) = 4 + 14 * i + 2 * k := by omega
  have w2 := w.2.1
  have w1 := w.1
  unfold wX8_at
  simp only [rc_w_s, e1, e2, e3]
  refine ⟨by omega, by unfold rc_R; omega, by unfold rc_R; omega, fun q => ?_, fun q => ?_⟩
  · have e : tK v i fr = -1 := tK_no (fun j j0 j1 => by have := hlt j j0 (by omega); omega)
    rw [e] at h; simpa using h
  · have w3 := w.2.2.1 k k0 (by omega)
    refine ⟨by omega, by unfold rc_R; omega, hf, fun q2 => ?_, fun q2 => ?_⟩
    · have e : tK v i fr = -1 := tK_no (fun j j0 j1 => by
        rcases Int.lt_trichotomy j k with c | c | c
        · have := hlt j j0 c; omega
        · subst c; exact q2
        · have := w.2.2.2 k j k0 c j1
          have := hge (by omega); omega)
      rw [e] at h; simpa using h
    · have e : tK v i fr = k := tK_eq w k0 (by omega) q2
      rw [e, if_pos k0] at h; exact h
theorem m_comes {G : rc_G} {m : Nat} {I : rc_M} {v : rv} {p : Int} {post : rc_M → Prop} (hp : p = 0 ∨ p = 1) (h : post (rc_w I (m + 1) (tComes v p))) : wX8_comes G m p (rc_w I (m + 1) v) post := by
  rcases hp with rfl | rfl <;> simpa [wX8_comes, wX8_on, pS, rc_w_s, tComes, rc_ue] using h
