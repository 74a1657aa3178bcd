/-! ===== pure part: where a text has its fault, the reference's turns ===== -/
theorem m_isReel2 {G : rc_G} {m : Nat} {I : rc_M} {rc c : Int} {post : Int → rc_M → Prop} (hr : I (m + 1) 0 = rc) (h0 : 0 ≤ rc ∧ rc ≤ 10) (hc : rc_R c) (h : post (if 0 ≤ c ∧ c < rc then 1 else 0) I) : wX8_isReel G m c I post := by
  unfold wX8_isReel
  rw [hr]
  refine m_in hc (by unfold rc_R; omega) (by unfold rc_R; omega) ?_
  by_cases d : 0 ≤ c ∧ c < rc
  · rw [if_pos d] at h
    rw [if_pos (by omega)]; exact ⟨Or.inr rfl, h⟩
  · rw [if_neg d] at h
    rw [if_neg (by omega)]; exact ⟨Or.inl rfl, h⟩
def jO (I : rc_M) (m : Nat) (i dep fl : Int) : rc_M := rc_s (rc_s (rc_s I m 10 dep) (m + 9) dep fl) m 9 i
theorem jO_9 (I : rc_M) (m : Nat) (i dep fl : Int) : jO I m i dep fl m 9 = i := by unfold jO; rw [qs_s, rc_u_s]
theorem jO_10 (I : rc_M) (m : Nat) (i dep fl : Int) : jO I m i dep fl m 10 = dep := by unfold jO; rw [qs_s, rc_u_n _ _ (by decide), qs_n _ _ _ (by omega), qs_s, rc_u_s]
theorem jO_8 (I : rc_M) (m : Nat) (i dep fl : Int) : jO I m i dep fl m 8 = I m 8 := by unfold jO; rw [qs_s, rc_u_n _ _ (by decide), qs_n _ _ _ (by omega), qs_s, rc_u_n _ _ (by decide)]
theorem jO_f (I : rc_M) (m : Nat) (i dep fl : Int) : jO I m i dep fl (m + 9) dep = fl := by unfold jO; rw [qs_n _ _ _ (by omega), qs_s, rc_u_s]
theorem jO_far (I : rc_M) (m : Nat) (i dep fl : Int) (a : Nat) (h1 : a ≠ m) (h2 : a ≠ m + 9) : jO I m i dep fl a = I a := by unfold jO; rw [qs_n _ _ _ h1, qs_n _ _ _ h2, qs_n _ _ _ h1]
section PM
variable {T : Int → Int} {n rc i dep fil pos dp : Int}
theorem pM_no (hT : fT T n rc) (hd : 0 ≤ dep ∧ dep ≤ 3) (hi : 0 ≤ i ∧ i < n) (h : (T i = 40 ∧ dep = 3) ∨ (T i = 41 ∧ (dep = 0 ∨ fil = 0)) ∨ (T i ≠ 40 ∧ T i ≠ 41 ∧ ¬ (0 ≤ T i - 48 ∧ T i - 48 < rc))) (hfil : fil = 0 ∨ fil = 1) : pM T n rc i dep fil i dep := by
  intro G m post I h9 h10 hf h8 hL hr H
  have n0 := hT.1
  have c0 := hT.2.2 i hi.1 hi.2
  have A := H I (fun _ _ _ => rfl) h8 h10 (fun _ => h9)
  rw [if_neg (by omega)] at A
  have S := pM_stop (G := G) (m := m) A
  refine ⟨2, pM_turn h9 h8 n0 hi ?_⟩
  unfold wX8_isPart
  refine m_here (c := T i) h9 h8 n0 (by omega) (fun _ => hL i hi.1 hi.2) (fun y => absurd y (by omega)) ?_
  rw [h10]
  refine ⟨by unfold rc_R; omega, fun a => ⟨by unfold rc_R; omega, fun b => m_isReel2 hr hT.2.1 (by unfold rc_R; omega) ?_, fun b => ⟨by unfold rc_R; omega, fun _ => S, fun d => ⟨by omega, ?_⟩⟩⟩, fun a => ⟨by unfold rc_R; omega, fun b => absurd (by omega) b, fun _ => S⟩⟩
  · rw [if_neg (by omega)]
    exact ⟨rc_R0, fun y => absurd rfl y, fun _ => S⟩
  · rw [hf (by omega)]
    exact ⟨by unfold rc_R; omega, fun e => absurd (by omega) e, fun _ => S⟩
theorem pM_open (hT : fT T n rc) (hd : 0 ≤ dep ∧ dep < 3) (hi : 0 ≤ i ∧ i < n) (c : T i = 40) (h : pM T n rc (i + 1) (dep + 1) 0 pos dp) : pM T n rc i dep fil pos dp := by
  intro G m post I h9 h10 hf h8 hL hr H
  have n0 := hT.1
  obtain ⟨nn, hn⟩ := h G m post (jO I m (i + 1) (dep + 1) 0) (jO_9 ..) (jO_10 ..) (fun _ => jO_f ..) ((jO_8 ..).trans h8) (fun k k0 k1 => by rw [jO_far _ _ _ _ _ _ (by omega) (by omega)]; exact hL k k0 k1) (by rw [jO_far _ _ _ _ _ _ (by omega) (by omega)]; exact hr) (fun J a b d e => H J (fun x x1 x2 => (a x x1 x2).trans (jO_far _ _ _ _ _ _ x1 x2)) b d e)
  refine ⟨nn + 1, pM_turn h9 h8 n0 hi ?_⟩
  unfold wX8_isPart
  refine m_here (c := T i) h9 h8 n0 (by omega) (fun _ => hL i hi.1 hi.2) (fun y => absurd y (by omega)) ?_
  rw [h10]
  refine ⟨by unfold rc_R; omega, fun a => absurd c a, fun _ => ⟨by unfold rc_R; omega, fun _ I28 e28 => ?_, fun b => absurd b (by omega)⟩⟩
  have a10 : I28 m 10 = dep + 1 := by rw [e28, qs_s, rc_u_s]
  rw [a10]
  refine ⟨by omega, fun I30 e30 I31 e31 => ?_⟩
  have a9 : I30 m 9 = i := by rw [e30, qs_n _ _ _ (by omega), e28, qs_s, rc_u_n _ _ (by decide)]; exact h9
  rw [a9, e30, e28] at e31
  rw [e31]; exact hn
theorem pM_digit (hT : fT T n rc) (hd : 0 ≤ dep ∧ dep ≤ 3) (hi : 0 ≤ i ∧ i < n) (c : 0 ≤ T i - 48 ∧ T i - 48 < rc) (h : pM T n rc (i + 1) dep 1 pos dp) : pM T n rc i dep fil pos dp := by
  intro G m post I h9 h10 hf h8 hL hr H
  have n0 := hT.1
  have r0 := hT.2.1
  obtain ⟨nn, hn⟩ := h G m post (jO I m (i + 1) dep 1) (jO_9 ..) (jO_10 ..) (fun _ => jO_f ..) ((jO_8 ..).trans h8) (fun k k0 k1 => by rw [jO_far _ _ _ _ _ _ (by omega) (by omega)]; exact hL k k0 k1) (by rw [jO_far _ _ _ _ _ _ (by omega) (by omega)]; exact hr) (fun J a b d e => H J (fun x x1 x2 => (a x x1 x2).trans (jO_far _ _ _ _ _ _ x1 x2)) b d e)
  refine ⟨nn + 1, pM_turn h9 h8 n0 hi ?_⟩
  unfold wX8_isPart
  refine m_here (c := T i) h9 h8 n0 (by omega) (fun _ => hL i hi.1 hi.2) (fun y => absurd y (by omega)) ?_
  rw [h10]
  refine ⟨by unfold rc_R; omega, fun _ => ⟨by unfold rc_R; omega, fun _ => m_isReel2 hr r0 (by unfold rc_R; omega) ?_, fun b => absurd b (by omega)⟩, fun a => absurd a (by omega)⟩
  rw [if_pos c]
  refine ⟨by unfold rc_R; omega, fun _ => ?_, fun b => absurd b (by decide)⟩
  rw [h10]
  refine ⟨by omega, fun I12 e12 I13 e13 => ?_⟩
  have a9 : I12 m 9 = i := by rw [e12, qs_n _ _ _ (by omega)]; exact h9
  rw [a9, e12, ← qs_i I m 10 h10, ← show jO I m (i + 1) dep 1 = rc_s (rc_s (rc_s I m 10 dep) (m + 9) dep 1) m 9 (i + 1) from rfl] at e13
  rw [e13]; exact hn
/-- the way of the reference behind a parenthesis that closes -/
theorem m_close {G : rc_G} {m : Nat} {I : rc_M} {post : Int → rc_M → Prop} (hT : fT T n rc) (hd : 0 < dep ∧ dep ≤ 3) (hi : 0 ≤ i ∧ i < n) (c : T i = 41) (h9 : I m 9 = i) (h10 : I m 10 = dep) (hf : I (m + 9) dep = 1) (h8 : I m 8 = n) (hL : ∀ k : Int, 0 ≤ k → k < n → I (m + 8) k = T k) (h : wX8_isSigned G m (jO I m (i + 1) (dep - 1) 1) (fun r24 I23 => (r24 = 0 ∨ r24 = 1) ∧ (post r24 I23))) : wX8_isPart G m I post := by
  have n0 := hT.1
  unfold wX8_isPart
  refine m_here (c := T i) h9 h8 n0 (by omega) (fun _ => hL i hi.1 hi.2) (fun y => absurd y (by omega)) ?_
  rw [h10, hf]
  refine ⟨by unfold rc_R; omega, fun _ => ⟨by unfold rc_R; omega, fun b => absurd c b, fun _ => ⟨by unfold rc_R; omega, fun d => absurd d (by omega), fun _ => ⟨by omega, by unfold rc_R; omega, fun _ I19 e19 => ?_, fun y => absurd y (by decide)⟩⟩⟩, fun a => absurd a (by omega)⟩
  have a10 : I19 m 10 = dep - 1 := by rw [e19, qs_s, rc_u_s]
  rw [a10]
  refine ⟨by omega, fun I21 e21 I22 e22 => ?_⟩
  have a9 : I21 m 9 = i := by rw [e21, qs_n _ _ _ (by omega), e19, qs_s, rc_u_n _ _ (by decide)]; exact h9
  rw [a9, e21, e19] at e22
  rw [e22]; exact h
theorem pM_close (hT : fT T n rc) (hd : 0 < dep ∧ dep ≤ 3) (hi : 0 ≤ i ∧ i < n) (c : T i = 41) (nx : i + 1 < n → T (i + 1) ≠ 120) (h : pM T n rc (i + 1) (dep - 1) 1 pos dp) : pM T n rc i dep 1 pos dp := by
  intro G m post I h9 h10 hf h8 hL hr H
  have n0 := hT.1
  have K8 : jO I m (i + 1) (dep - 1) 1 m 8 = n := (jO_8 ..).trans h8
  have KL : ∀ k : Int, 0 ≤ k → k < n → jO I m (i + 1) (dep - 1) 1 (m + 8) k = T k := fun k k0 k1 => by rw [jO_far _ _ _ _ _ _ (by omega) (by omega)]; exact hL k k0 k1
  obtain ⟨nn, hn⟩ := h G m post (jO I m (i + 1) (dep - 1) 1) (jO_9 ..) (jO_10 ..) (fun _ => jO_f ..) K8 KL (by rw [jO_far _ _ _ _ _ _ (by omega) (by omega)]; exact hr) (fun J a b d e => H J (fun x x1 x2 => (a x x1 x2).trans (jO_far _ _ _ _ _ _ x1 x2)) b d e)
  refine ⟨nn + 1, pM_turn h9 h8 n0 hi (m_close hT hd hi c h9 h10 (hf hd.1) h8 hL ?_)⟩
  unfold wX8_isSigned
  by_cases z : i + 1 < n
  · have zc := hT.2.2 (i + 1) (by omega) z
    refine m_here (c := T (i + 1)) (jO_9 ..) K8 n0 (by omega) (fun _ => KL _ (by omega) z) (fun y => absurd y (by omega)) ?_
    exact ⟨by unfold rc_R; omega, fun y => absurd y (nx z), fun _ => ⟨Or.inr rfl, hn⟩⟩
  · refine m_here (c := -1) (jO_9 ..) K8 n0 (by omega) (fun y => absurd y z) (fun _ => rfl) ?_
    exact ⟨by unfold rc_R; omega, fun y => absurd y (by decide), fun _ => ⟨Or.inr rfl, hn⟩⟩
theorem pM_sign (hT : fT T n rc) (hd : 0 < dep ∧ dep ≤ 3) (hi : 0 ≤ i ∧ i + 2 < n) (c : T i = 41) (nx : T (i + 1) = 120) (nd : 50 ≤ T (i + 2) ∧ T (i + 2) ≤ 57) (h : pM T n rc (i + 3) (dep - 1) 1 pos dp) : pM T n rc i dep 1 pos dp := by
  intro G m post I h9 h10 hf h8 hL hr H
  have n0 := hT.1
  have K9 := jO_9 I m (i + 1) (dep - 1) 1
  have K10 := jO_10 I m (i + 1) (dep - 1) 1
  have Kf := jO_f I m (i + 1) (dep - 1) 1
  have Ka := jO_far I m (i + 1) (dep - 1) 1
  have K8 : jO I m (i + 1) (dep - 1) 1 m 8 = n := (jO_8 ..).trans h8
  have M := m_close (G := G) (post := post) hT hd (show 0 ≤ i ∧ i < n by omega) c h9 h10 (hf hd.1) h8 hL
  have M := fun nn => m_close (G := G) (post := fun r J => rX8_isText_12 G post m nn r J) hT hd (show 0 ≤ i ∧ i < n by omega) c h9 h10 (hf hd.1) h8 hL
  generalize jO I m (i + 1) (dep - 1) 1 = K at *
  have KL : ∀ k : Int, 0 ≤ k → k < n → K (m + 8) k = T k := fun k k0 k1 => by rw [Ka _ (by omega) (by omega)]; exact hL k k0 k1
  obtain ⟨nn, hn⟩ := h G m post (rc_s (rc_s K m 9 (i + 1 + 1)) m 9 (i + 1 + 1 + 1)) (by rw [qs_s, rc_u_s]; omega) (by rw [qs_s, rc_u_n _ _ (by decide), qs_s, rc_u_n _ _ (by decide)]; exact K10) (fun _ => by rw [qs_n _ _ _ (by omega), qs_n _ _ _ (by omega)]; exact Kf) (by rw [qs_s, rc_u_n _ _ (by decide), qs_s, rc_u_n _ _ (by decide)]; exact K8) (fun k k0 k1 => by rw [qs_n _ _ _ (by omega), qs_n _ _ _ (by omega)]; exact KL k k0 k1) (by rw [qs_n _ _ _ (by omega), qs_n _ _ _ (by omega), Ka _ (by omega) (by omega)]; exact hr) (fun J a b d e => H J (fun x x1 x2 => (a x x1 x2).trans (by rw [qs_n _ _ _ x1, qs_n _ _ _ x1]; exact Ka x x1 x2)) b d e)
  refine ⟨nn + 1, pM_turn h9 h8 n0 (by omega) (M nn ?_)⟩
  unfold wX8_isSigned
  refine m_here (c := T (i + 1)) K9 K8 n0 (by omega) (fun _ => KL _ (by omega) (by omega)) (fun y => absurd y (by omega)) ?_
  refine ⟨by unfold rc_R; omega, fun _ I5 e5 => ?_, fun y => absurd nx y⟩
  rw [K9] at e5
  have a9 : I5 m 9 = i + 1 + 1 := by rw [e5, qs_s, rc_u_s]
  have a8 : I5 m 8 = n := by rw [e5, qs_s, rc_u_n _ _ (by decide)]; exact K8
  have aL : ∀ k : Int, 0 ≤ k → k < n → I5 (m + 8) k = T k := fun k k0 k1 => by rw [e5, qs_n _ _ _ (by omega)]; exact KL k k0 k1
  have e2 : i + 1 + 1 = i + 2 := by omega
  refine m_here (c := T (i + 2)) a9 a8 n0 (by omega) (fun _ => by rw [e2]; exact aL _ (by omega) (by omega)) (fun y => absurd y (by omega)) ?_
  refine m_in (by unfold rc_R; omega) (by unfold rc_R; omega) (by unfold rc_R; omega) ?_
  rw [if_pos nd]
  unfold wX8_isSigned_47
  refine ⟨by unfold rc_R; omega, fun y => absurd y (by decide), fun _ I12 e12 => ⟨Or.inr rfl, Or.inr rfl, ?_⟩⟩
  rw [a9, e5] at e12
  rw [e12]; exact hn
theorem pM_bad (hT : fT T n rc) (hd : 0 < dep ∧ dep ≤ 3) (hi : 0 ≤ i ∧ i + 1 < n) (c : T i = 41) (nx : T (i + 1) = 120) (nd : i + 2 < n → ¬ (50 ≤ T (i + 2) ∧ T (i + 2) ≤ 57)) : pM T n rc i dep 1 (i + 2) (dep - 1) := by
  intro G m post I h9 h10 hf h8 hL hr H
  have n0 := hT.1
  have K9 := jO_9 I m (i + 1) (dep - 1) 1
  have K10 := jO_10 I m (i + 1) (dep - 1) 1
  have Ka := jO_far I m (i + 1) (dep - 1) 1
  have K8 : jO I m (i + 1) (dep - 1) 1 m 8 = n := (jO_8 ..).trans h8
  have M := fun nn => m_close (G := G) (post := fun r J => rX8_isText_12 G post m nn r J) hT hd (show 0 ≤ i ∧ i < n by omega) c h9 h10 (hf hd.1) h8 hL
  generalize jO I m (i + 1) (dep - 1) 1 = K at *
  have KL : ∀ k : Int, 0 ≤ k → k < n → K (m + 8) k = T k := fun k k0 k1 => by rw [Ka _ (by omega) (by omega)]; exact hL k k0 k1
  have A := H (rc_s (rc_s K m 9 (i + 1 + 1)) m 9 (i + 1 + 1 + 0)) (fun x x1 x2 => by rw [qs_n _ _ _ x1, qs_n _ _ _ x1]; exact Ka x x1 x2) (by rw [qs_s, rc_u_n _ _ (by decide), qs_s, rc_u_n _ _ (by decide)]; exact K8) (by rw [qs_s, rc_u_n _ _ (by decide), qs_s, rc_u_n _ _ (by decide)]; exact K10) (fun _ => by rw [qs_s, rc_u_s]; omega)
  rw [if_neg (by omega)] at A
  have S := pM_stop (G := G) (m := m) A
  refine ⟨2, pM_turn h9 h8 n0 (by omega) (M 1 ?_)⟩
  unfold wX8_isSigned
  refine m_here (c := T (i + 1)) K9 K8 n0 (by omega) (fun _ => KL _ (by omega) (by omega)) (fun y => absurd y (by omega)) ?_
  refine ⟨by unfold rc_R; omega, fun _ I5 e5 => ?_, fun y => absurd nx y⟩
  rw [K9] at e5
  have a9 : I5 m 9 = i + 1 + 1 := by rw [e5, qs_s, rc_u_s]
  have a8 : I5 m 8 = n := by rw [e5, qs_s, rc_u_n _ _ (by decide)]; exact K8
  have aL : ∀ k : Int, 0 ≤ k → k < n → I5 (m + 8) k = T k := fun k k0 k1 => by rw [e5, qs_n _ _ _ (by omega)]; exact KL k k0 k1
  have e2 : i + 1 + 1 = i + 2 := by omega
  have F : ∀ c : Int, (i + 2 < n → c = T (i + 2)) → (n ≤ i + 2 → c = -1) → wX8_in G c 50 57 I5 (fun r9 I8 => rc_R r9 ∧ ((r9 = 0 → wX8_isSigned_47 G (fun r24 I23 => (r24 = 0 ∨ r24 = 1) ∧ rX8_isText_12 G post m 1 r24 I23) m r9 0 (I8 m 9) I8) ∧ (¬ r9 = 0 → wX8_isSigned_47 G (fun r24 I23 => (r24 = 0 ∨ r24 = 1) ∧ rX8_isText_12 G post m 1 r24 I23) m r9 1 (I8 m 9) I8))) := by
    intro c c1 c2
    have hc : (0 ≤ c ∧ c ≤ 127 ∨ c = -1) ∧ ¬ (50 ≤ c ∧ c ≤ 57) := by
      by_cases z : i + 2 < n
      · have a := nd z
        have b := hT.2.2 (i + 2) (by omega) z
        rw [c1 z]; exact ⟨Or.inl b, a⟩
      · rw [c2 (by omega)]; exact ⟨Or.inr rfl, by omega⟩
    refine m_in (by unfold rc_R; omega) (by unfold rc_R; omega) (by unfold rc_R; omega) ?_
    rw [if_neg hc.2]
    unfold wX8_isSigned_47
    refine ⟨by unfold rc_R; omega, fun _ I12 e12 => ⟨Or.inl rfl, Or.inl rfl, ?_⟩, fun y => absurd rfl y⟩
    rw [a9, e5] at e12
    rw [e12]; exact S
  by_cases z : i + 2 < n
  · exact m_here (c := T (i + 2)) a9 a8 n0 (by omega) (fun _ => by rw [e2]; exact aL _ (by omega) z) (fun y => absurd y (by omega)) (F _ (fun _ => rfl) (fun y => absurd y (by omega)))
  · exact m_here (c := -1) a9 a8 n0 (by omega) (fun y => absurd y (by omega)) (fun _ => rfl) (F _ (fun y => absurd y z) (fun _ => rfl))
end PM
