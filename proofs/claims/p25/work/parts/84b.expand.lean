/-! ===== pure part: the program that a text tells, groups, the program's way ===== -/
/-- to the parenthesis that closes, and over it -/
theorem XX_to {T : Int → Int} {n rc dep a c : Int} {u : List Int} (hT : fT T n rc) (hdep : 0 ≤ dep ∧ dep < 3) (ha : 0 ≤ a ∧ a < c) (hc : c < n) (c0 : T a = 40) (c1 : T c = 41) (hb : XX T n (dep + 1) (a + 1) c u) :
    ∀ (G : rc_G) (q : Nat) (post : Int → rc_M → Prop) (op gs : Int) (W : List Int) (I : rc_M), (0 ≤ op ∧ op ≤ dep) → I q 2 = n → (∀ k : Int, 0 ≤ k → k < n → I (q + 2) k = T k) → W.length ≤ 12 → cE I (q + 1) W →
    (12 < W.length + u.length → ∀ J : rc_M, (∀ x : Nat, x ≠ q + 1 → x ≠ q + 3 → J x = I x) → post (-100004) J) →
    (W.length + u.length ≤ 12 → ∀ J : rc_M, (∀ x : Nat, x ≠ q + 1 → x ≠ q + 3 → J x = I x) → (∀ j : Int, 0 ≤ j → j < op → J (q + 3) j = I (q + 3) j) → cE J (q + 1) (W ++ u) → ∃ nn, rX1_expand_12 G post q nn ((W ++ u).length : Int) op (W.length : Int) 0 (c + 1) J) →
    ∃ nn, rX1_expand_12 G post q nn (W.length : Int) op gs 0 a I := by
  intro G q post op gs W I hop h2 hL hW hE hf hg
  have n0 := hT.1
  have B := hb G q post (op + 1) gs W (rc_s I (q + 3) op (W.length : Int)) (by omega) (by rw [qs_n _ _ _ (by omega)]; exact h2) (fun k k0 k1 => by rw [qs_n _ _ _ (by omega)]; exact hL k k0 k1) hW (cE_c (qs_n _ _ _ (by omega)) hE) (fun y J j1 => hf y J (fun x x1 x2 => (j1 x x1 x2).trans (qs_n _ _ _ x2))) (fun y J gs2 j1 j2 j3 => by
    have j4 : J (q + 3) op = (W.length : Int) := by rw [j2 op hop.1 (by omega), qs_s, rc_u_s]
    have jL : ∀ k : Int, 0 ≤ k → k < n → J (q + 2) k = T k := fun k k0 k1 => by rw [j1 _ (by omega) (by omega), qs_n _ _ _ (by omega)]; exact hL k k0 k1
    have jn : J q 2 = n := by rw [j1 _ (by omega) (by omega), qs_n _ _ _ (by omega)]; exact h2
    have lw : (W ++ u).length = W.length + u.length := List.length_append
    obtain ⟨nn, hn⟩ := hg y J (fun x x1 x2 => (j1 x x1 x2).trans (qs_n _ _ _ x2)) (fun j j0 j1' => by rw [j2 j j0 (by omega), qs_s, rc_u_n _ _ (by omega)]) j3
    refine ⟨nn + 1, x_turn jn n0 (by omega) (jL c (by omega) hc) (by omega) (by omega) (by omega) (Or.inl rfl) (fun z => absurd z (by omega)) (fun _ => ⟨by omega, ?_⟩) (fun z => absurd z (by omega)) (fun _ z => absurd c1 z) (fun _ z => absurd c1 z)⟩
    rw [show op + 1 + -1 = op by omega, j4]; exact hn)
  obtain ⟨nn, hn⟩ := B
  exact ⟨nn + 1, x_turn h2 n0 (by omega) (hL a ha.1 (by omega)) (by omega) (by omega) (by omega) (Or.inl rfl) (fun _ => ⟨by omega, hn⟩) (fun z => absurd z (by omega)) (fun z => absurd z (by omega)) (fun z => absurd c0 z) (fun z => absurd c0 z)⟩
theorem XX_grp {T : Int → Int} {n rc dep a c : Int} {u : List Int} (hT : fT T n rc) (hdep : 0 ≤ dep ∧ dep < 3) (ha : 0 ≤ a ∧ a < c) (hc : c < n) (c0 : T a = 40) (c1 : T c = 41) (hb : XX T n (dep + 1) (a + 1) c u) : XX T n dep a (c + 1) (u ++ rp u 0) := by
  have e : u ++ rp u 0 = u := List.append_nil u
  rw [e]
  intro G q post op gs W I hop h2 hL hW hE hf hg
  exact XX_to hT hdep ha hc c0 c1 hb G q post op gs W I hop h2 hL hW hE hf (fun y J j1 j2 j3 => hg y J _ j1 j2 j3)
theorem XX_sgn {T : Int → Int} {n rc dep a c : Int} {u : List Int} {k : Nat} (hT : fT T n rc) (hdep : 0 ≤ dep ∧ dep < 3) (ha : 0 ≤ a ∧ a < c) (hc : c + 2 < n) (c0 : T a = 40) (c1 : T c = 41) (c2 : T (c + 1) = 120) (c3 : 50 ≤ T (c + 2) ∧ T (c + 2) ≤ 57) (hk : T (c + 2) - 48 = (k : Int) + 1) (hu : 0 < u.length) (hb : XX T n (dep + 1) (a + 1) c u) : XX T n dep a (c + 3) (u ++ rp u k) := by
  intro G q post op gs W I hop h2 hL hW hE hf hg
  have n0 := hT.1
  have lw : (W ++ u).length = W.length + u.length := List.length_append
  have lf : (W ++ (u ++ rp u k)).length = W.length + (u ++ rp u k).length := List.length_append
  have lu : (u ++ rp u k).length = u.length + (rp u k).length := List.length_append
  refine XX_to hT hdep ha (by omega) c0 c1 hb G q post op gs W I hop h2 hL hW hE (fun y J j1 => hf (by omega) J j1) (fun y J j1 j2 j3 => ?_)
  have jL : ∀ k : Int, 0 ≤ k → k < n → J (q + 2) k = T k := fun k k0 k1 => by rw [j1 _ (by omega) (by omega)]; exact hL k k0 k1
  have jn : J q 2 = n := by rw [j1 _ (by omega) (by omega)]; exact h2
  -- over the sign
  have X1 : ∀ nn, wX1_repeatGroup G q (W.length : Int) ((W ++ u).length : Int) ((k : Int) + 1) J (fun r J => rX1_expand_12 G post q nn r op (W.length : Int) 0 (c + 2 + 1) J) → rX1_expand_12 G post q (nn + 1 + 1) ((W ++ u).length : Int) op (W.length : Int) 0 (c + 1) J := fun nn h =>
    x_turn jn n0 (by omega) (jL _ (by omega) (by omega)) (by omega) (by omega) (by omega) (Or.inl rfl) (fun z => absurd z (by omega)) (fun z => absurd z (by omega)) (fun _ => by
      rw [show c + 1 + 1 = c + 2 by omega]
      exact x_turn jn n0 (by omega) (jL _ (by omega) (by omega)) (by omega) (by omega) (by omega) (Or.inr rfl) (fun z => absurd z (by omega)) (fun z => absurd z (by omega)) (fun z => absurd z (by omega)) (fun _ _ _ z => absurd z (by decide)) (fun _ _ _ _ => by rw [hk]; exact h)) (fun _ _ z => absurd c2 z) (fun _ _ z => absurd c2 z)
  by_cases z : W.length + (u ++ rp u k).length ≤ 12
  · have E2 := rJ_c (u := rp u k) j3
    rw [List.append_assoc] at E2
    obtain ⟨nn, hn⟩ := hg z (rJ J (q + 1) ((W ++ u).length : Int) ((W ++ (u ++ rp u k)).length : Int) (W ++ (u ++ rp u k))) (W.length : Int) (fun x x1 x2 => (rJ_n _ _ _ _ x1).trans (j1 x x1 x2)) (fun j j0 j1' => by rw [rJ_n _ _ _ _ (by omega)]; exact j2 j j0 j1') E2
    refine ⟨nn + 1 + 1, X1 nn (x_repeat hu (by omega) (by omega) j3 (fun _ => ?_) (fun y => absurd y (by omega)))⟩
    rw [show c + 2 + 1 = c + 3 by omega]; exact hn
  · refine ⟨1 + 1 + 1, X1 1 (x_repeat hu (by omega) (by omega) j3 (fun y => absurd y (by omega)) (fun y K k1 => ?_))⟩
    exact x_full (by rw [k1 _ (by omega)]; exact jn) n0 (by omega) (hf (by omega) K (fun x x1 x2 => (k1 x x1).trans (j1 x x1 x2)))
