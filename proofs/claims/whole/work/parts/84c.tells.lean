/-! ===== pure part: the program that a text tells, the reference's way ===== -/
theorem t_stop {G : rc_G} {m : Nat} {post : Int → rc_M → Prop} {I : rc_M} {n i : Int} (h9 : I m 9 = i) (h8 : I m 8 = n) (hn : 0 ≤ n ∧ n ≤ 60) (hi : 0 ≤ i ∧ i ≤ 100) (h : post 13 I) : rX8_tells_12 G post m 1 13 I := by
  show wX8_tells_12 G post m (rX8_tells_12 G post m 0) 13 I
  unfold wX8_tells_12
  rw [h9, h8]
  exact ⟨by unfold rc_R; omega, by unfold rc_R; omega, fun _ => h, fun _ => ⟨by unfold rc_R; omega, fun _ => h, fun y => absurd (by decide) y⟩⟩
theorem t_dig {G : rc_G} {m nn : Nat} {post : Int → rc_M → Prop} {I : rc_M} {n i c cnt : Int} (h9 : I m 9 = i) (h8 : I m 8 = n) (hn : 0 ≤ n ∧ n ≤ 60) (hi : 0 ≤ i ∧ i < n) (hc : I (m + 8) i = c) (c0 : 48 ≤ c ∧ c ≤ 57) (hcnt : 0 ≤ cnt ∧ cnt ≤ 12)
    (h1 : cnt < 12 → rX8_tells_12 G post m nn (cnt + 1) (rc_s (rc_s I m 9 (i + 1)) (m + 12) cnt (c - 48))) (h2 : cnt = 12 → rX8_tells_12 G post m nn 13 (rc_s I m 9 (i + 1))) : rX8_tells_12 G post m (nn + 1) cnt I := by
  show wX8_tells_12 G post m (rX8_tells_12 G post m nn) cnt I
  unfold wX8_tells_12 wX8_tells_255 wX8_tells_258
  rw [h9, h8, hc]
  refine ⟨by unfold rc_R; omega, by unfold rc_R; omega, fun y => absurd y (by omega), fun _ => ⟨by unfold rc_R; omega, fun y => absurd y (by omega), fun _ => ⟨by omega, fun I9 e9 => ⟨by unfold rc_R; omega, fun _ => ⟨by unfold rc_R; omega, fun _ => ⟨by unfold rc_R; omega, fun d => ?_, fun d => ⟨by omega, fun I17 e17 => ?_⟩⟩, fun y => absurd y (by omega)⟩, fun y => absurd y (by omega)⟩⟩⟩⟩
  · rw [e9, show cnt + 1 = 13 by omega]; exact h2 (by omega)
  · rw [e17, e9]; exact h1 (by omega)
theorem t_open {G : rc_G} {m nn : Nat} {post : Int → rc_M → Prop} {I : rc_M} {n i c cnt dp : Int} (h9 : I m 9 = i) (h8 : I m 8 = n) (h10 : I m 10 = dp) (hn : 0 ≤ n ∧ n ≤ 60) (hi : 0 ≤ i ∧ i < n) (hc : I (m + 8) i = c) (c0 : c = 40) (hcnt : 0 ≤ cnt ∧ cnt ≤ 12) (hd : 0 ≤ dp ∧ dp < 3)
    (h : rX8_tells_12 G post m nn cnt (rc_s (rc_s (rc_s (rc_s I m 9 (i + 1)) (m + 10) dp (i + 1)) (m + 11) dp (-1)) m 10 (dp + 1))) : rX8_tells_12 G post m (nn + 1) cnt I := by
  show wX8_tells_12 G post m (rX8_tells_12 G post m nn) cnt I
  unfold wX8_tells_12 wX8_tells_258
  rw [h9, h8, hc]
  refine ⟨by unfold rc_R; omega, by unfold rc_R; omega, fun y => absurd y (by omega), fun _ => ⟨by unfold rc_R; omega, fun y => absurd y (by omega), fun _ => ⟨by omega, fun I9 e9 => ⟨by unfold rc_R; omega, fun y => absurd c0 y, fun _ => ?_⟩⟩⟩⟩
  have a10 : I9 m 10 = dp := by rw [e9, qs_s, rc_u_n _ _ (by decide)]; exact h10
  have a9 : I9 m 9 = i + 1 := by rw [e9, qs_s, rc_u_s]
  rw [a10, a9]
  refine ⟨by omega, fun I40 e40 => ?_⟩
  have b10 : I40 m 10 = dp := by rw [e40, qs_n _ _ _ (by omega)]; exact a10
  rw [b10]
  refine ⟨by omega, fun I42 e42 I43 e43 => ?_⟩
  have d10 : I42 m 10 = dp := by rw [e42, qs_n _ _ _ (by omega)]; exact b10
  rw [d10, e42, e40, e9] at e43
  rw [e43]; exact h
theorem t_close {G : rc_G} {m nn : Nat} {post : Int → rc_M → Prop} {I : rc_M} {T : Int → Int} {n rc i cnt dp hs wn L : Int} (hT : fT T n rc) (h9 : I m 9 = i) (h8 : I m 8 = n) (h10 : I m 10 = dp + 1) (hi : 0 ≤ i ∧ i < n) (hL : ∀ k : Int, 0 ≤ k → k < n → I (m + 8) k = T k) (c0 : T i = 41) (hcnt : 0 ≤ cnt ∧ cnt ≤ 12) (hd : 0 ≤ dp ∧ dp < 3)
    (hw : (hs = 0 ∧ wn = 1 ∧ (i + 1 < n → T (i + 1) ≠ 120)) ∨ (hs = 1 ∧ i + 2 < n ∧ T (i + 1) = 120 ∧ wn = T (i + 2) - 48)) (hl : (0 ≤ I (m + 11) dp ∧ I (m + 11) dp = L) ∨ (I (m + 11) dp = -1 ∧ wn - 1 = L)) (L0 : 0 ≤ L ∧ L ≤ 8)
    (h1 : L = 0 → rX8_tells_12 G post m nn cnt (rc_s (rc_s (rc_s I m 9 (i + 1)) m 10 dp) m 9 (i + 1 + 2 * hs))) (h2 : 0 < L → rX8_tells_12 G post m nn cnt (rc_s (rc_s (rc_s I m 9 (i + 1)) (m + 11) dp (L - 1)) m 9 (I (m + 10) dp))) : rX8_tells_12 G post m (nn + 1) cnt I := by
  have n0 := hT.1
  show wX8_tells_12 G post m (rX8_tells_12 G post m nn) cnt I
  unfold wX8_tells_12
  rw [h9, h8, hL i hi.1 hi.2]
  refine ⟨by unfold rc_R; omega, by unfold rc_R; omega, fun y => absurd y (by omega), fun _ => ⟨by unfold rc_R; omega, fun y => absurd y (by omega), fun _ => ⟨by omega, fun I9 e9 => ⟨by unfold rc_R; omega, fun _ => ⟨by unfold rc_R; omega, fun y => absurd c0 y, fun _ => ?_⟩, fun y => absurd y (by omega)⟩⟩⟩⟩
  have a9 : I9 m 9 = i + 1 := by rw [e9, qs_s, rc_u_s]
  have a8 : I9 m 8 = n := by rw [e9, qs_s, rc_u_n _ _ (by decide)]; exact h8
  have a10 : I9 m 10 = dp + 1 := by rw [e9, qs_s, rc_u_n _ _ (by decide)]; exact h10
  have aL : ∀ k : Int, 0 ≤ k → k < n → I9 (m + 8) k = T k := fun k k0 k1 => by rw [e9, qs_n _ _ _ (by omega)]; exact hL k k0 k1
  have ab : I9 (m + 10) = I (m + 10) := by rw [e9, qs_n _ _ _ (by omega)]
  have at' : I9 (m + 11) = I (m + 11) := by rw [e9, qs_n _ _ _ (by omega)]
  have K : wX8_tells_168 G post m (rX8_tells_12 G post m nn) cnt hs L I9 := by
    unfold wX8_tells_168 wX8_tells_232 wX8_tells_236 wX8_tells_258
    rw [a10, show dp + 1 - 1 = dp by omega]
    refine ⟨by unfold rc_R; omega, fun y I30 e30 => ?_, fun y => ⟨by omega, fun I35 e35 => ?_⟩⟩
    · have b9 : I30 m 9 = i + 1 := by rw [e30, qs_s, rc_u_n _ _ (by decide)]; exact a9
      have g := h1 (by omega)
      rw [← e9, ← e30] at g
      rw [b9]
      refine ⟨by unfold rc_R; omega, fun z I33 e33 => ?_, fun z I33 e33 => ?_⟩
      · rw [z] at g; rw [e33]; exact g
      · rw [show hs = 1 by omega] at g; rw [e33]; exact g
    · have b10 : I35 m 10 = dp + 1 := by rw [e35, qs_n _ _ _ (by omega)]; exact a10
      have bb : I35 (m + 10) = I (m + 10) := by rw [e35, qs_n _ _ _ (by omega)]; exact ab
      rw [b10, bb, show dp + 1 - 1 = dp by omega]
      refine ⟨by omega, fun I37 e37 => ?_⟩
      have g := h2 (by omega)
      rw [← e9, ← e35, ← e37] at g
      exact g
  have K2 : ∀ y : Int, y = wn → wX8_tells_134 G post m (rX8_tells_12 G post m nn) cnt hs y I9 := by
    intro y hy
    unfold wX8_tells_134
    rw [a10, at', show dp + 1 - 1 = dp by omega]
    refine ⟨by omega, by unfold rc_R; omega, fun z => ⟨by omega, ?_⟩, fun z => ?_⟩
    · rw [show I (m + 11) dp = L by omega]; exact K
    · rw [show y - 1 = L by omega]; exact K
  have K3 : wX8_tells_111 G post m (rX8_tells_12 G post m nn) cnt hs I9 := by
    unfold wX8_tells_111
    refine ⟨by unfold rc_R; omega, fun y => K2 1 (by omega), fun y => ?_⟩
    rw [a9, show i + 1 + 1 = i + 2 by omega]
    refine ⟨by omega, K2 _ ?_⟩
    rw [aL _ (by omega) (by omega)]; omega
  rcases hw with ⟨w1, w2, w3⟩ | ⟨w1, w2, w3, w4⟩
  · rw [w1] at K3
    by_cases z : i + 1 < n
    · have zc := hT.2.2 (i + 1) (by omega) z
      exact m_here (c := T (i + 1)) a9 a8 n0 (by omega) (fun _ => aL _ (by omega) z) (fun y => absurd y (by omega)) ⟨by unfold rc_R; omega, fun _ => K3, fun y => absurd y (w3 z)⟩
    · exact m_here (c := -1) a9 a8 n0 (by omega) (fun y => absurd y z) (fun _ => rfl) ⟨by unfold rc_R; omega, fun _ => K3, fun y => absurd y (by decide)⟩
  · rw [w1] at K3
    exact m_here (c := T (i + 1)) a9 a8 n0 (by omega) (fun _ => aL _ (by omega) (by omega)) (fun y => absurd y (by omega)) ⟨by unfold rc_R; omega, fun y => absurd w3 y, fun _ => K3⟩
/-- what a way over the letters from a to b, deeper than dep at most 3, adds to what is told -/
def MM (T : Int → Int) (n dep a b : Int) (w : List Int) : Prop := ∀ (G : rc_G) (m : Nat) (post : Int → rc_M → Prop) (dp : Int) (W : List Int) (I : rc_M), (0 ≤ dp ∧ dp ≤ dep) → I m 9 = a → I m 10 = dp → I m 8 = n → (∀ k : Int, 0 ≤ k → k < n → I (m + 8) k = T k) → W.length ≤ 12 → cE I (m + 12) W →
  (12 < W.length + w.length → ∀ J : rc_M, (∀ x : Nat, x ≠ m → x ≠ m + 10 → x ≠ m + 11 → x ≠ m + 12 → J x = I x) → J m 8 = n → post 13 J) →
  (W.length + w.length ≤ 12 → ∀ J : rc_M, (∀ x : Nat, x ≠ m → x ≠ m + 10 → x ≠ m + 11 → x ≠ m + 12 → J x = I x) → J m 9 = b → J m 10 = dp → J m 8 = n → (∀ j : Int, 0 ≤ j → j < dp → J (m + 10) j = I (m + 10) j ∧ J (m + 11) j = I (m + 11) j) → cE J (m + 12) (W ++ w) → ∃ nn, rX8_tells_12 G post m nn ((W ++ w).length : Int) J) →
  ∃ nn, rX8_tells_12 G post m nn (W.length : Int) I
theorem MM_0 (T : Int → Int) (n dep a : Int) : MM T n dep a a [] := by
  intro G m post dp W I hdp h9 h10 h8 hL hW hc hf hg
  have g := hg (by simpa using hW) I (fun _ _ _ _ _ => rfl) h9 h10 h8 (fun _ _ _ => ⟨rfl, rfl⟩) (by rw [List.append_nil]; exact hc)
  rw [List.append_nil] at g
  exact g
theorem MM_app {T : Int → Int} {n dep a b c : Int} {u w : List Int} (h1 : MM T n dep a b u) (h2 : MM T n dep b c w) : MM T n dep a c (u ++ w) := by
  intro G m post dp W I hdp h9 h10 h8 hL hW hc hf hg
  refine h1 G m post dp W I hdp h9 h10 h8 hL hW hc (fun y J j1 => hf (by rw [List.length_append]; omega) J j1) (fun y J j1 j9 j10 j8 j2 j3 => ?_)
  refine h2 G m post dp (W ++ u) J hdp j9 j10 j8 (fun k k0 k1 => by rw [j1 _ (by omega) (by omega) (by omega) (by omega)]; exact hL k k0 k1) (by rw [List.length_append]; exact y) j3 (fun z K k1 => hf (by rw [List.length_append] at z ⊢; omega) K (fun x x1 x2 x3 x4 => (k1 x x1 x2 x3 x4).trans (j1 x x1 x2 x3 x4))) (fun z K k1 k9 k10 k8 k2 k3 => ?_)
  rw [List.append_assoc] at k3 ⊢
  exact hg (by rw [List.length_append] at z ⊢; omega) K (fun x x1 x2 x3 x4 => (k1 x x1 x2 x3 x4).trans (j1 x x1 x2 x3 x4)) k9 k10 k8 (fun j j0 j1' => ⟨(k2 j j0 j1').1.trans (j2 j j0 j1').1, (k2 j j0 j1').2.trans (j2 j j0 j1').2⟩) k3
theorem MM_dig {T : Int → Int} {n rc dep i : Int} (hT : fT T n rc) (hi : 0 ≤ i ∧ i < n) (c : 48 ≤ T i ∧ T i ≤ 57) : MM T n dep i (i + 1) [T i - 48] := by
  intro G m post dp W I hdp h9 h10 h8 hL hW hc hf hg
  have n0 := hT.1
  by_cases w : W.length < 12
  · have E : cE (rc_s (rc_s I m 9 (i + 1)) (m + 12) (W.length : Int) (T i - 48)) (m + 12) (W ++ [T i - 48]) := cE_1 (cE_c (qs_n _ _ _ (by omega)) hc)
    obtain ⟨nn, hn⟩ := hg (by simp; omega) (rc_s (rc_s I m 9 (i + 1)) (m + 12) (W.length : Int) (T i - 48)) (fun x x1 _ _ x4 => by rw [qs_n _ _ _ x4, qs_n _ _ _ x1]) (by rw [qs_n _ _ _ (by omega), qs_s, rc_u_s]) (by rw [qs_n _ _ _ (by omega), qs_s, rc_u_n _ _ (by decide)]; exact h10) (by rw [qs_n _ _ _ (by omega), qs_s, rc_u_n _ _ (by decide)]; exact h8) (fun j _ _ => ⟨by rw [qs_n _ _ _ (by omega), qs_n _ _ _ (by omega)], by rw [qs_n _ _ _ (by omega), qs_n _ _ _ (by omega)]⟩) E
    rw [List.length_append, List.length_singleton, Int.natCast_add] at hn
    exact ⟨nn + 1, t_dig h9 h8 n0 hi (hL i hi.1 hi.2) c (by omega) (fun _ => hn) (fun y => absurd y (by omega))⟩
  · have F := hf (by simp; omega) (rc_s I m 9 (i + 1)) (fun x x1 _ _ _ => qs_n _ _ _ x1) (by rw [qs_s, rc_u_n _ _ (by decide)]; exact h8)
    exact ⟨1 + 1, t_dig h9 h8 n0 hi (hL i hi.1 hi.2) c (by omega) (fun y => absurd y (by omega)) (fun _ => t_stop (i := i + 1) (by rw [qs_s, rc_u_s]) (by rw [qs_s, rc_u_n _ _ (by decide)]; exact h8) n0 (by omega) F)⟩
theorem MM_grp {T : Int → Int} {n rc dep a c hs : Int} {k0 : Nat} {u : List Int} (hT : fT T n rc) (hdep : 0 ≤ dep ∧ dep < 3) (ha : 0 ≤ a ∧ a < c) (hc : c < n) (c0 : T a = 40) (c1 : T c = 41) (hb : MM T n (dep + 1) (a + 1) c u) (hk0 : k0 ≤ 8)
    (hw : (hs = 0 ∧ (k0 : Int) + 1 = 1 ∧ (c + 1 < n → T (c + 1) ≠ 120)) ∨ (hs = 1 ∧ c + 2 < n ∧ T (c + 1) = 120 ∧ (k0 : Int) + 1 = T (c + 2) - 48)) : MM T n dep a (c + 1 + 2 * hs) (u ++ rp u k0) := by
  intro G m post dp W0 I0 hdp h90 h100 h80 hL0 hW0 hE0 hf0 hg0
  have n0 := hT.1
  have K : ∀ (k : Nat) (W : List Int) (I : rc_M), k ≤ 8 → I m 9 = c → I m 10 = dp + 1 → I m 8 = n → (∀ k : Int, 0 ≤ k → k < n → I (m + 8) k = T k) → I (m + 10) dp = a + 1 → ((0 ≤ I (m + 11) dp ∧ I (m + 11) dp = (k : Int)) ∨ (I (m + 11) dp = -1 ∧ (k0 : Int) + 1 - 1 = (k : Int))) → W.length ≤ 12 → cE I (m + 12) W →
      (12 < W.length + (rp u k).length → ∀ J : rc_M, (∀ x : Nat, x ≠ m → x ≠ m + 10 → x ≠ m + 11 → x ≠ m + 12 → J x = I x) → J m 8 = n → post 13 J) →
      (W.length + (rp u k).length ≤ 12 → ∀ J : rc_M, (∀ x : Nat, x ≠ m → x ≠ m + 10 → x ≠ m + 11 → x ≠ m + 12 → J x = I x) → J m 9 = c + 1 + 2 * hs → J m 10 = dp → J m 8 = n → (∀ j : Int, 0 ≤ j → j < dp → J (m + 10) j = I (m + 10) j ∧ J (m + 11) j = I (m + 11) j) → cE J (m + 12) (W ++ rp u k) → ∃ nn, rX8_tells_12 G post m nn ((W ++ rp u k).length : Int) J) →
      ∃ nn, rX8_tells_12 G post m nn (W.length : Int) I := by
    intro k
    induction k with
    | zero =>
      intro W I hk h9 h10 h8 hL hbg htm hW hE hf hg
      have e : W ++ rp u 0 = W := List.append_nil W
      rw [e] at hg
      obtain ⟨nn, hn⟩ := hg (by simp [rp]; omega) (rc_s (rc_s (rc_s I m 9 (c + 1)) m 10 dp) m 9 (c + 1 + 2 * hs)) (fun x x1 _ _ _ => by rw [qs_n _ _ _ x1, qs_n _ _ _ x1, qs_n _ _ _ x1]) (by rw [qs_s, rc_u_s]) (by rw [qs_s, rc_u_n _ _ (by decide), qs_s, rc_u_s]) (by rw [qs_s, rc_u_n _ _ (by decide), qs_s, rc_u_n _ _ (by decide), qs_s, rc_u_n _ _ (by decide)]; exact h8) (fun j _ _ => ⟨by rw [qs_n _ _ _ (by omega), qs_n _ _ _ (by omega), qs_n _ _ _ (by omega)], by rw [qs_n _ _ _ (by omega), qs_n _ _ _ (by omega), qs_n _ _ _ (by omega)]⟩) (cE_c (by rw [qs_n _ _ _ (by omega), qs_n _ _ _ (by omega), qs_n _ _ _ (by omega)]) hE)
      exact ⟨nn + 1, t_close (L := 0) hT h9 h8 h10 (by omega) hL c1 (by omega) (by omega) hw htm (by omega) (fun _ => hn) (fun y => absurd y (by decide))⟩
    | succ k ih =>
      intro W I hk h9 h10 h8 hL hbg htm hW hE hf hg
      have lr : (rp u (k + 1)).length = u.length + (rp u k).length := by rw [rp, List.length_append]
      have B := hb G m post (dp + 1) W (rc_s (rc_s (rc_s I m 9 (c + 1)) (m + 11) dp (k : Int)) m 9 (a + 1)) (by omega) (by rw [qs_s, rc_u_s]) (by rw [qs_s, rc_u_n _ _ (by decide), qs_n _ _ _ (by omega), qs_s, rc_u_n _ _ (by decide)]; exact h10) (by rw [qs_s, rc_u_n _ _ (by decide), qs_n _ _ _ (by omega), qs_s, rc_u_n _ _ (by decide)]; exact h8) (fun j j0 j1 => by rw [qs_n _ _ _ (by omega), qs_n _ _ _ (by omega), qs_n _ _ _ (by omega)]; exact hL j j0 j1) hW (cE_c (by rw [qs_n _ _ _ (by omega), qs_n _ _ _ (by omega), qs_n _ _ _ (by omega)]) hE)
        (fun y J j1 => hf (by omega) J (fun x x1 x2 x3 x4 => (j1 x x1 x2 x3 x4).trans (by rw [qs_n _ _ _ x1, qs_n _ _ _ x3, qs_n _ _ _ x1])))
        (fun y J j1 j9 j10 j8 j2 j3 => by
          have jf : ∀ x : Nat, x ≠ m → x ≠ m + 10 → x ≠ m + 11 → x ≠ m + 12 → J x = I x := fun x x1 x2 x3 x4 => (j1 x x1 x2 x3 x4).trans (by rw [qs_n _ _ _ x1, qs_n _ _ _ x3, qs_n _ _ _ x1])
          have jb : ∀ j : Int, 0 ≤ j → j < dp + 1 → J (m + 10) j = I (m + 10) j := fun j j0 j1' => by rw [(j2 j j0 j1').1, qs_n _ _ _ (by omega), qs_n _ _ _ (by omega), qs_n _ _ _ (by omega)]
          have jt : ∀ j : Int, 0 ≤ j → j < dp + 1 → J (m + 11) j = if j = dp then (k : Int) else I (m + 11) j := fun j j0 j1' => by rw [(j2 j j0 j1').2, qs_n _ _ _ (by omega), qs_s, rc_ue, qs_n _ _ _ (by omega)]
          have lw : (W ++ u).length = W.length + u.length := List.length_append
          refine ih (W ++ u) J (by omega) j9 j10 j8 (fun j j0 j1' => by rw [jf _ (by omega) (by omega) (by omega) (by omega)]; exact hL j j0 j1') (by rw [jb dp hdp.1 (by omega)]; exact hbg) (Or.inl ?_) (by omega) j3 (fun z K k1 => hf (by omega) K (fun x x1 x2 x3 x4 => (k1 x x1 x2 x3 x4).trans (jf x x1 x2 x3 x4))) (fun z K k1 k9 k10 k8 k2 k3 => ?_)
          · rw [jt dp hdp.1 (by omega), if_pos rfl]; exact ⟨by omega, rfl⟩
          · have g := hg (by omega) K (fun x x1 x2 x3 x4 => (k1 x x1 x2 x3 x4).trans (jf x x1 x2 x3 x4)) k9 k10 k8 (fun j j0 j1' => ⟨(k2 j j0 j1').1.trans (jb j j0 (by omega)), (k2 j j0 j1').2.trans (by rw [jt j j0 (by omega), if_neg (by omega)])⟩)
            rw [List.append_assoc] at k3 ⊢
            exact g k3)
      obtain ⟨nn, hn⟩ := B
      refine ⟨nn + 1, t_close (L := ((k + 1 : Nat) : Int)) hT h9 h8 h10 (by omega) hL c1 (by omega) (by omega) hw htm (by omega) (fun y => absurd y (by omega)) (fun _ => ?_)⟩
      rw [hbg, show ((k + 1 : Nat) : Int) - 1 = (k : Int) by omega]; exact hn
  have lu : (u ++ rp u k0).length = u.length + (rp u k0).length := List.length_append
  have B := hb G m post (dp + 1) W0 (rc_s (rc_s (rc_s (rc_s I0 m 9 (a + 1)) (m + 10) dp (a + 1)) (m + 11) dp (-1)) m 10 (dp + 1)) (by omega) (by rw [qs_s, rc_u_n _ _ (by decide), qs_n _ _ _ (by omega), qs_n _ _ _ (by omega), qs_s, rc_u_s]) (by rw [qs_s, rc_u_s]) (by rw [qs_s, rc_u_n _ _ (by decide), qs_n _ _ _ (by omega), qs_n _ _ _ (by omega), qs_s, rc_u_n _ _ (by decide)]; exact h80) (fun j j0 j1 => by rw [qs_n _ _ _ (by omega), qs_n _ _ _ (by omega), qs_n _ _ _ (by omega), qs_n _ _ _ (by omega)]; exact hL0 j j0 j1) hW0 (cE_c (by rw [qs_n _ _ _ (by omega), qs_n _ _ _ (by omega), qs_n _ _ _ (by omega), qs_n _ _ _ (by omega)]) hE0)
    (fun y J j1 => hf0 (by omega) J (fun x x1 x2 x3 x4 => (j1 x x1 x2 x3 x4).trans (by rw [qs_n _ _ _ x1, qs_n _ _ _ x3, qs_n _ _ _ x2, qs_n _ _ _ x1])))
    (fun y J j1 j9 j10 j8 j2 j3 => by
      have jf : ∀ x : Nat, x ≠ m → x ≠ m + 10 → x ≠ m + 11 → x ≠ m + 12 → J x = I0 x := fun x x1 x2 x3 x4 => (j1 x x1 x2 x3 x4).trans (by rw [qs_n _ _ _ x1, qs_n _ _ _ x3, qs_n _ _ _ x2, qs_n _ _ _ x1])
      have jb : ∀ j : Int, 0 ≤ j → j < dp + 1 → J (m + 10) j = if j = dp then a + 1 else I0 (m + 10) j := fun j j0 j1' => by rw [(j2 j j0 j1').1, qs_n _ _ _ (by omega), qs_n _ _ _ (by omega), qs_s, rc_ue, qs_n _ _ _ (by omega)]
      have jt : ∀ j : Int, 0 ≤ j → j < dp + 1 → J (m + 11) j = if j = dp then -1 else I0 (m + 11) j := fun j j0 j1' => by rw [(j2 j j0 j1').2, qs_n _ _ _ (by omega), qs_s, rc_ue, qs_n _ _ _ (by omega), qs_n _ _ _ (by omega)]
      have lw : (W0 ++ u).length = W0.length + u.length := List.length_append
      refine K k0 (W0 ++ u) J hk0 j9 j10 j8 (fun j j0 j1' => by rw [jf _ (by omega) (by omega) (by omega) (by omega)]; exact hL0 j j0 j1') (by rw [jb dp hdp.1 (by omega), if_pos rfl]) (Or.inr ⟨by rw [jt dp hdp.1 (by omega), if_pos rfl], by omega⟩) (by omega) j3 (fun z K k1 => hf0 (by omega) K (fun x x1 x2 x3 x4 => (k1 x x1 x2 x3 x4).trans (jf x x1 x2 x3 x4))) (fun z K k1 k9 k10 k8 k2 k3 => ?_)
      have g := hg0 (by omega) K (fun x x1 x2 x3 x4 => (k1 x x1 x2 x3 x4).trans (jf x x1 x2 x3 x4)) k9 k10 k8 (fun j j0 j1' => ⟨(k2 j j0 j1').1.trans (by rw [jb j j0 (by omega), if_neg (by omega)]), (k2 j j0 j1').2.trans (by rw [jt j j0 (by omega), if_neg (by omega)])⟩)
      rw [List.append_assoc] at k3 ⊢
      exact g k3)
  obtain ⟨nn, hn⟩ := B
  exact ⟨nn + 1, t_open h90 h80 h100 n0 (by omega) (hL0 a ha.1 (by omega)) c0 (by omega) (by omega) hn⟩
