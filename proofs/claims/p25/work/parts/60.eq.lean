/-! ===== pure part: a room of the program, and the row that tells the same ===== -/
def eL (I : rc_M) (q : Nat) (v : rv) (i : Int) : Prop :=
  I q 0 = v (1 + 14 * i) ∧ I q 1 = v (2 + 14 * i) ∧ ∀ k : Int, 0 ≤ k → k < v (2 + 14 * i) → I (q + 1) k = v (3 + 14 * i + 2 * k) ∧ I (q + 2) k = v (4 + 14 * i + 2 * k)
def eR (I : rc_M) (r : Nat) (v : rv) : Prop :=
  I (r + 1) 0 = v 0 ∧ I (r + 1) 1 = v 149 ∧ (∀ k : Int, 0 ≤ k → k < 8 → I (r + 3) k = v (141 + k)) ∧ (∀ k : Int, 0 ≤ k → k < v 149 → I (r + 4) k = v (150 + k)) ∧
  (∀ i : Int, 0 ≤ i → i < v 0 → eL I (r + 5 + 3 * i.toNat) v i)
def eP (I : rc_M) (q : Nat) (v : rv) (p : Int) : Prop :=
  I q 0 = v (191 + 4 * p) ∧ ((v (191 + 4 * p) ≠ 0 ∨ (v 162 = 1 ∧ v 163 = 0 ∧ v 165 = p)) → I q 1 = v (192 + 4 * p)) ∧ ((v (191 + 4 * p) = 2 ∨ v (191 + 4 * p) = 3 ∨ v (191 + 4 * p) = 5) → I q 2 = v (193 + 4 * p))
def eO (I : rc_M) (o : Nat) (v : rv) : Prop :=
  I o 0 = (if 0 ≤ v 172 then v 173 else 0) ∧ I o 1 = v 174 ∧ (0 ≤ v 172 → I o 2 = v 172 % 3 ∧ I o 3 = v 172 / 3) ∧ ∀ k : Int, 0 ≤ k → k < v 174 → I (o + 1) k = v (175 + k) % 3 ∧ I (o + 2) k = v (175 + k) / 3
def eC (I : rc_M) (s : Nat) (v : rv) : Prop :=
  I s 0 = (if v 162 = 1 ∧ v 163 = 0 then 1 else 0) ∧ I s 1 = v 164 ∧ I s 2 = v 166 ∧ I s 3 = v 167 ∧ I s 4 = v 168 ∧ I s 5 = v 169 ∧ I s 7 = v 165 ∧ I s 8 = v 170 ∧ I s 9 = v 171
def eS (I : rc_M) (s : Nat) (v : rv) : Prop := eC I s v ∧ eO I (s + 1) v ∧ ∀ p : Int, p = 0 ∨ p = 1 → eP I (s + 4 + p.toNat) v p
def eA (I : rc_M) (r : Nat) (v : rv) : Prop := eR I r v ∧ eS I (r + 35) v
/-- only the room's own rows may have changed -/
def eF (r : Nat) (I J : rc_M) : Prop := ∀ a : Nat, (a < r ∨ r + 40 < a) → J a = I a
theorem eF_r (r : Nat) (I : rc_M) : eF r I I := fun _ _ => rfl
theorem eF_t {r : Nat} {I J K : rc_M} (h : eF r I J) (g : eF r J K) : eF r I K := fun a ha => (g a ha).trans (h a ha)
theorem qs_n (I : rc_M) {a b : Nat} (k x : Int) (h : b ≠ a) : rc_s I a k x b = I b := by rw [rc_s, rc_w_n _ _ h]
theorem qs_s (I : rc_M) (a : Nat) (k x : Int) : rc_s I a k x a = rc_u (I a) k x := by rw [rc_s, rc_w_s]
theorem qs_i (I : rc_M) (a : Nat) (k : Int) {x : Int} (h : I a k = x) : rc_s I a k x = I := by
  funext b j
  by_cases e : b = a
  · rw [e, qs_s, rc_ue]
    by_cases c : j = k
    · rw [if_pos c, c, h]
    · rw [if_neg c]
  · rw [qs_n _ _ _ e]
theorem eF_s {r : Nat} {I J : rc_M} {a : Nat} {k x : Int} (h : eF r I J) (ha : r ≤ a ∧ a ≤ r + 40) : eF r I (rc_s J a k x) := fun b hb => by
  rw [qs_n _ _ _ (by omega)]; exact h b hb
theorem eL_c {I J : rc_M} {q : Nat} {u v : rv} {i : Int} (hi : 0 ≤ i ∧ i < 10) (w : wL v i) (hI : J q = I q ∧ J (q + 1) = I (q + 1) ∧ J (q + 2) = I (q + 2)) (h : ∀ j : Int, 0 ≤ j → j < 141 → u j = v j) (e : eL I q v i) : eL J q u i := by
  obtain ⟨a, b, c⟩ := e
  have w2 := w.2.1
  have e2 := h (2 + 14 * i) (by omega) (by omega)
  refine ⟨by rw [hI.1, h _ (by omega) (by omega)]; exact a, by rw [hI.1, e2]; exact b, fun k k0 k1 => ?_⟩
  rw [e2] at k1
  rw [hI.2.1, hI.2.2, h _ (by omega) (by omega), h _ (by omega) (by omega)]; exact c k k0 k1
theorem eR_c {I J : rc_M} {r : Nat} {u v : rv} (s : wS v) (hI : ∀ a : Nat, r + 1 ≤ a → a ≤ r + 34 → J a = I a) (h : ∀ j : Int, 0 ≤ j → j < 162 → u j = v j) (e : eR I r v) : eR J r u := by
  obtain ⟨a, b, c, d, f⟩ := e
  have s0 := s.1
  have s1 := s.2.1
  refine ⟨by rw [hI _ (by omega) (by omega), h 0 (by omega) (by omega)]; exact a, by rw [hI _ (by omega) (by omega), h 149 (by omega) (by omega)]; exact b, fun k k0 k1 => by rw [hI _ (by omega) (by omega), h _ (by omega) (by omega)]; exact c k k0 k1, fun k k0 k1 => ?_, fun i i0 i1 => ?_⟩
  · rw [h 149 (by omega) (by omega)] at k1
    rw [hI _ (by omega) (by omega), h _ (by omega) (by omega)]; exact d k k0 k1
  · rw [h 0 (by omega) (by omega)] at i1
    exact eL_c (by omega) (s.2.2.2.2 i i0 i1) ⟨hI _ (by omega) (by omega), hI _ (by omega) (by omega), hI _ (by omega) (by omega)⟩ (fun j j0 j1 => h j j0 (by omega)) (f i i0 i1)
theorem eO_c {I J : rc_M} {o : Nat} {u v : rv} (hI : J o = I o ∧ J (o + 1) = I (o + 1) ∧ J (o + 2) = I (o + 2)) (h2 : u 172 = v 172) (h3 : u 173 = v 173) (h4 : u 174 = v 174) (hr : ∀ k : Int, 0 ≤ k → k < v 174 → u (175 + k) = v (175 + k)) (e : eO I o v) : eO J o u := by
  obtain ⟨a, b, c, d⟩ := e
  unfold eO
  rw [hI.1, hI.2.1, hI.2.2, h2, h3, h4]
  exact ⟨a, b, c, fun k k0 k1 => by rw [hr k k0 k1]; exact d k k0 k1⟩
theorem eP_c {I J : rc_M} {q : Nat} {u v : rv} {p : Int} (hI : J q = I q) (a1 : u (191 + 4 * p) = v (191 + 4 * p)) (a2 : u (192 + 4 * p) = v (192 + 4 * p)) (a3 : u (193 + 4 * p) = v (193 + 4 * p)) (hf : u 162 = 1 ∧ u 163 = 0 ∧ u 165 = p → v 162 = 1 ∧ v 163 = 0 ∧ v 165 = p) (e : eP I q v p) : eP J q u p := by
  obtain ⟨a, b, c⟩ := e
  unfold eP
  rw [hI, a1, a2, a3]
  exact ⟨a, fun q => b (q.imp id hf), c⟩
/-! ===== pure part: the program's small steps ===== -/
theorem x_proj {G : rc_G} {s : Nat} {I : rc_M} {n : Int} {post : Option Nat → rc_M → Prop} (hn : n = 0 ∨ n = 1) (h : post (some (s + 4 + n.toNat)) I) : wX5_projectorNumbered G s n I post := by
  unfold wX5_projectorNumbered
  rcases hn with rfl | rfl
  · exact ⟨by unfold rc_R; omega, fun q => absurd rfl q, fun _ => h⟩
  · exact ⟨by unfold rc_R; omega, fun _ => h, fun q => absurd q (by omega)⟩
theorem k2_of {G : rc_G} {s : Nat} {n : Int} (k : kX5 G s) (hn : n = 0 ∨ n = 1) : kX2 G (s + 4 + n.toNat) := by
  rcases hn with rfl | rfl
  · exact k.2.2.1
  · exact k.2.2.2
theorem x_front {G : rc_G} {s : Nat} {I : rc_M} {f : Int} {post : Option Nat → rc_M → Prop} (k : kX5 G s) (hf : f = 0 ∨ f = 1) (e : I s 7 = f) (h : post (some (s + 4 + f.toNat)) I) : wX5_frontProjector G s I post := by
  unfold wX5_frontProjector
  rw [e]
  exact x_proj hf ⟨_, rfl, k2_of k hf, h⟩
theorem x_back {G : rc_G} {s : Nat} {I : rc_M} {f : Int} {post : Option Nat → rc_M → Prop} (k : kX5 G s) (hf : f = 0 ∨ f = 1) (e : I s 7 = f) (h : post (some (s + 4 + (1 - f).toNat)) I) : wX5_backProjector G s I post := by
  unfold wX5_backProjector
  rw [e]
  exact x_proj (by omega) ⟨_, rfl, k2_of k (by omega), h⟩
theorem x_setting {G : rc_G} {r : Nat} {I : rc_M} {v : rv} {n : Int} {post : Int → rc_M → Prop} (e : eR I r v) (hn : 0 ≤ n ∧ n < 8) (h : post (v (141 + n)) I) : wX6_settingNumbered G (r + 1) n I post := by
  unfold wX6_settingNumbered
  have a := e.2.2.1 n hn.1 hn.2
  refine ⟨by unfold rc_R; omega, fun q => absurd q (by omega), fun _ => ⟨by unfold rc_R; omega, fun q => absurd q (by omega), fun _ => ⟨hn, ?_⟩⟩⟩
  show post (I (r + 1 + 2) n) I
  rw [show r + 1 + 2 = r + 3 by omega, a]; exact h
theorem x_reelNumbered {G : rc_G} {r : Nat} {I : rc_M} {v : rv} {n : Int} {post : Option Nat → rc_M → Prop} (e : eR I r v) (s : wS v) (hn : rc_R n) (h : post (if 0 ≤ n ∧ n < v 0 then some (r + 5 + 3 * n.toNat) else none) I) : wX6_reelNumbered G (r + 1) n I post := by
  have s0 := s.1
  unfold wX6_reelNumbered
  rw [e.1]
  refine ⟨hn, fun q => ?_, fun q => ⟨hn, by unfold rc_R; omega, fun q2 => ?_, fun q2 => ⟨hn, fun q3 => absurd q3 (by omega), fun _ => ⟨by omega, ?_⟩⟩⟩⟩
  · rw [if_neg (by omega)] at h; exact h
  · rw [if_neg (by omega)] at h; exact h
  · rw [if_pos (by omega)] at h
    rw [show r + 1 + 1 + 3 + 3 * n.toNat = r + 5 + 3 * n.toNat by omega]; exact h
theorem x_numberAt {G : rc_G} {r : Nat} {I : rc_M} {v : rv} {n : Int} {post : Int → rc_M → Prop} (e : eR I r v) (s : wS v) (hn : rc_R n) (h : post (if 0 ≤ n ∧ n < v 149 then v (150 + n) else -100001) I) : wX6_numberAtPlace G (r + 1) n I post := by
  have s1 := s.2.1
  unfold wX6_numberAtPlace
  rw [e.2.1]
  refine ⟨hn, fun q => ?_, fun q => ⟨hn, by unfold rc_R; omega, fun q2 => ?_, fun q2 => ⟨hn, fun q3 => absurd q3 (by omega), fun _ => ⟨by omega, ?_⟩⟩⟩⟩
  · rw [if_neg (by omega)] at h; exact h
  · rw [if_neg (by omega)] at h; exact h
  · rw [if_pos (by omega)] at h
    have a := e.2.2.2.1 n (by omega) (by omega)
    show post (I (r + 1 + 3) n) I
    rw [show r + 1 + 3 = r + 4 by omega, a]; exact h
theorem x_reelAt {G : rc_G} {r : Nat} {I : rc_M} {v : rv} {n : Int} {post : Option Nat → rc_M → Prop} (e : eR I r v) (s : wS v) (hn : 0 ≤ n ∧ n < v 149) (h : post (some (r + 5 + 3 * (v (150 + n)).toNat)) I) : wX6_reelAtPlace G (r + 1) n I post := by
  have s1 := s.2.1
  have s0 := s.1
  have a := s.2.2.1 n hn.1 hn.2
  unfold wX6_reelAtPlace
  refine x_numberAt e s (by unfold rc_R; omega) ?_
  rw [if_pos hn]
  refine x_reelNumbered e s (by unfold rc_R; omega) ?_
  rw [if_pos a]; exact h
theorem k3_of {G : rc_G} {r : Nat} {n : Int} (k : kX6 G (r + 1)) (hn : 0 ≤ n ∧ n < 10) : kX3 G (r + 5 + 3 * n.toNat) := by
  have a := k.2.2.2.2 n.toNat (by omega)
  rw [show r + 1 + 1 + 3 + 3 * n.toNat = r + 5 + 3 * n.toNat by omega] at a; exact a
theorem x_spliceOf {G : rc_G} {q : Nat} {I : rc_M} {v : rv} {i fr : Int} {post : Int → rc_M → Prop} (e : eL I q v i) (w : wL v i) (hf : rc_R fr) (h : post (if 0 ≤ tK v i fr then tK v i fr else -100005) I) : wX3_spliceOfFrame G q fr I post := by
  obtain ⟨e1, e2, e3⟩ := e
  have w1 := w.1
  have w2 := w.2.1
  have L : ∀ (d : Nat) (x : Int), 0 ≤ x → v (2 + 14 * i) - x = d → (∀ j : Int, 0 ≤ j → j < x → v (3 + 14 * i + 2 * j) ≠ fr) → ∃ n, rX3_spliceOfFrame_2 G post q fr n x I := by
    intro d
    induction d with
    | zero =>
      intro x x0 hd hj
      refine ⟨1, ?_⟩
      show wX3_spliceOfFrame_2 G post q fr _ x I
      unfold wX3_spliceOfFrame_2
      rw [e2]
      have z : tK v i fr = -1 := tK_no (fun k k0 k1 => hj k k0 (by omega))
      rw [z, if_neg (by omega)] at h
      exact ⟨by unfold rc_R; omega, by unfold rc_R; omega, fun _ => h, fun q => absurd q (by omega)⟩
    | succ d ih =>
      intro x x0 hd hj
      have ex := e3 x x0 (by omega)
      have wx := w.2.2.1 x x0 (by omega)
      by_cases c : v (3 + 14 * i + 2 * x) = fr
      · refine ⟨1, ?_⟩
        show wX3_spliceOfFrame_2 G post q fr _ x I
        unfold wX3_spliceOfFrame_2
        rw [e2, ex.1]
        have z : tK v i fr = x := tK_eq w x0 (by omega) c
        rw [z, if_pos x0] at h
        exact ⟨by unfold rc_R; omega, by unfold rc_R; omega, fun q => absurd q (by omega), fun _ => ⟨by unfold rc_R; omega, fun q => absurd q (by omega), fun _ => ⟨by omega, by unfold rc_R; omega, hf, fun q => absurd c q, fun _ => h⟩⟩⟩
      · obtain ⟨n, hn⟩ := ih (x + 1) (by omega) (by omega) (fun j j0 j1 => by
          rcases Int.lt_or_eq_of_le (show j ≤ x by omega) with r | r
          · exact hj j j0 r
          · rw [r]; exact c)
        refine ⟨n + 1, ?_⟩
        show wX3_spliceOfFrame_2 G post q fr (rX3_spliceOfFrame_2 G post q fr n) x I
        unfold wX3_spliceOfFrame_2
        rw [e2, ex.1]
        exact ⟨by unfold rc_R; omega, by unfold rc_R; omega, fun q => absurd q (by omega), fun _ => ⟨by unfold rc_R; omega, fun q => absurd q (by omega), fun _ => ⟨by omega, by unfold rc_R; omega, hf, fun _ => hn, fun q => absurd q c⟩⟩⟩
  exact L (v (2 + 14 * i)).toNat 0 (by omega) (by omega) (fun j j0 j1 => absurd j1 (by omega))
theorem x_hasSplice {G : rc_G} {q : Nat} {I : rc_M} {v : rv} {i n : Int} {post : Int → rc_M → Prop} (e : eL I q v i) (w : wL v i) (hn : rc_R n) (h : post (if 0 ≤ n ∧ n < v (2 + 14 * i) then 1 else 0) I) : wX3_hasSplice G q n I post := by
  have w2 := w.2.1
  unfold wX3_hasSplice
  rw [e.2.1]
  refine ⟨hn, fun q => ?_, fun q => ⟨hn, by unfold rc_R; omega, fun q2 => ?_, fun q2 => ⟨hn, fun q3 => absurd q3 (by omega), fun _ => ?_⟩⟩⟩
  · rw [if_neg (by omega)] at h; exact h
  · rw [if_neg (by omega)] at h; exact h
  · rw [if_pos (by omega)] at h; exact h
theorem x_repairAt {G : rc_G} {q : Nat} {I : rc_M} {v : rv} {i fr : Int} {post : rc_M → Prop} (e : eL I q v i) (w : wL v i) (hf : rc_R fr) (h : post (if 0 ≤ tK v i fr then rc_s I (q + 2) (tK v i fr) 9 else I)) : wX3_repairAt G q fr I post := by
  have w2 := w.2.1
  unfold wX3_repairAt
  refine x_spliceOf e w hf ?_
  rcases tK_spec v i fr with ⟨a, b, _⟩ | ⟨a, _⟩
  · rw [if_pos a] at h ⊢
    refine x_hasSplice e w (by unfold rc_R; omega) ?_
    rw [if_pos ⟨a, b⟩]
    exact ⟨by unfold rc_R; omega, fun q => absurd q (by omega), fun _ => ⟨by omega, fun J ej => by subst ej; exact h⟩⟩
  · rw [a] at h ⊢
    rw [if_neg (by omega)] at h ⊢
    refine x_hasSplice e w (by unfold rc_R; omega) ?_
    rw [if_neg (by omega)]
    exact ⟨by unfold rc_R; omega, fun _ => h, fun q => absurd rfl q⟩
theorem x_breaksAt {G : rc_G} {q : Nat} {I : rc_M} {v : rv} {i fr : Int} {post : Int → rc_M → Prop} (e : eL I q v i) (w : wL v i) (hf : rc_R fr)
    (h0 : tK v i fr = -1 → post 0 I) (h1 : 0 ≤ tK v i fr → tK v i fr < v (2 + 14 * i) → v (4 + 14 * i + 2 * tK v i fr) ≤ 1 → post 1 (rc_s I (q + 2) (tK v i fr) 0))
    (h2 : 0 ≤ tK v i fr → tK v i fr < v (2 + 14 * i) → ¬ v (4 + 14 * i + 2 * tK v i fr) ≤ 1 → post 0 (rc_s I (q + 2) (tK v i fr) (v (4 + 14 * i + 2 * tK v i fr) - 1))) : wX3_breaksAt G q fr I post := by
  have w2 := w.2.1
  unfold wX3_breaksAt
  refine x_spliceOf e w hf ?_
  rcases tK_spec v i fr with ⟨a, b, _⟩ | ⟨a, _⟩
  · rw [if_pos a]
    refine x_hasSplice e w (by unfold rc_R; omega) ?_
    rw [if_pos ⟨a, b⟩]
    have ex := (e.2.2 _ a b).2
    have wx := (w.2.2.1 _ a b).2
    rw [ex]
    refine ⟨by unfold rc_R; omega, fun _ => ⟨by omega, by unfold rc_R; omega, by omega, fun J ej => ?_⟩, fun q => absurd q (by omega)⟩
    subst ej
    rw [qs_s, rc_u_s]
    by_cases c : v (4 + 14 * i + 2 * tK v i fr) ≤ 1
    · have m : max 0 (v (4 + 14 * i + 2 * tK v i fr) - 1) = 0 := by omega
      rw [m]
      exact ⟨by omega, by unfold rc_R; omega, fun q => absurd rfl q, fun _ => h1 a b c⟩
    · have m : max 0 (v (4 + 14 * i + 2 * tK v i fr) - 1) = v (4 + 14 * i + 2 * tK v i fr) - 1 := by omega
      rw [m]
      exact ⟨by omega, by unfold rc_R; omega, fun _ => h2 a b c, fun q => absurd q (by omega)⟩
  · rw [if_neg (by omega)]
    refine x_hasSplice e w (by unfold rc_R; omega) ?_
    rw [if_neg (by omega)]
    exact ⟨by unfold rc_R; omega, fun q => absurd rfl q, fun _ => h0 a⟩
