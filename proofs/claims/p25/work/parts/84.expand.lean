/-! ===== pure part: the program that a text tells, the program's way ===== -/
def rp (u : List Int) : Nat → List Int
  | 0 => []
  | k + 1 => u ++ rp u k
theorem rp_comm (u : List Int) (k : Nat) : rp u k ++ u = u ++ rp u k := by
  induction k with
  | zero => simp [rp]
  | succ k ih => rw [rp, List.append_assoc, ih]
theorem rp_len (u : List Int) (k : Nat) : (rp u k).length = u.length * k := by
  induction k with
  | zero => simp [rp]
  | succ k ih => rw [rp, List.length_append, ih, Nat.mul_succ]; omega
theorem gD_l (W u : List Int) {j : Nat} (h : j < W.length) : (W ++ u).getD j 0 = W.getD j 0 := by
  rw [List.getD_eq_getElem?_getD, List.getD_eq_getElem?_getD, List.getElem?_append_left h]
theorem gD_r (W u : List Int) {j : Nat} (h : W.length ≤ j) : (W ++ u).getD j 0 = u.getD (j - W.length) 0 := by
  rw [List.getD_eq_getElem?_getD, List.getD_eq_getElem?_getD, List.getElem?_append_right h]
def cE (I : rc_M) (a : Nat) (W : List Int) : Prop := ∀ j : Nat, j < W.length → I a (j : Int) = W.getD j 0
theorem cE_0 (I : rc_M) (a : Nat) : cE I a [] := fun j hj => absurd hj (by simp)
theorem cE_c {I J : rc_M} {a : Nat} {W : List Int} (h : J a = I a) (e : cE I a W) : cE J a W := fun j hj => by rw [h]; exact e j hj
theorem cE_1 {I : rc_M} {a : Nat} {W : List Int} {x : Int} (e : cE I a W) : cE (rc_s I a W.length x) a (W ++ [x]) := fun j hj => by
  rw [List.length_append, List.length_singleton] at hj
  rw [qs_s, rc_ue]
  by_cases c : j = W.length
  · rw [if_pos (by omega), gD_r _ _ (by omega), c, Nat.sub_self]; rfl
  · rw [if_neg (by omega), gD_l _ _ (by omega)]; exact e j (by omega)
/-- what a way over the letters from a to b, deeper than dep at most 3, adds to the list -/
def XX (T : Int → Int) (n dep a b : Int) (w : List Int) : Prop := ∀ (G : rc_G) (q : Nat) (post : Int → rc_M → Prop) (op gs : Int) (W : List Int) (I : rc_M), (0 ≤ op ∧ op ≤ dep) → I q 2 = n → (∀ k : Int, 0 ≤ k → k < n → I (q + 2) k = T k) → W.length ≤ 12 → cE I (q + 1) W →
  (12 < W.length + w.length → ∀ J : rc_M, (∀ x : Nat, x ≠ q + 1 → x ≠ q + 3 → J x = I x) → post (-100004) J) →
  (W.length + w.length ≤ 12 → ∀ (J : rc_M) (gs2 : Int), (∀ x : Nat, x ≠ q + 1 → x ≠ q + 3 → J x = I x) → (∀ j : Int, 0 ≤ j → j < op → J (q + 3) j = I (q + 3) j) → cE J (q + 1) (W ++ w) → ∃ nn, rX1_expand_12 G post q nn ((W ++ w).length : Int) op gs2 0 b J) →
  ∃ nn, rX1_expand_12 G post q nn (W.length : Int) op gs 0 a I
theorem XX_0 (T : Int → Int) (n dep a : Int) : XX T n dep a a [] := by
  intro G q post op gs W I hop h2 hL hW hc hf hg
  have g := hg (by simpa using hW) I gs (fun _ _ _ => rfl) (fun _ _ _ => rfl) (by rw [List.append_nil]; exact hc)
  rw [List.append_nil] at g
  exact g
theorem XX_app {T : Int → Int} {n dep a b c : Int} {u w : List Int} (h1 : XX T n dep a b u) (h2 : XX T n dep b c w) : XX T n dep a c (u ++ w) := by
  intro G q post op gs W I hop hn hL hW hc hf hg
  refine h1 G q post op gs W I hop hn hL hW hc (fun y J j1 => hf (by rw [List.length_append]; omega) J j1) (fun y J gs2 j1 j2 j3 => ?_)
  have h2n : J q 2 = n := by rw [j1 q (by omega) (by omega)]; exact hn
  refine h2 G q post op gs2 (W ++ u) J hop h2n (fun k k0 k1 => by rw [j1 _ (by omega) (by omega)]; exact hL k k0 k1) (by rw [List.length_append]; exact y) j3 (fun z K k1 => hf (by rw [List.length_append] at z ⊢; omega) K (fun x x1 x2 => (k1 x x1 x2).trans (j1 x x1 x2))) (fun z K gs3 k1 k2 k3 => ?_)
  rw [List.append_assoc] at k3 ⊢
  exact hg (by rw [List.length_append] at z ⊢; omega) K gs3 (fun x x1 x2 => (k1 x x1 x2).trans (j1 x x1 x2)) (fun j j0 j1' => (k2 j j0 j1').trans (j2 j j0 j1')) k3
theorem x_full {G : rc_G} {q : Nat} {post : Int → rc_M → Prop} {I : rc_M} {n op gs it i : Int} (h2 : I q 2 = n) (hn : 0 ≤ n ∧ n ≤ 60) (hi : 0 ≤ i ∧ i ≤ 100) (h : post (-100004) I) : rX1_expand_12 G post q 1 (-100004) op gs it i I := by
  show wX1_expand_12 G post q (rX1_expand_12 G post q 0) (-100004) op gs it i I
  unfold wX1_expand_12
  rw [h2]
  exact ⟨by unfold rc_R; omega, by unfold rc_R; omega, fun _ => h, fun _ => ⟨by unfold rc_R; omega, fun _ => h, fun _ => ⟨by unfold rc_R; omega, fun _ => h, fun y => absurd rfl y⟩⟩⟩
/-- a turn over a letter -/
theorem x_turn {G : rc_G} {q nn : Nat} {post : Int → rc_M → Prop} {I : rc_M} {n cnt op gs it i c : Int} (h2 : I q 2 = n) (hn : 0 ≤ n ∧ n ≤ 60) (hi : 0 ≤ i ∧ i < n) (hc : I (q + 2) i = c) (c0 : 0 ≤ c ∧ c ≤ 127) (hcnt : 0 ≤ cnt ∧ cnt ≤ 12) (hop : 0 ≤ op ∧ op ≤ 3) (hit : it = 0 ∨ it = 1)
    (h40 : c = 40 → op < 3 ∧ rX1_expand_12 G post q nn cnt (op + 1) gs it (i + 1) (rc_s I (q + 3) op cnt)) (h41 : c = 41 → 0 < op ∧ rX1_expand_12 G post q nn cnt (op + -1) (I (q + 3) (op + -1)) it (i + 1) I) (h120 : c = 120 → rX1_expand_12 G post q nn cnt op gs 1 (i + 1) I)
    (hd : c ≠ 40 → c ≠ 41 → c ≠ 120 → it = 0 → wX1_addReel G q (c - 48) cnt I (fun r J => rX1_expand_12 G post q nn r op gs it (i + 1) J)) (hr : c ≠ 40 → c ≠ 41 → c ≠ 120 → it = 1 → wX1_repeatGroup G q gs cnt (c - 48) I (fun r J => rX1_expand_12 G post q nn r op gs 0 (i + 1) J)) : rX1_expand_12 G post q (nn + 1) cnt op gs it i I := by
  show wX1_expand_12 G post q (rX1_expand_12 G post q nn) cnt op gs it i I
  unfold wX1_expand_12 wX1_expand_139
  rw [h2, hc]
  refine ⟨by unfold rc_R; omega, by unfold rc_R; omega, fun y => absurd y (by omega), fun _ => ⟨by unfold rc_R; omega, fun y => absurd y (by omega), fun _ => ⟨by unfold rc_R; omega, fun y => absurd y (by omega), fun _ => ⟨by omega, by unfold rc_R; omega, fun a => ⟨by unfold rc_R; omega, fun b => ⟨by unfold rc_R; omega, fun d => ⟨by unfold rc_R; omega, fun e => hd a b d e, fun e => hr a b d (by omega)⟩, fun d => h120 d⟩, fun b => ⟨by unfold rc_R; omega, fun e => absurd (h41 b).1 (by omega), fun e => ⟨by omega, (h41 b).2⟩⟩⟩, fun a => ⟨by unfold rc_R; omega, fun e => absurd (h40 a).1 (by omega), fun e => ⟨by omega, fun I27 e27 => by rw [e27]; exact (h40 a).2⟩⟩⟩⟩⟩⟩
theorem x_addReel {G : rc_G} {q : Nat} {post : Int → rc_M → Prop} {I : rc_M} {x cnt : Int} (h : 0 ≤ cnt ∧ cnt ≤ 12) (h1 : cnt < 12 → post (cnt + 1) (rc_s I (q + 1) cnt x)) (h2 : cnt = 12 → post (-100004) I) : wX1_addReel G q x cnt I post := by
  unfold wX1_addReel
  exact ⟨by unfold rc_R; omega, fun y => absurd y (by omega), fun _ => ⟨by unfold rc_R; omega, fun y => ⟨by omega, fun I6 e6 => by rw [e6]; exact h1 y⟩, fun y => h2 (by omega)⟩⟩
theorem XX_dig {T : Int → Int} {n rc dep i : Int} (hT : fT T n rc) (hdep : dep ≤ 3) (hi : 0 ≤ i ∧ i < n) (c : 48 ≤ T i ∧ T i ≤ 57) : XX T n dep i (i + 1) [T i - 48] := by
  intro G q post op gs W I hop h2 hL hW hc hf hg
  have n0 := hT.1
  by_cases w : W.length < 12
  · obtain ⟨nn, hn⟩ := hg (by simp; omega) (rc_s I (q + 1) W.length (T i - 48)) gs (fun x x1 _ => qs_n _ _ _ x1) (fun j _ _ => by rw [qs_n _ _ _ (by omega)]) (cE_1 hc)
    rw [List.length_append, List.length_singleton, Int.natCast_add] at hn
    refine ⟨nn + 1, x_turn h2 n0 hi (hL i hi.1 hi.2) (by omega) (by omega) (by omega) (Or.inl rfl) (fun y => absurd y (by omega)) (fun y => absurd y (by omega)) (fun y => absurd y (by omega)) (fun _ _ _ _ => x_addReel (by omega) (fun _ => hn) (fun y => absurd y (by omega))) (fun _ _ _ y => absurd y (by decide))⟩
  · have F := hf (by simp; omega) I (fun _ _ _ => rfl)
    exact ⟨2, x_turn h2 n0 hi (hL i hi.1 hi.2) (by omega) (by omega) (by omega) (Or.inl rfl) (fun y => absurd y (by omega)) (fun y => absurd y (by omega)) (fun y => absurd y (by omega)) (fun _ _ _ _ => x_addReel (by omega) (fun y => absurd y (by omega)) (fun _ => x_full h2 n0 (by omega) F)) (fun _ _ _ y => absurd y (by decide))⟩
/-- a group that is read once more and more: each reel stands again behind it -/
theorem rp_per (W u : List Int) (k j : Nat) (h : W.length ≤ j) (h2 : j < W.length + u.length * k) : (W ++ (u ++ rp u k)).getD (j + u.length) 0 = (W ++ (u ++ rp u k)).getD j 0 := by
  have e : (W ++ (u ++ rp u k)).getD j 0 = (rp u k).getD (j - W.length) 0 := by
    rw [gD_r _ _ h, ← rp_comm, gD_l _ _ (by rw [rp_len]; omega)]
  rw [e, gD_r _ _ (by omega), gD_r _ _ (by omega)]
  congr 1
  omega
def rJ (I : rc_M) (a : Nat) (lo c : Int) (F : List Int) : rc_M := rc_w I a (fun j => if lo ≤ j ∧ j < c then F.getD j.toNat 0 else I a j)
theorem rJ_0 (I : rc_M) (a : Nat) (lo : Int) (F : List Int) : rJ I a lo lo F = I := by
  unfold rJ
  refine qw_i ?_
  funext j
  rw [if_neg (by omega)]
theorem rJ_n (I : rc_M) {a b : Nat} (lo c : Int) (F : List Int) (h : b ≠ a) : rJ I a lo c F b = I b := by unfold rJ; rw [rc_w_n _ _ h]
theorem rJ_i (I : rc_M) (a : Nat) (lo c : Int) (F : List Int) (j : Int) : rJ I a lo c F a j = if lo ≤ j ∧ j < c then F.getD j.toNat 0 else I a j := by unfold rJ; rw [rc_w_s]
theorem rJ_s (I : rc_M) (a : Nat) {lo c x : Int} (F : List Int) (h : lo ≤ c) (hx : F.getD c.toNat 0 = x) : rc_s (rJ I a lo c F) a c x = rJ I a lo (c + 1) F := by
  funext b
  by_cases e : b = a
  · funext j
    rw [e, qs_s, rc_ue, rJ_i, rJ_i]
    by_cases d : j = c
    · rw [if_pos d, if_pos (by omega), d, hx]
    · rw [if_neg d]
      by_cases f : lo ≤ j ∧ j < c
      · rw [if_pos f, if_pos (by omega)]
      · rw [if_neg f, if_neg (by omega)]
  · rw [qs_n _ _ _ e, rJ_n _ _ _ _ e, rJ_n _ _ _ _ e]
theorem rJ_c {I : rc_M} {a : Nat} {W u : List Int} (hc : cE I a W) : cE (rJ I a (W.length : Int) ((W ++ u).length : Int) (W ++ u)) a (W ++ u) := fun j hj => by
  rw [rJ_i]
  by_cases d : j < W.length
  · rw [if_neg (by omega), gD_l _ _ d]; exact hc j d
  · rw [if_pos (by omega), show ((j : Int)).toNat = j by omega]
theorem x_repeat {G : rc_G} {q : Nat} {post : Int → rc_M → Prop} {I : rc_M} {W u : List Int} {k : Nat} (hu : 0 < u.length) (hW : W.length + u.length ≤ 12) (hk : k ≤ 10) (hc : cE I (q + 1) (W ++ u))
    (hg : (W ++ (u ++ rp u k)).length ≤ 12 → post ((W ++ (u ++ rp u k)).length : Int) (rJ I (q + 1) ((W ++ u).length : Int) ((W ++ (u ++ rp u k)).length : Int) (W ++ (u ++ rp u k)))) (hf : 12 < (W ++ (u ++ rp u k)).length → ∀ J : rc_M, (∀ x : Nat, x ≠ q + 1 → J x = I x) → post (-100004) J) :
    wX1_repeatGroup G q (W.length : Int) ((W ++ u).length : Int) ((k : Int) + 1) I post := by
  unfold wX1_repeatGroup
  have eN : (W ++ (u ++ rp u k)).length = W.length + u.length * k + u.length := by rw [List.length_append, List.length_append, rp_len]; omega
  have eM : (W.length : Int) + (((W ++ u).length : Int) - (W.length : Int)) * ((k : Int) + 1 - 1) = ((W.length + u.length * k : Nat) : Int) := by
    rw [List.length_append, show ((W.length + u.length : Nat) : Int) - (W.length : Int) = (u.length : Int) by omega, show (k : Int) + 1 - 1 = (k : Int) by omega, Int.natCast_add, Int.natCast_mul]
  have l0 : ((W ++ u).length : Int) = (W.length : Int) + u.length := by rw [List.length_append, Int.natCast_add]
  rw [eM, show max (0 : Int) (W.length : Int) = (W.length : Int) by omega]
  refine ⟨by unfold rc_R; omega, ?_⟩
  have hb : u.length * k ≤ 12 * 10 := Nat.mul_le_mul (by omega) hk
  have hp : ∀ j : Nat, j < W.length + u.length → I (q + 1) (j : Int) = (W ++ (u ++ rp u k)).getD j 0 := fun j hj => by
    rw [← List.append_assoc, gD_l _ _ (by rw [List.length_append]; exact hj)]
    exact hc j (by rw [List.length_append]; exact hj)
  have per : ∀ j : Nat, W.length ≤ j → j < W.length + u.length * k → (W ++ (u ++ rp u k)).getD (j + u.length) 0 = (W ++ (u ++ rp u k)).getD j 0 := fun j j0 j1 => rp_per W u k j j0 j1
  have hM : W.length ≤ W.length + u.length * k ∧ W.length + u.length * k ≤ 140 := by omega
  generalize W ++ (u ++ rp u k) = F at *
  generalize W.length + u.length * k = M at *
  have L : ∀ (d i : Nat), M - i = d → i ≤ M → W.length ≤ i → i + u.length ≤ 12 → ∃ nn, rX1_repeatGroup_21 G post q (W.length : Int) ((W ++ u).length : Int) ((k : Int) + 1) nn ((i : Int) + u.length) (M : Int) (i : Int) (rJ I (q + 1) ((W ++ u).length : Int) ((i : Int) + u.length) F) := by
    intro d
    induction d with
    | zero =>
      intro i hd hi h0 h1
      refine ⟨1, ?_⟩
      show wX1_repeatGroup_21 G post q (W.length : Int) ((W ++ u).length : Int) ((k : Int) + 1) (rX1_repeatGroup_21 G post q (W.length : Int) ((W ++ u).length : Int) ((k : Int) + 1) 0) ((i : Int) + u.length) (M : Int) (i : Int) _
      unfold wX1_repeatGroup_21
      have g := hg (by omega)
      rw [show ((F.length : Nat) : Int) = (i : Int) + u.length by omega] at g
      exact ⟨by unfold rc_R; omega, by unfold rc_R; omega, fun _ => g, fun y => absurd y (by omega)⟩
    | succ d ih =>
      intro i hd hi h0 h1
      have fi : rJ I (q + 1) ((W ++ u).length : Int) ((i : Int) + u.length) F (q + 1) (i : Int) = F.getD i 0 := by
        rw [rJ_i]
        by_cases z : ((W ++ u).length : Int) ≤ (i : Int) ∧ (i : Int) < (i : Int) + u.length
        · rw [if_pos z, show ((i : Int)).toNat = i by omega]
        · rw [if_neg z]; exact hp i (by omega)
      by_cases c : i + u.length < 12
      · obtain ⟨nn, hn⟩ := ih (i + 1) (by omega) (by omega) (by omega) (by omega)
        rw [show ((i + 1 : Nat) : Int) + (u.length : Int) = (i : Int) + u.length + 1 by omega, show ((i + 1 : Nat) : Int) = (i : Int) + 1 by omega, ← rJ_s I (q + 1) (x := F.getD i 0) F (by omega) (by rw [show ((i : Int) + u.length).toNat = i + u.length by omega]; exact per i h0 (by omega))] at hn
        refine ⟨nn + 1, ?_⟩
        show wX1_repeatGroup_21 G post q (W.length : Int) ((W ++ u).length : Int) ((k : Int) + 1) (rX1_repeatGroup_21 G post q (W.length : Int) ((W ++ u).length : Int) ((k : Int) + 1) nn) ((i : Int) + u.length) (M : Int) (i : Int) _
        unfold wX1_repeatGroup_21
        rw [fi]
        exact ⟨by unfold rc_R; omega, by unfold rc_R; omega, fun y => absurd y (by omega), fun _ => ⟨by unfold rc_R; omega, fun y => absurd y (by omega), fun _ => ⟨by unfold rc_R; omega, fun y => absurd y (by omega), fun _ => ⟨by omega, x_addReel (by omega) (fun _ => hn) (fun y => absurd y (by omega))⟩⟩⟩⟩
      · have g := hf (by omega) (rJ I (q + 1) ((W ++ u).length : Int) ((i : Int) + u.length) F) (fun x hx => rJ_n _ _ _ _ hx)
        generalize rJ I (q + 1) ((W ++ u).length : Int) ((i : Int) + u.length) F = J at *
        have S : ∀ y : Int, rc_R y → rX1_repeatGroup_21 G post q (W.length : Int) ((W ++ u).length : Int) ((k : Int) + 1) 1 (-100004) (M : Int) y J := by
          intro y hy
          show wX1_repeatGroup_21 G post q (W.length : Int) ((W ++ u).length : Int) ((k : Int) + 1) (rX1_repeatGroup_21 G post q (W.length : Int) ((W ++ u).length : Int) ((k : Int) + 1) 0) (-100004) (M : Int) y J
          unfold wX1_repeatGroup_21
          exact ⟨hy, by unfold rc_R; omega, fun _ => g, fun _ => ⟨hy, fun _ => g, fun _ => ⟨by unfold rc_R; omega, fun _ => g, fun y => absurd rfl y⟩⟩⟩
        refine ⟨1 + 1, ?_⟩
        show wX1_repeatGroup_21 G post q (W.length : Int) ((W ++ u).length : Int) ((k : Int) + 1) (rX1_repeatGroup_21 G post q (W.length : Int) ((W ++ u).length : Int) ((k : Int) + 1) 1) ((i : Int) + u.length) (M : Int) (i : Int) J
        unfold wX1_repeatGroup_21
        exact ⟨by unfold rc_R; omega, by unfold rc_R; omega, fun y => absurd y (by omega), fun _ => ⟨by unfold rc_R; omega, fun y => absurd y (by omega), fun _ => ⟨by unfold rc_R; omega, fun y => absurd y (by omega), fun _ => ⟨by omega, x_addReel (by omega) (fun y => absurd y (by omega)) (fun _ => S _ (by unfold rc_R; omega))⟩⟩⟩⟩
  have := L (M - W.length) W.length rfl (by omega) (Nat.le_refl _) hW
  rw [← l0, rJ_0] at this
  exact this
