/-! ===== pure part: setProgram ===== -/
def tPq (v : rv) (w : List Int) (c : Int) : rv := fun j => if 150 ≤ j ∧ j < 150 + c then w.getD (j - 150).toNat 0 else v j
theorem tPq_0 (v : rv) (w : List Int) : tPq v w 0 = v := by
  funext j; unfold tPq; rw [if_neg (by omega)]
theorem tPq_s (v : rv) (w : List Int) {c x : Int} (h : 0 ≤ c) (hx : w.getD c.toNat 0 = x) : rc_u (tPq v w c) (150 + c) x = tPq v w (c + 1) := by
  funext j
  rw [rc_ue]
  unfold tPq
  by_cases d : j = 150 + c
  · rw [if_pos d, if_pos (by omega), d, show 150 + c - 150 = c by omega, hx]
  · rw [if_neg d]
    by_cases e : 150 ≤ j ∧ j < 150 + c
    · rw [if_pos e, if_pos (by omega)]
    · rw [if_neg e, if_neg (by omega)]
def tPr (v : rv) (w : List Int) : rv := rc_u (tPq v w (w.length : Int)) 149 (w.length : Int)
theorem tPr_149 (v : rv) (w : List Int) : tPr v w 149 = (w.length : Int) := rc_u_s _ _ _
theorem tPr_o (v : rv) (w : List Int) (hw : w.length ≤ 12) (j : Int) (h : j < 149 ∨ 162 ≤ j) : tPr v w j = v j := by
  unfold tPr tPq
  rw [rc_u_n _ _ (by omega), if_neg (by omega)]
theorem tPr_p (v : rv) (w : List Int) (k : Int) (h : 0 ≤ k ∧ k < (w.length : Int)) : tPr v w (150 + k) = w.getD k.toNat 0 := by
  unfold tPr tPq
  rw [rc_u_n _ _ (by omega), if_pos (by omega), show 150 + k - 150 = k by omega]
theorem tV_prog {v : rv} {w : List Int} (V : tV v) (hw : w.length ≤ 12) (g : gW (v 0) w) (nr : ¬ (v 162 = 1 ∧ v 163 = 0)) : tV (tPr v w) := by
  have uo := tPr_o v w hw
  have u9 := tPr_149 v w
  have up := tPr_p v w
  generalize tPr v w = u at *
  obtain ⟨⟨sa, sb, sc, sd, sf⟩, hh, K⟩ := V
  refine ⟨⟨by rw [uo 0 (by omega)]; exact sa, by rw [u9]; omega, fun k k0 k1 => ?_, ?_, fun i i0 i1 => ?_⟩, wH_c2 (fun j j0 _ => uo j (by omega)) hh, fun a b => absurd ⟨(uo 162 (by omega)).symm.trans a, (uo 163 (by omega)).symm.trans b⟩ nr⟩
  · rw [u9] at k1
    rw [up k ⟨k0, k1⟩, uo 0 (by omega)]; exact g k.toNat (by omega)
  · rw [uo 141 (by omega), uo 142 (by omega), uo 143 (by omega), uo 144 (by omega), uo 145 (by omega), uo 146 (by omega), uo 147 (by omega), uo 148 (by omega)]; exact sd
  · rw [uo 0 (by omega)] at i1
    exact wL_lo (by omega) (fun j j0 j1 => uo j (by omega)) (sf i i0 i1)
theorem eA_prog {I J : rc_M} {r : Nat} {v : rv} {w : List Int} (s : wS v) (n6 : v 174 ≤ 6) (hw : w.length ≤ 12) (Jo : ∀ a : Nat, a ≠ r + 1 → a ≠ r + 4 → r ≤ a → a ≤ r + 40 → J a = I a) (J0 : J (r + 1) 0 = I (r + 1) 0) (J1 : J (r + 1) 1 = (w.length : Int)) (J4 : ∀ k : Int, 0 ≤ k → k < (w.length : Int) → J (r + 4) k = w.getD k.toNat 0) (E : eA I r v) : eA J r (tPr v w) := by
  have uo := tPr_o v w hw
  have u9 := tPr_149 v w
  have up := tPr_p v w
  have s0 := s.1
  have sL := s.2.2.2.2
  clear s
  generalize tPr v w = u at *
  obtain ⟨⟨R0, R1, R2, R3, R4⟩, C, O, P⟩ := E
  refine ⟨⟨by rw [J0, uo 0 (by omega)]; exact R0, by rw [J1, u9], fun k k0 k1 => by rw [Jo _ (by omega) (by omega) (by omega) (by omega), uo _ (by omega)]; exact R2 k k0 k1, fun k k0 k1 => ?_, fun i i0 i1 => ?_⟩, eC_c (Jo _ (by omega) (by omega) (by omega) (by omega)) (fun j j0 j1 => uo j (by omega)) C, eO_c ⟨Jo _ (by omega) (by omega) (by omega) (by omega), Jo _ (by omega) (by omega) (by omega) (by omega), Jo _ (by omega) (by omega) (by omega) (by omega)⟩ (uo _ (by omega)) (uo _ (by omega)) (uo _ (by omega)) (fun k k0 k1 => uo _ (by omega)) O, fun p hp => eP_c (Jo _ (by omega) (by omega) (by omega) (by omega)) (uo _ (by omega)) (uo _ (by omega)) (uo _ (by omega)) (fun q => by rw [uo 162 (by omega), uo 163 (by omega), uo 165 (by omega)] at q; exact q) (P p hp)⟩
  · rw [u9] at k1
    rw [J4 k k0 k1, up k ⟨k0, k1⟩]
  · rw [uo 0 (by omega)] at i1
    have wl := sL i i0 i1
    have f4 := R4 i i0 i1
    clear R2 R3 R4 C O P sL J4 up
    exact eL_c (by omega) wl ⟨Jo _ (by omega) (by omega) (by omega) (by omega), Jo _ (by omega) (by omega) (by omega) (by omega), Jo _ (by omega) (by omega) (by omega) (by omega)⟩ (fun j j0 j1 => uo j (by omega)) f4
theorem tI_all {G : rc_G} {x : Nat} {I J : rc_M} (t : tI G x I) (E : eA J (x + 1) (J (x + 89))) (V : tV (J (x + 89))) (T : tT J x) (h : ∀ a : Nat, (a = x + 83 ∨ (x + 91 ≤ a ∧ a ≤ x + 94) ∨ x + 101 ≤ a) → J a = I a) : tI G x J := by
  obtain ⟨t0, t1, t2, _, _, t5, t6, t7⟩ := t
  refine ⟨t0, t1, t2, E, V, T, fun j j0 j1 => ?_, tZ_c (h _ (by omega)) (h _ (by omega)) (h _ (by omega)) (fun a ha => h a (by omega)) t7⟩
  rw [h _ (by omega), h _ (by omega)]; exact t6 j j0 j1
theorem xq_end {G : rc_G} {q : Nat} {post : Int → rc_M → Prop} {I : rc_M} {n cnt op gs it : Int} (h2 : I q 2 = n) (hn : 0 ≤ n ∧ n ≤ 60) (h : post cnt I) : rX1_expand_12 G post q 1 cnt op gs it n I := by
  show wX1_expand_12 G post q (rX1_expand_12 G post q 0) cnt op gs it n I
  unfold wX1_expand_12
  rw [h2]
  exact ⟨by unfold rc_R; omega, by unfold rc_R; omega, fun _ => h, fun y => absurd (Int.le_refl n) y⟩
theorem t_end {G : rc_G} {m : Nat} {post : Int → rc_M → Prop} {I : rc_M} {n cnt : Int} (h9 : I m 9 = n) (h8 : I m 8 = n) (hn : 0 ≤ n ∧ n ≤ 60) (h : post cnt I) : rX8_tells_12 G post m 1 cnt I := by
  show wX8_tells_12 G post m (rX8_tells_12 G post m 0) cnt I
  unfold wX8_tells_12
  rw [h9, h8]
  exact ⟨by unfold rc_R; omega, by unfold rc_R; omega, fun _ => h, fun y => absurd (Int.le_refl n) y⟩
theorem m_setP {G : rc_G} {m : Nat} {post : Int → rc_M → Prop} {K : rc_M} {v : rv} {w : List Int} (hw : w.length ≤ 12) (hv : K (m + 1) = v) (hc : cE K (m + 12) w) (h : post (w.length : Int) (rc_w K (m + 1) (tPr v w))) : ∃ n, rX8_setProgram_33 G post m n (w.length : Int) 0 K := by
  have L : ∀ (d : Nat) (c : Int), (w.length : Int) - c = d → 0 ≤ c → ∃ n, rX8_setProgram_33 G post m n (w.length : Int) c (rc_w K (m + 1) (tPq v w c)) := by
    intro d
    induction d with
    | zero =>
      intro c hd h0
      refine ⟨1, ?_⟩
      show wX8_setProgram_33 G post m (rX8_setProgram_33 G post m 0) (w.length : Int) c (rc_w K (m + 1) (tPq v w c))
      unfold wX8_setProgram_33
      refine ⟨by unfold rc_R; omega, by unfold rc_R; omega, fun _ I16 e16 => ?_, fun y => absurd (by omega) y⟩
      rw [pS, show c = (w.length : Int) by omega] at e16
      rw [e16]; exact h
    | succ d ih =>
      intro c hd h0
      obtain ⟨nn, hn⟩ := ih (c + 1) (by omega) (by omega)
      refine ⟨nn + 1, ?_⟩
      show wX8_setProgram_33 G post m (rX8_setProgram_33 G post m nn) (w.length : Int) c (rc_w K (m + 1) (tPq v w c))
      unfold wX8_setProgram_33
      refine ⟨by unfold rc_R; omega, by unfold rc_R; omega, fun y => absurd y (by omega), fun _ => ⟨by omega, by omega, fun I19 e19 => ?_⟩⟩
      have ec := hc c.toNat (by omega)
      rw [show ((c.toNat : Nat) : Int) = c by omega] at ec
      rw [rc_w_n _ _ (show m + 12 ≠ m + 1 by omega), ec, pS, tPq_s v w h0 rfl] at e19
      rw [e19]; exact hn
  obtain ⟨nn, hn⟩ := L w.length 0 (by omega) (by omega)
  rw [tPq_0, qw_i hv] at hn
  exact ⟨nn, hn⟩
theorem op_setProgram {G : rc_G} {x : Nat} {I : rc_M} {k : rc_M → Prop} (t : tI G x I) (hk : ∀ J : rc_M, tI G x J → k J) : wX7_setProgram G x I (fun r1 I1 => wX8_setProgram G (x + 88) I1 (fun r2 I2 => r1 = r2 ∧ k I2)) := by
  obtain ⟨pos, dp, A, X, M⟩ := op_text t
  obtain ⟨t0, t1, t2, E, V, ⟨T1, T2, T3⟩, t6, t7⟩ := id t
  obtain ⟨v, ev⟩ : ∃ v, v = I (x + 89) := ⟨_, rfl⟩
  obtain ⟨n, en⟩ : ∃ n, n = I (x + 88) 8 := ⟨_, rfl⟩
  rw [← ev] at E V A
  rw [← en] at T1 T2 T3 A X M
  have s0 := V.1.1
  have n6 := V.2.1.2.2.2.2.2.2.1.2
  have c0 := E.2.1.1
  have hT : fT (I (x + 96)) n (v 0) := ⟨T2, s0, fun k k0 k1 => (T3 k k0 k1).2⟩
  -- the world when only the text's own rows have changed
  have TK : ∀ K : rc_M, (∀ a : Nat, (a < x + 84 ∨ x + 88 < a) → a ≠ x + 97 → a ≠ x + 98 → a ≠ x + 99 → a ≠ x + 100 → K a = I a) → K (x + 86) = I (x + 86) → K (x + 84) 2 = n → K (x + 88) 8 = n → k K := fun K a b c d => hk K (tI_fault t a b (by rw [← en]; exact c) (by rw [← en]; exact d))
  unfold wX7_setProgram wX7_faultPosition
  refine X _ (fun J j1 j2 j3 => ⟨by unfold rc_R; omega, fun c => ?_, fun c => ?_⟩)
  · unfold wX8_setProgram
    refine M J _ (fun a ha => j1 a (by omega)) (fun K k1 k2 k3 k4 => ?_)
    rw [if_neg c]
    exact ⟨rc_R0, fun _ => ⟨rfl, TK K (fun a a1 a2 _ _ _ => (k1 a (by omega) a2).trans (j1 a (by omega))) ((k1 _ (by omega) (by omega)).trans (j1 _ (by omega))) (by rw [k1 _ (by omega) (by omega)]; exact j2) k2⟩, fun y => absurd rfl y⟩
  · rw [j1 _ (by omega), c0]
    by_cases z : v 162 = 1 ∧ v 163 = 0
    · rw [if_pos z]
      refine ⟨by unfold rc_R; omega, fun y => absurd y (by decide), fun _ => ?_⟩
      unfold wX8_setProgram
      refine M J _ (fun a ha => j1 a (by omega)) (fun K k1 k2 k3 k4 => ?_)
      rw [if_pos c]
      have kv : K (x + 88 + 1) = v := by rw [k1 _ (by omega) (by omega), j1 _ (by omega)]; exact ev.symm
      refine ⟨by unfold rc_R; omega, fun y => absurd y (by decide), fun _ => ?_⟩
      rw [← qw_i kv]
      refine m_running V.2.1 ?_
      rw [if_pos z, qw_i kv]
      exact ⟨by unfold rc_R; omega, fun y => absurd y (by decide), fun _ => ⟨rfl, TK K (fun a a1 a2 _ _ _ => (k1 a (by omega) a2).trans (j1 a (by omega))) ((k1 _ (by omega) (by omega)).trans (j1 _ (by omega))) (by rw [k1 _ (by omega) (by omega)]; exact j2) k2⟩⟩
    · rw [if_neg z]
      refine ⟨rc_R0, fun _ => ?_, fun y => absurd rfl y⟩
      have fa : fA (I (x + 96)) (v 0) (n - 0).toNat 0 0 0 := by
        rcases A with A | A
        · rw [show (n - 0).toNat = n.toNat by omega]; exact A.2
        · omega
      obtain ⟨w, gw, xw, mw⟩ := (text_seg hT n.toNat 0 0 0 (by omega) (by omega) (by omega) (by omega) (Or.inl rfl) (fun y => absurd y (by decide)) fa).1 rfl
      -- the reference: from the text that is whole to the place behind tells
      have R : ∀ (P : rc_M) (post : Int → rc_M → Prop), (∀ a : Nat, x + 88 ≤ a → P a = I a) → (12 < w.length → ∀ K : rc_M, (∀ a : Nat, a ≠ x + 88 → a ≠ x + 97 → a ≠ x + 98 → a ≠ x + 99 → a ≠ x + 100 → K a = P a) → K (x + 88) 8 = n → post (-100004) K) → (w.length ≤ 12 → ∀ K : rc_M, (∀ a : Nat, a ≠ x + 88 → a ≠ x + 97 → a ≠ x + 98 → a ≠ x + 99 → a ≠ x + 100 → K a = P a) → K (x + 88) 8 = n → post (w.length : Int) (rc_w K (x + 88 + 1) (tPr v w))) → wX8_setProgram G (x + 88) P post := by
        intro P post hP h1 h2
        unfold wX8_setProgram
        refine M P _ hP (fun K k1 k2 k3 k4 => ?_)
        rw [if_pos c]
        have kv : K (x + 88 + 1) = v := by rw [k1 _ (by omega) (by omega), hP _ (by omega)]; exact ev.symm
        refine ⟨by unfold rc_R; omega, fun y => absurd y (by decide), fun _ => ?_⟩
        rw [← qw_i kv]
        refine m_running V.2.1 ?_
        rw [if_neg z, qw_i kv]
        refine ⟨rc_R0, fun _ => ?_, fun y => absurd rfl y⟩
        unfold wX8_tells
        intro I1 e1 I2 e2
        rw [e1] at e2
        have f2 : ∀ a : Nat, a ≠ x + 88 → I2 a = K a := fun a ha => by rw [e2, qs_n _ _ _ ha, qs_n _ _ _ ha]
        refine mw G (x + 88) _ 0 [] I2 (by omega) (by rw [e2, qs_s, rc_u_s]) (by rw [e2, qs_s, rc_u_n _ _ (by decide), qs_s, rc_u_s]) (by rw [e2, qs_s, rc_u_n _ _ (by decide), qs_s, rc_u_n _ _ (by decide)]; exact k2) (fun k k0 k1' => by rw [f2 _ (by omega), k1 _ (by omega) (by omega), hP _ (by omega)]) (by simp) (cE_0 _ _) (fun y J' q1 q8 => ?_) (fun y J' q1 q9 q10 q8 q2 q3 => ⟨1, t_end q9 q8 T2 ?_⟩)
        · have y' : 12 < w.length := by simpa using y
          refine ⟨by unfold rc_R; omega, fun y => absurd y (by decide), fun _ => h1 y' J' (fun a a1 a2 a3 a4 a5 => ?_) q8⟩
          rw [q1 a a1 a3 a4 a5, f2 a a1, k1 a a1 a2]
        · have y' : w.length ≤ 12 := by simpa using y
          rw [List.nil_append] at q3 ⊢
          refine ⟨by unfold rc_R; omega, fun _ => ?_, fun y => absurd (by omega) y⟩
          have qv : J' (x + 88 + 1) = v := by rw [q1 _ (by omega) (by omega) (by omega) (by omega), f2 _ (by omega)]; exact kv
          refine m_setP y' qv q3 (h2 y' J' (fun a a1 a2 a3 a4 a5 => ?_) q8)
          rw [q1 a a1 a3 a4 a5, f2 a a1, k1 a a1 a2]
      unfold wX1_expand
      refine xw G (x + 84) _ 0 0 [] J (by omega) j2 (fun k k0 k1 => by rw [j1 _ (by omega)]; exact (T3 k k0 k1).1) (by simp) (cE_0 _ _) (fun y P p1 => ?_) (fun y P gs2 p1 p2 p3 => ⟨1, xq_end (n := n) (by rw [p1 _ (by omega) (by omega)]; exact j2) T2 ?_⟩)
      · have y' : 12 < w.length := by simpa using y
        have pI : ∀ a : Nat, a ≠ x + 84 → a ≠ x + 85 → a ≠ x + 87 → P a = I a := fun a a1 a2 a3 => (p1 a (by omega) (by omega)).trans (j1 a a1)
        refine ⟨by unfold rc_R; omega, fun _ => R P _ (fun a ha => pI a (by omega) (by omega) (by omega)) (fun _ K q1 q2 => ⟨rfl, TK K (fun a a1 a2 a3 a4 a5 => ?_) ?_ ?_ q2⟩) (fun y => absurd y (by omega)), fun y => absurd rfl y⟩
        · rw [q1 a (by omega) a2 a3 a4 a5]
          by_cases d : a = x + 85 ∨ a = x + 87
          · exact absurd a1 (by omega)
          · exact pI a (by omega) (by omega) (by omega)
        · rw [q1 _ (by omega) (by omega) (by omega) (by omega) (by omega)]; exact pI _ (by omega) (by omega) (by omega)
        · rw [q1 _ (by omega) (by omega) (by omega) (by omega) (by omega), p1 _ (by omega) (by omega)]; exact j2
      · have y' : w.length ≤ 12 := by simpa using y
        have pI : ∀ a : Nat, a ≠ x + 84 → a ≠ x + 85 → a ≠ x + 87 → P a = I a := fun a a1 a2 a3 => (p1 a (by omega) (by omega)).trans (j1 a a1)
        rw [List.nil_append] at p3 ⊢
        refine ⟨by unfold rc_R; omega, fun y => absurd y (by omega), fun _ => x_take (r := x + 1) (by omega) (by omega) (by omega) (fun Q q1 q2 q3 q4 => ?_)⟩
        have qI : ∀ a : Nat, a ≠ x + 84 → a ≠ x + 85 → a ≠ x + 87 → a ≠ x + 2 → a ≠ x + 5 → Q a = I a := fun a a1 a2 a3 a4 a5 => (q1 a (by omega) (by omega)).trans (pI a a1 a2 a3)
        have EQ : eA Q (x + 1) (tPr v w) := eA_prog V.1 n6 y' (fun a a1 a2 a3 a4 => qI a (by omega) (by omega) (by omega) (by omega) (by omega)) (by rw [q2 0 (by decide), pI _ (by omega) (by omega) (by omega)]) q3 (fun k k0 k1 => by
          have g := p3 k.toNat (by omega)
          rw [show ((k.toNat : Nat) : Int) = k by omega] at g
          rw [q4 k k0 k1]; exact g) E
        refine R Q _ (fun a ha => qI a (by omega) (by omega) (by omega) (by omega) (by omega)) (fun y => absurd y (by omega)) (fun _ K k1 k2 => ⟨rfl, hk _ ?_⟩)
        have ku : rc_w K (x + 88 + 1) (tPr v w) (x + 89) = tPr v w := rc_w_s _ _ _
        have kn : ∀ a : Nat, a ≠ x + 89 → rc_w K (x + 88 + 1) (tPr v w) a = K a := fun a ha => rc_w_n _ _ (by omega)
        have KQ : ∀ a : Nat, a ≠ x + 88 → a ≠ x + 97 → a ≠ x + 98 → a ≠ x + 99 → a ≠ x + 100 → K a = Q a := k1
        refine tI_all t (by rw [ku]; exact eA_far (tV_prog V y' gw z).1 (fun a a0 a1 => by rw [kn a (by omega), KQ a (by omega) (by omega) (by omega) (by omega) (by omega)]) EQ) (by rw [ku]; exact tV_prog V y' gw z) ?_ (fun a ha => by rw [kn a (by omega), KQ a (by omega) (by omega) (by omega) (by omega) (by omega)]; exact qI a (by omega) (by omega) (by omega) (by omega) (by omega))
        refine tT_c (I := I) ?_ ?_ ?_ ?_ ⟨by rw [← en]; exact T1, by rw [← en]; exact T2, by rw [← en]; exact T3⟩
        · rw [kn _ (by omega), KQ _ (by omega) (by omega) (by omega) (by omega) (by omega), q1 _ (by omega) (by omega), p1 _ (by omega) (by omega), j2, T1]
        · rw [kn _ (by omega), KQ _ (by omega) (by omega) (by omega) (by omega) (by omega)]; exact qI _ (by omega) (by omega) (by omega) (by omega) (by omega)
        · rw [kn _ (by omega), k2, en]
        · rw [kn _ (by omega), KQ _ (by omega) (by omega) (by omega) (by omega) (by omega)]; exact qI _ (by omega) (by omega) (by omega) (by omega) (by omega)
