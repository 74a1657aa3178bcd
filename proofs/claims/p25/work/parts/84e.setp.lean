/-! ===== pure part: setProgram ===== -/
def tPq (v : rv) (w : List Int) (c : Int) : rv := fun j => if 150 ≤ j ∧ j < 150 + c then w.getD (j - 150).toNat 0 else v j
theorem tPq_0 (v : rv) (w : List Int) : tPq v w 0 = v := by
  funext j; unfold tPq; rw [if_neg (by omega)]
theorem tPq_s (v : rv) (w : List Int) {c x : Int} (h : 0 ≤ c) (hx : w.getD c.toNat 0 = x) : rc_u (tPq v w c) (150 + c) x = tPq v w (c + 1) := by
  funext j
  rw [rc_ue]
  unfold tPq
  by_cases d : j = 150 + c
  · rw [if_pos d, if_pos (by omega), d, show 150 + c - 150 = c by omega, hx]
  · rw [if_neg d]
    by_cases e : 150 ≤ j ∧ j < 150 + c
    · rw [if_pos e, if_pos (by omega)]
    · rw [if_neg e, if_neg (by omega)]
def tPr (v : rv) (w : List Int) : rv := rc_u (tPq v w (w.length : Int)) 149 (w.length : Int)
theorem tPr_149 (v : rv) (w : List Int) : tPr v w 149 = (w.length : Int) := rc_u_s _ _ _
theorem tPr_o (v : rv) (w : List Int) (hw : w.length ≤ 12) (j : Int) (h : j < 149 ∨ 162 ≤ j) : tPr v w j = v j := by
  unfold tPr tPq
  rw [rc_u_n _ _ (by omega), if_neg (by omega)]
theorem tPr_p (v : rv) (w : List Int) (k : Int) (h : 0 ≤ k ∧ k < (w.length : Int)) : tPr v w (150 + k) = w.getD k.toNat 0 := by
  unfold tPr tPq
  rw [rc_u_n _ _ (by omega), if_pos (by omega), show 150 + k - 150 = k by omega]
theorem tV_prog {v : rv} {w : List Int} (V : tV v) (hw : w.length ≤ 12) (g : gW (v 0) w) (nr : ¬ (v 162 = 1 ∧ v 163 = 0)) : tV (tPr v w) := by
  have uo := tPr_o v w hw
  have u9 := tPr_149 v w
  have up := tPr_p v w
  generalize tPr v w = u at *
  obtain ⟨⟨sa, sb, sc, sd, sf⟩, hh, K⟩ := V
  refine ⟨⟨by rw [uo 0 (by omega)]; exact sa, by rw [u9]; omega, fun k k0 k1 => ?_, ?_, fun i i0 i1 => ?_⟩, wH_c2 (fun j j0 _ => uo j (by omega)) hh, fun a b => absurd ⟨(uo 162 (by omega)).symm.trans a, (uo 163 (by omega)).symm.trans b⟩ nr⟩
  · rw [u9] at k1
    rw [up k ⟨k0, k1⟩, uo 0 (by omega)]; exact g k.toNat (by omega)
  · rw [uo 141 (by omega), uo 142 (by omega), uo 143 (by omega), uo 144 (by omega), uo 145 (by omega), uo 146 (by omega), uo 147 (by omega), uo 148 (by omega)]; exact sd
  · rw [uo 0 (by omega)] at i1
    exact wL_lo (by omega) (fun j j0 j1 => uo j (by omega)) (sf i i0 i1)
theorem eA_prog {I J : rc_M} {r : Nat} {v : rv} {w : List Int} (s : wS v) (n6 : v 174 ≤ 6) (hw : w.length ≤ 12) (Jo : ∀ a : Nat, a ≠ r + 1 → a ≠ r + 4 → r ≤ a → a ≤ r + 40 → J a = I a) (J0 : J (r + 1) 0 = I (r + 1) 0) (J1 : J (r + 1) 1 = (w.length : Int)) (J4 : ∀ k : Int, 0 ≤ k → k < (w.length : Int) → J (r + 4) k = w.getD k.toNat 0) (E : eA I r v) : eA J r (tPr v w) := by
  have uo := tPr_o v w hw
  have u9 := tPr_149 v w
  have up := tPr_p v w
  have s0 := s.1
  have sL := s.2.2.2.2
  clear s
  generalize tPr v w = u at *
  obtain ⟨⟨R0, R1, R2, R3, R4⟩, C, O, P⟩ := E
  refine ⟨⟨by rw [J0, uo 0 (by omega)]; exact R0, by rw [J1, u9], fun k k0 k1 => by rw [Jo _ (by omega) (by omega) (by omega) (by omega), uo _ (by omega)]; exact R2 k k0 k1, fun k k0 k1 => ?_, fun i i0 i1 => ?_⟩, eC_c (Jo _ (by omega) (by omega) (by omega) (by omega)) (fun j j0 j1 => uo j (by omega)) C, eO_c ⟨Jo _ (by omega) (by omega) (by omega) (by omega), Jo _ (by omega) (by omega) (by omega) (by omega), Jo _ (by omega) (by omega) (by omega) (by omega)⟩ (uo _ (by omega)) (uo _ (by omega)) (uo _ (by omega)) (fun k k0 k1 => uo _ (by omega)) O, fun p hp => eP_c (Jo _ (by omega) (by omega) (by omega) (by omega)) (uo _ (by omega)) (uo _ (by omega)) (uo _ (by omega)) (fun q => by rw [uo 162 (by omega), uo 163 (by omega), uo 165 (by omega)] at q; exact q) (P p hp)⟩
  · rw [u9] at k1
    rw [J4 k k0 k1, up k ⟨k0, k1⟩]
  · rw [uo 0 (by omega)] at i1
    have wl := sL i i0 i1
    have f4 := R4 i i0 i1
    clear R2 R3 R4 C O P sL J4 up
    exact eL_c (by omega) wl ⟨Jo _ (by omega) (by omega) (by omega) (by omega), Jo _ (by omega) (by omega) (by omega) (by omega), Jo _ (by omega) (by omega) (by omega) (by omega)⟩ (fun j j0 j1 => uo j (by omega)) f4
theorem xq_end {G : rc_G} {q : Nat} {post : Int → rc_M → Prop} {I : rc_M} {n cnt op gs it : Int} (h2 : I q 2 = n) (hn : 0 ≤ n ∧ n ≤ 60) (h : post cnt I) : rX1_expand_12 G post q 1 cnt op gs it n I := by
  show wX1_expand_12 G post q (rX1_expand_12 G post q 0) cnt op gs it n I
  unfold wX1_expand_12
  rw [h2]
  exact ⟨by unfold rc_R; omega, by unfold rc_R; omega, fun _ => h, fun y => absurd (Int.le_refl n) y⟩
