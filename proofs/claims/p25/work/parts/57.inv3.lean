/-! ===== pure part: what a tick keeps, its last steps ===== -/
theorem tBrk_o {w : rv} {f j : Int} (a : j ≠ 191 + 4 * f) (b : j ≠ 194 + 4 * f) (c : j ≠ 169) : tBrk w f j = w j := by
  unfold tBrk; rw [rc_u_n _ _ c, rc_u_n _ _ b, rc_u_n _ _ a]
theorem tBreak_spec {w : rv} {f : Int} (hf : f = 0 ∨ f = 1) (h : 0 ≤ w 174 ∧ w 174 ≤ 6) :
    (∀ j : Int, j ≠ 191 + 4 * f → j ≠ 194 + 4 * f → j ≠ 169 → j ≠ 191 + 4 * (1 - f) → (j < 174 ∨ 181 < j) → tBreak w f j = w j) ∧
    tBreak w f 174 = w 174 + 1 ∧ tBreak w f 175 = 3 * f + 2 ∧ (∀ k : Int, 0 ≤ k → k < w 174 → tBreak w f (176 + k) = w (175 + k)) ∧
    tBreak w f (191 + 4 * f) = 5 ∧ tBreak w f (194 + 4 * f) = w (193 + 4 * f) ∧ tBreak w f 169 = w 169 + 1 ∧
    tBreak w f (191 + 4 * (1 - f)) = (if w (191 + 4 * (1 - f)) = 2 then 1 else w (191 + 4 * (1 - f))) := by
  have b174 : tBrk w f 174 = w 174 := tBrk_o (by omega) (by omega) (by omega)
  have s2 : ∀ j : Int, (j < 174 ∨ 181 < j) → tBrk2 (tBrk w f) f j = tBrk w f j := fun j hj => by
    unfold tBrk2 tIns; rw [rc_u_n _ _ (by omega), rc_u_n _ _ (by omega), b174, if_neg (by omega)]
  have s3 : ∀ j : Int, j ≠ 191 + 4 * (1 - f) → tBreak w f j = tBrk2 (tBrk w f) f j := fun j hj => by
    unfold tBreak tBrk3
    by_cases c : tBrk2 (tBrk w f) f (191 + 4 * (1 - f)) = 2
    · rw [if_pos c, rc_u_n _ _ hj]
    · rw [if_neg c]
  refine ⟨fun j a b c d e => ?_, ?_, ?_, fun k k0 k1 => ?_, ?_, ?_, ?_, ?_⟩
  · rw [s3 j d, s2 j e, tBrk_o a b c]
  · rw [s3 _ (by omega)]; unfold tBrk2; rw [rc_u_s, b174]
  · rw [s3 _ (by omega)]; unfold tBrk2; rw [rc_u_n _ _ (by omega), rc_u_s]
  · rw [s3 _ (by omega)]; unfold tBrk2 tIns; rw [rc_u_n _ _ (by omega), rc_u_n _ _ (by omega), b174, if_pos (by omega), tBrk_o (by omega) (by omega) (by omega), show (176 : Int) + k - 1 = 175 + k by omega]
  · rw [s3 _ (by omega), s2 _ (by omega)]; unfold tBrk; rw [rc_u_n _ _ (by omega), rc_u_n _ _ (by omega), rc_u_s]
  · rw [s3 _ (by omega), s2 _ (by omega)]; unfold tBrk; rw [rc_u_n _ _ (by omega), rc_u_s]
  · rw [s3 _ (by omega), s2 _ (by omega)]; unfold tBrk; rw [rc_u_s]
  · have e : tBrk2 (tBrk w f) f (191 + 4 * (1 - f)) = w (191 + 4 * (1 - f)) := by rw [s2 _ (by omega), tBrk_o (by omega) (by omega) (by omega)]
    unfold tBreak tBrk3
    rw [e]
    by_cases c : w (191 + 4 * (1 - f)) = 2
    · rw [if_pos c, if_pos c, rc_u_s]
    · rw [if_neg c, if_neg c, e]
theorem inv_wear {v : rv} (s : wS v) (hh : wH v) (k : wK 1 v) : wS (tWear v) ∧ wH (tWear v) ∧ wK 1 (tWear v) := by
  obtain ⟨q162, q163, q165, q171, q172, q173, q174, qrow, q191, q195⟩ := id hh
  obtain ⟨k170, kP0, kP1, kQ⟩ := id k
  have kP : ∀ p : Int, p = 0 ∨ p = 1 → wP 1 v p := fun p hp => by rcases hp with rfl | rfl <;> assumption
  unfold tWear
  obtain ⟨f, e165⟩ : ∃ f, f = v 165 := ⟨_, rfl⟩
  rw [← e165] at q165 ⊢
  unfold tWear1
  by_cases c : v (191 + 4 * f) = 3 ∧ 0 ≤ tK v (tR v f) (v (193 + 4 * f))
  · rw [if_pos c]
    obtain ⟨b1, b2, b3, bL⟩ := wS_R s ((kP f q165).1 (Or.inr e165.symm))
    rcases tK_spec v (tR v f) (v (193 + 4 * f)) with ⟨a0, a1, a2⟩ | ⟨a0, _⟩
    · generalize tK v (tR v f) (v (193 + 4 * f)) = i at *
      have st := (bL.2.2.1 i a0 a1).2
      have w2 := bL.2.1
      have hz : 4 ≤ 4 + 14 * tR v f + 2 * i ∧ 4 + 14 * tR v f + 2 * i < 141 := by omega
      by_cases c2 : v (4 + 14 * tR v f + 2 * i) ≤ 1
      · rw [if_pos c2]
        have sw := wS_str s ⟨b2.1, b3⟩ ⟨a0, a1⟩ (show (0 : Int) ≤ 0 ∧ (0 : Int) ≤ 9 by omega)
        have wo : ∀ j : Int, 141 ≤ j → rc_u v (4 + 14 * tR v f + 2 * i) 0 j = v j := fun j hj => rc_u_n _ _ (by omega)
        generalize rc_u v (4 + 14 * tR v f + 2 * i) 0 = w at *
        have w174 := wo 174 (by omega)
        obtain ⟨uo, u174, u175, ur, uf, uf3, _, ub⟩ := tBreak_spec (w := w) q165 (by rw [w174]; exact q174)
        generalize tBreak w f = u at *
        have lo : ∀ j : Int, 141 ≤ j → j ≠ 191 + 4 * f → j ≠ 194 + 4 * f → j ≠ 169 → j ≠ 191 + 4 * (1 - f) → (j < 174 ∨ 181 < j) → u j = v j := fun j j0 a b c d e => by rw [uo j a b c d e, wo j j0]
        have su : wS u := wS_lo (fun j j0 hj => uo j (by omega) (by omega) (by omega) (by omega) (by omega)) sw
        rw [w174] at u174 ur
        rw [wo _ (by omega)] at uf3 ub
        have ur' : ∀ k : Int, 0 ≤ k → k < v 174 → u (176 + k) = v (175 + k) := fun k k0 k1 => by rw [ur k k0 k1, wo _ (by omega)]
        have u172 := lo 172 (by omega) (by omega) (by omega) (by omega) (by omega) (by omega)
        have u173 := lo 173 (by omega) (by omega) (by omega) (by omega) (by omega) (by omega)
        have u149 := lo 149 (by omega) (by omega) (by omega) (by omega) (by omega) (by omega)
        have u162 := lo 162 (by omega) (by omega) (by omega) (by omega) (by omega) (by omega)
        have u163 := lo 163 (by omega) (by omega) (by omega) (by omega) (by omega) (by omega)
        have u165 := lo 165 (by omega) (by omega) (by omega) (by omega) (by omega) (by omega)
        have u170 := lo 170 (by omega) (by omega) (by omega) (by omega) (by omega) (by omega)
        have u171 := lo 171 (by omega) (by omega) (by omega) (by omega) (by omega) (by omega)
        have Q : wQ u := wQ_ins q165 q174.1 kQ c.1 u172 u174 ur' u175 uf (by
          rw [ub]; by_cases c3 : v (191 + 4 * (1 - f)) = 2
          · exact Or.inr (Or.inl c3)
          · rw [if_neg c3]; exact Or.inl rfl) u170 u149
        have rows : ∀ k : Int, 0 ≤ k → k < u 174 → 0 ≤ u (175 + k) ∧ u (175 + k) ≤ 5 := fun k k0 k1 => by
          rcases Int.lt_or_eq_of_le k0 with r | r
          · rw [show (175 : Int) + k = 176 + (k - 1) by omega, ur' (k - 1) (by omega) (by omega)]; exact qrow _ (by omega) (by omega)
          · rw [← r, show (175 : Int) + 0 = 175 by omega, u175]; omega
        have six := wE_six (v := u) (by omega) Q.1 (fun j j0 j1 => by
          rcases Int.lt_or_eq_of_le j0 with r | r
          · rw [wE_n u (by omega), show (174 : Int) + j = 175 + (j - 1) by omega]
            have := rows (j - 1) (by omega) (by omega)
            omega
          · rw [← r, wE_0, u172]; exact q172)
        have P := kP f q165
        have O := kP (1 - f) (by omega)
        have x := P.2.1 (Or.inl c.1)
        have y := P.2.2.1 c.1
        have kB : ∀ p : Int, p = 0 ∨ p = 1 → 0 ≤ v (191 + 4 * p) ∧ v (191 + 4 * p) ≤ 5 := fun p hp => by rcases hp with rfl | rfl <;> assumption
        have B := kB (1 - f) (by omega)
        have uf2 := lo (192 + 4 * f) (by omega) (by omega) (by omega) (by omega) (by omega) (by omega)
        have uf4 := lo (193 + 4 * f) (by omega) (by omega) (by omega) (by omega) (by omega) (by omega)
        have ub2 := lo (192 + 4 * (1 - f)) (by omega) (by omega) (by omega) (by omega) (by omega) (by omega)
        have ub3 := lo (193 + 4 * (1 - f)) (by omega) (by omega) (by omega) (by omega) (by omega) (by omega)
        have ub4 := lo (194 + 4 * (1 - f)) (by omega) (by omega) (by omega) (by omega) (by omega) (by omega)
        have A : wP 1 u f := wP_brk uf (by rw [uf2, u149]; exact P.1 (Or.inl (by omega))) (by rw [u165]; exact x.1) (by rw [u171]; exact x.2) (by rw [uf3, uf4]; omega)
        have A1 : wP 1 u (1 - f) := by
          by_cases c3 : v (191 + 4 * (1 - f)) = 2
          · rw [if_pos c3] at ub
            exact wP_idle (Or.inr (Or.inl ub)) (by rw [ub2, u149]; exact O.1 (Or.inl (by omega)))
          · rw [if_neg c3] at ub
            exact wP_oth O u149 u165 u171 ub ub2 ub3 ub4 (fun q => absurd q c3)
        have A2 := wP_both q165 A A1
        have A3 := wB_both (u := u) q165 (by omega) (show 0 ≤ u (191 + 4 * (1 - f)) ∧ u (191 + 4 * (1 - f)) ≤ 5 by
          by_cases c3 : v (191 + 4 * (1 - f)) = 2
          · rw [if_pos c3] at ub; omega
          · rw [if_neg c3] at ub; omega)
        have G : (0 ≤ u 191 ∧ u 191 ≤ 5) ∧ (0 ≤ u 195 ∧ u 195 ≤ 5) ∧ wP 1 u 0 ∧ wP 1 u 1 := ⟨A3.1, A3.2, A2.1, A2.2⟩
        exact ⟨su, ⟨by rw [u162]; exact q162, by rw [u163]; exact q163, by rw [u165]; omega, by rw [u171]; exact q171, by rw [u172]; exact q172, by rw [u172, u173]; exact q173, by omega, rows, G.1, G.2.1⟩, by rw [u170, u149, u162]; exact k170, G.2.2.1, G.2.2.2, Q⟩
      · rw [if_neg c2]
        have sw := wS_str s ⟨b2.1, b3⟩ ⟨a0, a1⟩ (show 0 ≤ v (4 + 14 * tR v f + 2 * i) - 1 ∧ v (4 + 14 * tR v f + 2 * i) - 1 ≤ 9 by omega)
        have wo : ∀ j : Int, 141 ≤ j → rc_u v (4 + 14 * tR v f + 2 * i) (v (4 + 14 * tR v f + 2 * i) - 1) j = v j := fun j hj => rc_u_n _ _ (by omega)
        generalize rc_u v (4 + 14 * tR v f + 2 * i) (v (4 + 14 * tR v f + 2 * i) - 1) = w at *
        refine ⟨sw, wH_c hh (wo 162 (by omega)) (by rw [wo 163 (by omega)]; exact q163) (by rw [wo 165 (by omega)]; omega) (by rw [wo 171 (by omega)]; exact q171) (wo 172 (by omega)) (wo 173 (by omega)) (wo 174 (by omega)) (fun k k0 k1 => wo _ (by omega)) (by rw [wo 191 (by omega)]; exact q191) (by rw [wo 195 (by omega)]; exact q195), by rw [wo 170 (by omega), wo 149 (by omega), wo 162 (by omega)]; exact k170, wP_c (Or.inl rfl) (wo 149 (by omega)) (wo 165 (by omega)) (wo 171 (by omega)) (fun j hj => wo j (by omega)) kP0, wP_c (Or.inr rfl) (wo 149 (by omega)) (wo 165 (by omega)) (wo 171 (by omega)) (fun j hj => wo j (by omega)) kP1, ?_⟩
        exact wQ_st q174.1 kQ (wo 172 (by omega)) (wo 174 (by omega)) (fun k k0 k1 => wo _ (by omega)) (wo 170 (by omega)) (wo 149 (by omega)) (fun p hp => Or.inl (wo _ (by omega)))
    · omega
  · rw [if_neg c]; exact ⟨s, hh, k⟩
/-- a reel runs out and others are to come -/
theorem wQ_ord {v w : rv} {f : Int} (hf : f = 0 ∨ f = 1) (q174 : 0 ≤ v 174 ∧ v 174 ≤ 6) (q : wQ v) (h1 : v (191 + 4 * f) = 3) (h2 : w 172 = v 172) (h3 : w 174 = v 174) (h4 : ∀ k : Int, 0 ≤ k → k < v 174 → w (175 + k) = v (175 + k))
    (h5 : w (191 + 4 * f) = 4) (h6 : w (191 + 4 * (1 - f)) = v (191 + 4 * (1 - f))) (h7 : w 170 = v 170) (h8 : w 149 = v 149) :
    wQ (tOrd w f) ∧ (v 174 + 1 ≤ tOrd w f 174 ∧ tOrd w f 174 ≤ v 174 + 2) ∧ (∀ j : Int, (j < 174 ∨ 185 < j) → tOrd w f j = w j) ∧ (∀ k : Int, 0 ≤ k → k < tOrd w f 174 → (k < v 174 ∧ tOrd w f (175 + k) = v (175 + k)) ∨ tOrd w f (175 + k) = 3 * f ∨ tOrd w f (175 + k) = 3 * f + 1) := by
  obtain ⟨d, o, t⟩ := q
  have nf : ∀ j : Int, 0 ≤ j → j ≤ v 174 → wE v j ≠ 3 * f ∧ wE v j ≠ 3 * f + 1 ∧ wE v j ≠ 3 * f + 2 := fun j j0 j1 => by
    have x := o j f j0 j1 hf
    refine ⟨fun y => absurd (x.1 y) (by omega), fun y => ?_, fun y => absurd (x.2.1 y) (by omega)⟩
    rcases x.2.2 y with z | z
    · omega
    · omega
  have a174 : tAdd w (3 * f) 174 = v 174 + 1 := by rw [tAdd_s, h3]
  have ao : ∀ j : Int, j ≠ 175 + v 174 → j ≠ 174 → tAdd w (3 * f) j = w j := fun j a b => tAdd_n (by rw [h3]; exact a) b
  have an : tAdd w (3 * f) (175 + v 174) = 3 * f := by unfold tAdd; rw [h3, rc_u_n _ _ (by omega), rc_u_s]
  have ar : ∀ k : Int, 0 ≤ k → k < v 174 → tAdd w (3 * f) (175 + k) = v (175 + k) := fun k k0 k1 => by rw [ao _ (by omega) (by omega)]; exact h4 k k0 k1
  obtain ⟨d1, eq1, en1, t1⟩ := wQ_add (u := tAdd w (3 * f)) (v := v) (c := 3 * f) hf q174.1 d (fun j j0 j1 => (nf j j0 j1).1) (by rw [ao 172 (by omega) (by omega)]; exact h2) a174 ar an
  rw [if_neg (by omega)] at t1
  have o1 : ∀ j p : Int, 0 ≤ j → j ≤ v 174 + 1 → (p = 0 ∨ p = 1) → ∀ u : rv, wE u j = wE (tAdd w (3 * f)) j → (∀ i : Int, 0 ≤ i → i < j → wE u i = wE (tAdd w (3 * f)) i) → (∀ p : Int, p = 0 ∨ p = 1 → u (191 + 4 * p) = w (191 + 4 * p)) → (wE u j = 3 * p → u (191 + 4 * p) = 4) ∧ (wE u j = 3 * p + 2 → u (191 + 4 * p) = 5) ∧
    (wE u j = 3 * p + 1 → u (191 + 4 * p) = 0 ∨ (u (191 + 4 * p) = 4 ∧ ∃ i : Int, 0 ≤ i ∧ i < j ∧ wE u i = 3 * p)) := by
    intro j p j0 j1 hp u he hi hs
    rw [he, hs p hp]
    rcases Int.lt_or_eq_of_le j1 with r | r
    · rw [eq1 j j0 (by omega)]
      have n := nf j j0 (by omega)
      have cpp : ¬ p = f → p = 1 - f := fun c => by omega
      have oj := o j p j0 (by omega) hp
      by_cases c : p = f
      · subst c
        exact ⟨fun y => absurd y n.1, fun y => absurd y n.2.2, fun y => absurd y n.2.1⟩
      · have cp : p = 1 - f := cpp c
        rw [cp, h6, ← cp]
        refine ⟨oj.1, oj.2.1, fun y => ?_⟩
        rcases oj.2.2 y with z | ⟨z, i, i0, i1, i2⟩
        · exact Or.inl z
        · exact Or.inr ⟨z, i, i0, i1, by rw [hi i i0 i1, eq1 i i0 (by clear oj; omega)]; exact i2⟩
    · rw [r, en1]
      refine ⟨fun y => ?_, fun y => by omega, fun y => by omega⟩
      have : p = f := by omega
      rw [this]; exact h5
  unfold tOrd
  by_cases c : w 149 - w 170 ≤ tThr (tAdd w (3 * f))
  · rw [if_pos c]
    refine ⟨⟨d1, fun j p j0 j1 hp => ?_, ?_⟩, by omega, fun j hj => ao j (by omega) (by omega), fun k k0 k1 => ?_⟩
    · rw [a174] at j1
      exact o1 j p j0 j1 hp _ rfl (fun _ _ _ => rfl) (fun p hp => ao _ (by omega) (by omega))
    · rw [ao 170 (by omega) (by omega), ao 149 (by omega) (by omega), h7, h8, t1]; omega
    · rw [a174] at k1
      rcases Int.lt_or_eq_of_le (show k ≤ v 174 by omega) with r | r
      · exact Or.inl ⟨r, ar k k0 r⟩
      · rw [r]; exact Or.inr (Or.inl an)
  · rw [if_neg c]
    have b174 : tAdd (tAdd w (3 * f)) (3 * f + 1) 174 = v 174 + 2 := by rw [tAdd_s, a174]; omega
    have bo : ∀ j : Int, j ≠ 176 + v 174 → j ≠ 174 → tAdd (tAdd w (3 * f)) (3 * f + 1) j = tAdd w (3 * f) j := fun j a b => tAdd_n (by rw [a174]; omega) b
    have bn : tAdd (tAdd w (3 * f)) (3 * f + 1) (176 + v 174) = 3 * f + 1 := by
      have : (176 : Int) + v 174 = 175 + tAdd w (3 * f) 174 := by rw [a174]; omega
      rw [this]; unfold tAdd; rw [rc_u_n _ _ (by rw [rc_u_s]; omega), rc_u_s]
    have br : ∀ k : Int, 0 ≤ k → k < v 174 + 1 → tAdd (tAdd w (3 * f)) (3 * f + 1) (175 + k) = tAdd w (3 * f) (175 + k) := fun k k0 k1 => bo _ (by omega) (by omega)
    have nf1 : ∀ j : Int, 0 ≤ j → j ≤ tAdd w (3 * f) 174 → wE (tAdd w (3 * f)) j ≠ 3 * f + 1 := fun j j0 j1 => by
      rw [a174] at j1
      rcases Int.lt_or_eq_of_le j1 with r | r
      · rw [eq1 j j0 (by omega)]; exact (nf j j0 (by omega)).2.1
      · rw [r, en1]; omega
    obtain ⟨d2, eq2, en2, t2⟩ := wQ_add (u := tAdd (tAdd w (3 * f)) (3 * f + 1)) (v := tAdd w (3 * f)) (c := 3 * f + 1) hf (by rw [a174]; omega) d1 nf1 (bo 172 (by omega) (by omega)) (tAdd_s _ _) (fun k k0 k1 => by rw [a174] at k1; exact br k k0 k1) (by rw [a174, show (175 : Int) + (v 174 + 1) = 176 + v 174 by omega]; exact bn)
    rw [if_pos (by omega)] at t2
    rw [a174] at eq2 en2
    have bs : ∀ p : Int, p = 0 ∨ p = 1 → tAdd (tAdd w (3 * f)) (3 * f + 1) (191 + 4 * p) = w (191 + 4 * p) := fun p hp => by rw [bo _ (by omega) (by omega), ao _ (by omega) (by omega)]
    refine ⟨⟨d2, fun j p j0 j1 hp => ?_, ?_⟩, by omega, fun j hj => by rw [bo j (by omega) (by omega), ao j (by omega) (by omega)], fun k k0 k1 => ?_⟩
    · rw [b174] at j1
      rcases Int.lt_or_eq_of_le j1 with r | r
      · exact o1 j p j0 (by omega) hp _ (eq2 j j0 (by omega)) (fun i i0 i1 => eq2 i i0 (by omega)) bs
      · rw [r, show v 174 + 2 = v 174 + 1 + 1 by omega, en2, bs p hp]
        refine ⟨fun y => by omega, fun y => by omega, fun y => Or.inr ⟨?_, v 174 + 1, by omega, by omega, ?_⟩⟩
        · have : p = f := by omega
          rw [this]; exact h5
        · rw [eq2 _ (by omega) (by omega), en1]; omega
    · rw [bo 170 (by omega) (by omega), bo 149 (by omega) (by omega), ao 170 (by omega) (by omega), ao 149 (by omega) (by omega), t2]; omega
    · rw [b174] at k1
      rcases Int.lt_or_eq_of_le (show k ≤ v 174 + 1 by omega) with r | r
      · rw [br k k0 r]
        rcases Int.lt_or_eq_of_le (show k ≤ v 174 by omega) with r | r
        · exact Or.inl ⟨r, ar k k0 r⟩
        · rw [r]; exact Or.inr (Or.inl an)
      · rw [r, show (175 : Int) + (v 174 + 1) = 176 + v 174 by omega]; exact Or.inr (Or.inr bn)
