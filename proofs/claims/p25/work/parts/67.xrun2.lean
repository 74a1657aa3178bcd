/-! ===== pure part: ticks of the program ===== -/
theorem tStart_p {v : rv} {p : Int} (h165 : v 165 = 0 ∨ v 165 = 1) (hp : p = 0 ∨ p = 1) : tStart v (192 + 4 * p) = v (192 + 4 * p) := by
  unfold tStart tStart1
  by_cases c : v (191 + 4 * (1 - v 165)) = 1 ∧ (v 171 = 1 ∨ (v (191 + 4 * v 165) = 3 ∧ v 171 = 0 ∧ tLen v (v 165) - v 142 ≤ v (193 + 4 * v 165)))
  · rw [if_pos c, rc_u_n _ _ (by omega), rc_u_n _ _ (by omega), rc_u_n _ _ (by omega)]
  · rw [if_neg c]
theorem tWear_p {v : rv} {p : Int} (s : wS v) (hh : wH v) (k : wK 1 v) (hp : p = 0 ∨ p = 1) : tWear v (192 + 4 * p) = v (192 + 4 * p) := by
  obtain ⟨q162, q163, q165, q171, q172, q173, q174, qrow, q191, q195⟩ := id hh
  obtain ⟨k170, kP0, kP1, kQ⟩ := id k
  have kP : ∀ p : Int, p = 0 ∨ p = 1 → wP 1 v p := fun p hp => by rcases hp with rfl | rfl <;> assumption
  unfold tWear
  obtain ⟨f, e165⟩ : ∃ f, f = v 165 := ⟨_, rfl⟩
  rw [← e165] at q165 ⊢
  have pl := (kP f q165).1 (Or.inr e165.symm)
  clear kP kP0 kP1 kQ k q173 q191 q195
  unfold tWear1
  by_cases c : v (191 + 4 * f) = 3 ∧ 0 ≤ tK v (tR v f) (v (193 + 4 * f))
  · rw [if_pos c]
    obtain ⟨b1, b2, b3, bL⟩ := wS_R s pl
    rcases tK_spec v (tR v f) (v (193 + 4 * f)) with ⟨a0, a1, a2⟩ | ⟨a0, _⟩
    · generalize tK v (tR v f) (v (193 + 4 * f)) = i at *
      have w2 := bL.2.1
      by_cases c2 : v (4 + 14 * tR v f + 2 * i) ≤ 1
      · rw [if_pos c2]
        have wo : ∀ j : Int, 141 ≤ j → rc_u v (4 + 14 * tR v f + 2 * i) 0 j = v j := fun j hj => rc_u_n _ _ (by omega)
        generalize rc_u v (4 + 14 * tR v f + 2 * i) 0 = w at *
        obtain ⟨uo, _⟩ := tBreak_spec (w := w) q165 (by rw [wo 174 (by omega)]; exact q174)
        clear bL a2 c2 w2 c
        rw [uo _ (by omega) (by omega) (by omega) (by omega) (by omega), wo _ (by omega)]
      · rw [if_neg c2, rc_u_n _ _ (by omega)]
    · omega
  · rw [if_neg c]
theorem tR_keep {u v : rv} {p : Int} (h1 : u (192 + 4 * p) = v (192 + 4 * p)) (hv : 0 ≤ v (192 + 4 * p) ∧ v (192 + 4 * p) < 12) (h : ∀ j : Int, 150 ≤ j → j < 162 → u j = v j) : tR u p = tR v p := by
  unfold tR; rw [h1, h _ (by omega) (by omega)]
theorem tChange_o2 {v : rv} {j : Int} (h165 : v 165 = 0 ∨ v 165 = 1) (h : j < 165) : tChange v j = v j := by
  unfold tChange tChange1
  by_cases q : v 171 = 1 ∧ v 163 = 0 ∧ v (191 + 4 * (1 - v 165)) = 2 ∧ 0 ≤ v (193 + 4 * (1 - v 165))
  · rw [if_pos q, rc_u_n _ _ (by omega), rc_u_n _ _ (by omega), rc_u_n _ _ (by omega), rc_u_n _ _ (by omega)]
  · rw [if_neg q]
theorem x_tick {G : rc_G} {r : Nat} {I : rc_M} {v : rv} {post : rc_M → Prop} (kk : kX4 G r) (s : wS v) (hh : wH v) (k : wK 0 v) (z : v 163 = 0) (E : eA I r v) (H : ∀ J : rc_M, eA J r (tTick v) → eF r I J → post J) :
    wX5_work G (r + 35) (r + 1) I (fun I6 => wX5_frontProjector G (r + 35) I6 (fun r8 I7 => ∃ q9, r8 = some q9 ∧ kX2 G q9 ∧ (wX6_reelAtPlace G (r + 1) (I7 q9 1) I7 (fun r11 I10 => (r11 = none → wX5_changeOver G (r + 35) I10 (fun I13 => wX5_countTick G (r + 35) I13 (fun I14 => post I14))) ∧ (∀ q12, r11 = some q12 → kX3 G q12 ∧
      (wX5_startBack G (r + 35) (r + 1) q12 I10 (fun I15 => wX5_goOn G (r + 35 + 4) I15 (fun I16 => wX5_goOn G (r + 35 + 5) I16 (fun I17 => wX5_wearSplice G (r + 35) q12 I17 (fun I18 => wX5_runOut G (r + 35) (r + 1) q12 I18 (fun I19 => wX5_changeOver G (r + 35) I19 (fun I13 => wX5_countTick G (r + 35) I13 (fun I14 => post I14))))))))))))) := by
  obtain ⟨⟨s1, h1, k1⟩, ⟨s2, h2, k2⟩, ⟨s3, h3, k3⟩, ⟨s4, h4, k4, z4⟩, ⟨s5, h5, k5⟩, ⟨s6, h6, k6⟩, _⟩ := inv_steps s hh k z
  have z1 : tWork v 163 = 0 := (tWork_o s hh k (j := 163) (by omega)).trans z
  have z162 : tRun (tWear (tGo (tStart (tWork v)))) 162 = 1 := by
    have a := (tWork_o s hh k (j := 162) (by omega)).trans (wK_162 k)
    have b : tWear (tGo (tStart (tWork v))) 162 = 1 := wK_162 k4
    unfold tRun tRun1
    by_cases c : tWear (tGo (tStart (tWork v))) (191 + 4 * tWear (tGo (tStart (tWork v))) 165) = 3 ∧ tWear (tGo (tStart (tWork v))) 171 = 0 ∧ tLen (tWear (tGo (tStart (tWork v)))) (tWear (tGo (tStart (tWork v))) 165) - (if tWear (tGo (tStart (tWork v))) (192 + 4 * tWear (tGo (tStart (tWork v))) 165) = tWear (tGo (tStart (tWork v))) 149 - 1 then 0 else tWear (tGo (tStart (tWork v))) 143) ≤ tWear (tGo (tStart (tWork v))) (193 + 4 * tWear (tGo (tStart (tWork v))) 165)
    · rw [if_pos c]
      have q165 := h4.2.2.1
      have q174 := h4.2.2.2.2.2.2.1
      have kQ := k4.2.2.2
      generalize tWear (tGo (tStart (tWork v))) = u at *
      have nn : (162 : Int) ≠ 191 + 4 * u 165 := by omega
      by_cases c2 : u (192 + 4 * u 165) = u 149 - 1
      · rw [if_pos c2, rc_u_n _ _ (by decide), rc_u_n _ _ (by decide), rc_u_n _ _ nn]; exact b
      · rw [if_neg c2]
        have wo : ∀ j : Int, j ≠ 191 + 4 * u 165 → j ≠ 171 → rc_u (rc_u u (191 + 4 * u 165) 4) 171 1 j = u j := fun j a b => by rw [rc_u_n _ _ b, rc_u_n _ _ a]
        have wf : rc_u (rc_u u (191 + 4 * u 165) 4) 171 1 (191 + 4 * u 165) = 4 := by rw [rc_u_n _ _ (by omega), rc_u_s]
        generalize rc_u (rc_u u (191 + 4 * u 165) 4) 171 1 = w at *
        obtain ⟨_, _, uo, _⟩ := wQ_ord q165 q174 kQ c.1 (wo 172 (by omega) (by omega)) (wo 174 (by omega) (by omega)) (fun k k0 k1 => wo _ (by omega) (by omega)) wf (wo _ (by omega) (by omega)) (wo 170 (by omega) (by omega)) (wo 149 (by omega) (by omega))
        rw [uo 162 (by omega), wo 162 nn (by decide)]; exact b
    · rw [if_neg c]; exact b
  have p1 : wP 0 (tWork v) (tWork v 165) := by
    rcases h1.2.2.1 with q | q <;> rw [q]
    · exact k1.2.1
    · exact k1.2.2.1
  have pl1 := p1.1 (Or.inr rfl)
  have k162 := wK_162 k1
  have f165 : tStart (tWork v) 165 = tWork v 165 := tStart_o h1.2.2.1 (by omega)
  have f192 : tStart (tWork v) (192 + 4 * tWork v 165) = tWork v (192 + 4 * tWork v 165) := tStart_p h1.2.2.1 h1.2.2.1
  have g165 : tGo (tStart (tWork v)) 165 = tWork v 165 := by rw [tGo_o (by omega) (by omega)]; exact f165
  have q165 := h1.2.2.1
  have g192 : tGo (tStart (tWork v)) (192 + 4 * tWork v 165) = tWork v (192 + 4 * tWork v 165) := by rw [tGo_o (by omega) (by omega)]; exact f192
  have e165 : tWear (tGo (tStart (tWork v))) 165 = tWork v 165 := by rw [tWear_o s3 h3 k3 (by omega)]; exact g165
  have e192 : tWear (tGo (tStart (tWork v))) (192 + 4 * tWork v 165) = tWork v (192 + 4 * tWork v 165) := by rw [tWear_p s3 h3 k3 q165]; exact g192
  have pr2 : ∀ j : Int, 150 ≤ j → j < 162 → tGo (tStart (tWork v)) j = tWork v j := fun j a b => by rw [tGo_o (by omega) (by omega), tStart_o q165 (by omega)]
  have pr4 : ∀ j : Int, 150 ≤ j → j < 162 → tWear (tGo (tStart (tWork v))) j = tWork v j := fun j a b => by rw [tWear_o s3 h3 k3 (by omega)]; exact pr2 j a b
  obtain ⟨b1, b2, b3, bL⟩ := wS_R s1 pl1
  have R3 : tR (tGo (tStart (tWork v))) (tGo (tStart (tWork v)) 165) = tR (tWork v) (tWork v 165) := by rw [g165]; exact tR_keep g192 b1 pr2
  have R4 : tR (tWear (tGo (tStart (tWork v)))) (tWear (tGo (tStart (tWork v))) 165) = tR (tWork v) (tWork v 165) := by rw [e165]; exact tR_keep e192 b1 pr4
  have b4 : tR (tWork v) (tWork v 165) < tWear (tGo (tStart (tWork v))) 0 := by
    have a := wS_R s4 (p := tWear (tGo (tStart (tWork v))) 165) (by
      have p4 : wP 1 (tWear (tGo (tStart (tWork v)))) (tWear (tGo (tStart (tWork v))) 165) := by
        rcases h4.2.2.1 with q | q <;> rw [q]
        · exact k4.2.1
        · exact k4.2.2.1
      exact p4.1 (Or.inr rfl))
    rw [R4] at a; exact a.2.2.1
  refine x_work kk s hh k E (fun J1 E1 F1 => ?_)
  have e7 : J1 (r + 35) 7 = tWork v 165 := E1.2.1.2.2.2.2.2.2.1
  refine x_front kk.2.2 q165 e7 ⟨_, rfl, k2_of kk.2.2 q165, ?_⟩
  rw [(E1.2.2.2 _ q165).2.1 (Or.inr ⟨k162, z1, rfl⟩)]
  refine x_reelAt E1.1 s1 pl1 ⟨fun y => (by cases y), fun q y => ?_⟩
  have eq : q = r + 5 + 3 * (tR (tWork v) (tWork v 165)).toNat := by injection y with y; exact y.symm
  refine ⟨by rw [eq]; exact k3_of kk.2.1 b2, ?_⟩
  refine x_start kk.2.2 s1 h1 k1 E1 (fun _ => by rw [eq]; exact (E1.1.2.2.2.2 _ b2.1 b3).1) (fun J2 E2 F2 _ => ?_)
  have n2 := h2.2.2.2.2.2.2.1.2
  refine x_go1 (p := 0) (Or.inl rfl) s2 n2 h2.2.2.2.2.2.2.2.2.1 E2 (fun J3 E3 F3 => ?_)
  have lo : ∀ j : Int, j ≠ 193 → tGo1 (tStart (tWork v)) 0 j = tStart (tWork v) j := fun j hj => tGo1_n (by omega)
  refine x_go1 (p := 1) (Or.inr rfl) (wS_lo (fun j _ hj => lo j (by omega)) s2) (by rw [lo 174 (by omega)]; exact n2) (by rw [lo _ (by omega)]; exact h2.2.2.2.2.2.2.2.2.2) E3 (fun J4 E4 F4 => ?_)
  change eA J4 r (tGo (tStart (tWork v))) at E4
  refine x_wear kk.2.2 s3 h3 k3 E4 (by rw [R3]; exact eq) (fun J5 E5 F5 _ => ?_)
  refine x_runOut kk.2.2 s4 h4 k4 z4 E5 ?_ (fun J6 E6 F6 => ?_)
  · have a := (E5.1.2.2.2.2 _ b2.1 b4).1
    rw [eq, a]; unfold tLen; rw [R4]
  · refine x_change kk.2.2 s5 h5 z162 (fun y p hp c => ?_) E6 (fun J7 E7 F7 => ?_)
    · obtain ⟨k5', _⟩ := k5 y
      have w : wP 1 (tRun (tWear (tGo (tStart (tWork v))))) p := by rcases hp with rfl | rfl; exact k5'.2.1; exact k5'.2.2.1
      have w2 : wP 1 (tRun (tWear (tGo (tStart (tWork v))))) (1 - p) := by rcases hp with rfl | rfl; exact k5'.2.2.1; exact k5'.2.1
      have a := w.2.2.2.2 c
      have q171 := h5.2.2.2.1
      generalize tRun (tWear (tGo (tStart (tWork v)))) = u at *
      rcases q171 with r | r
      · have b := a.2.2.1 r
        have d := w2.2.2.1 b.1
        have x := a.2.1
        unfold rc_R; clear a w w2 k5' k5; omega
      · have b := (a.2.2.2 r).2
        have x := a.2.1
        unfold rc_R; clear a w w2 k5' k5; omega
    · have z6 : tChange (tRun (tWear (tGo (tStart (tWork v))))) 162 = 1 := by rw [tChange_o2 h5.2.2.1 (by omega)]; exact z162
      refine x_end kk.2.2 s6 h6 z6 (fun y c => ?_) E7 (fun J8 E8 F8 => H J8 E8 (eF_t F1 (eF_t F2 (eF_t F3 (eF_t F4 (eF_t F5 (eF_t F6 (eF_t F7 F8))))))))
      have w : wP 0 (tChange (tRun (tWear (tGo (tStart (tWork v)))))) (tChange (tRun (tWear (tGo (tStart (tWork v))))) 165) := by
        rcases h6.2.2.1 with q | q <;> rw [q]
        · exact (k6 y).2.1
        · exact (k6 y).2.2.1
      exact (w.2.1 (Or.inl c)).2
/-- ticks until so many have passed or the show is over -/
theorem x_run {G : rc_G} {r : Nat} {I : rc_M} {v : rv} {a : Int} {post : Int → rc_M → Prop} (kk : kX4 G r) (ha : 0 ≤ a ∧ a ≤ 20000) (s : wS v) (hh : wH v) (k : v 163 = 0 → wK 0 v) (E : eA I r v)
    (H : ∀ J : rc_M, eA J r (tPass a.toNat v) → eF r I J → post (tPassN a.toNat v) J) : wX5_run G (r + 35) (r + 1) a I post := by
  have L : ∀ (d : Nat) (x : Int) (v : rv) (I : rc_M), 0 ≤ x → a - x = d → wS v → wH v → (v 163 = 0 → wK 0 v) → eA I r v → (∀ J : rc_M, eA J r (tPass d v) → eF r I J → post (x + tPassN d v) J) → rX5_run_2 G post (r + 35) (r + 1) a (d + 1) x I := by
    intro d
    induction d with
    | zero =>
      intro x v I x0 hd s hh k E H
      show wX5_run_2 G post (r + 35) (r + 1) a _ x I
      unfold wX5_run_2
      have h := H I E (eF_r r I)
      rw [tPassN, Int.add_zero] at h
      exact ⟨by unfold rc_R; omega, by unfold rc_R; omega, fun _ => h, fun q => absurd q (by omega)⟩
    | succ d ih =>
      intro x v I x0 hd s hh k E H
      rw [tPassN, tPass] at H
      have c0 := E.2.1.1
      show wX5_run_2 G post (r + 35) (r + 1) a (rX5_run_2 G post (r + 35) (r + 1) a (d + 1)) x I
      by_cases z : v 163 = 0
      · rw [if_pos z, if_pos z] at H
        obtain ⟨_, _, _, _, _, _, s7, h7, k7⟩ := inv_steps s hh (k z) z
        unfold wX5_run_2 wX5_run_71
        rw [c0, if_pos ⟨wK_162 (k z), z⟩]
        refine ⟨by unfold rc_R; omega, by unfold rc_R; omega, fun q => absurd q (by omega), fun _ => ⟨by unfold rc_R; omega, fun q => absurd q (by decide), fun _ => ?_⟩⟩
        refine x_tick (post := fun I14 => rX5_run_2 G post (r + 35) (r + 1) a (d + 1) (x + 1) I14) kk s hh (k z) z E (fun J EJ FJ => ?_)
        refine ih (x + 1) (tTick v) J (by omega) (by omega) s7 h7 k7 EJ (fun K EK FK => ?_)
        rw [show x + 1 + tPassN d (tTick v) = x + (1 + tPassN d (tTick v)) by omega]
        exact H K EK (eF_t FJ FK)
      · rw [if_neg z, if_neg z] at H
        have h := H I E (eF_r r I)
        rw [Int.add_zero] at h
        unfold wX5_run_2
        rw [c0, if_neg (fun y => z y.2)]
        exact ⟨by unfold rc_R; omega, by unfold rc_R; omega, fun q => absurd q (by omega), fun _ => ⟨rc_R0, fun _ => h, fun q => absurd rfl q⟩⟩
  exact ⟨a.toNat + 1, L a.toNat 0 v I (by omega) (by omega) s hh k E (fun J EJ FJ => by rw [Int.zero_add]; exact H J EJ FJ)⟩
