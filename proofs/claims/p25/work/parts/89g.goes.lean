/-! ===== ticks in one go are like ticks one by one, a forecast comes true ===== -/
/-- slot 0: nothing, or a room of its own -/
def S0 (G : rc_G) (x : Nat) (I : rc_M) : Prop := I (x + 83) 0 ≤ 0 ∨ (0 < I (x + 83) 0 ∧ x + 90 ≤ (I (x + 83) 0).toNat ∧ kX4 G (I (x + 83) 0).toNat)
theorem S0_c {G : rc_G} {x : Nat} {I J : rc_M} (h : J (x + 83) = I (x + 83)) (s : S0 G x I) : S0 G x J := by unfold S0 at *; rw [h]; exact s
theorem g_goes {G : rc_G} {x : Nat} {I : rc_M} {v : rv} {a1 : Int} {post : Int → rc_G → rc_M → Prop} (t1 : kX7 G x) (hx : x + 89 ∈ rc_L G) (E : eA I (x + 1) v) (n : nS v) (h0 : 1 ≤ v 0) (ha : 1 ≤ a1 ∧ a1 ≤ 60) (ht : v 164 ≤ 100000) (Z : S0 G x I)
    (H : ∀ (G1 : rc_G) (J : rc_M), rs_le G G1 → eA J (x + 1) (tPass a1.toNat v) → S0 G1 x J → J (x + 83) 1 = I (x + 83) 1 → (∀ b : Nat, x + 83 < b → b < x + 90 → J b = I b) → post 1 G1 J) : wL_goes G x a1 I post := by
  obtain ⟨V, z162, R, O⟩ := id n
  have s0 := V.1.1
  have t0 : 0 ≤ v 164 := by have := R.2.2.1; omega
  unfold wL_goes wL_goes_0
  refine c_t0 E ?_
  by_cases z : v 163 = 0
  · rw [if_pos ⟨z162, z⟩]
    refine ⟨R_of (by decide), fun _ => ?_, fun q => absurd q (by decide)⟩
    -- the numbers
    obtain ⟨m1, m2, m3⟩ := n_pass a1.toNat n
    have N1 := tPassN_le a1.toNat v
    have N0 : 1 ≤ tPassN a1.toNat v := by
      rw [show a1.toNat = (a1.toNat - 1) + 1 by omega, tPassN_s z]
      have := tPassN_le (a1.toNat - 1) (tTick v)
      omega
    have W : tPass 20000 v = tPass (20000 - a1.toNat) (tPass a1.toNat v) := by rw [← tPass_add]; congr 1; omega
    obtain ⟨w1, w2, w3⟩ := n_pass (20000 - a1.toNat) m1
    rw [← W] at w1 w2 w3
    have N2 := tPassN_le (20000 - a1.toNat) (tPass a1.toNat v)
    have hover : (tPass a1.toNat v 163 = 0 → (tFore (tPass 20000 v) 0 = -100005 ∨ a1 < tFore (tPass 20000 v) 0 - v 164)) ∧ (tPass a1.toNat v 163 ≠ 0 → tFore (tPass 20000 v) 0 = tPass a1.toNat v 164) ∧ (tFore (tPass 20000 v) 0 = -100005 ∨ (0 ≤ tFore (tPass 20000 v) 0 ∧ tFore (tPass 20000 v) 0 ≤ 200000)) := by
      unfold tFore
      refine ⟨fun y => ?_, fun y => ?_, ?_⟩
      · by_cases u : tPass 20000 v 163 = 0
        · rw [if_pos u]; exact Or.inl rfl
        · rw [if_neg u, if_pos rfl]
          right
          have g := tPassN_run a1.toNat v y
          have k : 1 ≤ tPassN (20000 - a1.toNat) (tPass a1.toNat v) := by
            rw [show 20000 - a1.toNat = (20000 - a1.toNat - 1) + 1 by omega, tPassN_s y]
            have := tPassN_le (20000 - a1.toNat - 1) (tTick (tPass a1.toNat v))
            omega
          omega
      · have e : tPass 20000 v = tPass a1.toNat v := by rw [W, tPass_ov y]
        rw [e, if_neg y, if_pos rfl]
      · by_cases u : tPass 20000 v 163 = 0
        · rw [if_pos u]; exact Or.inl rfl
        · rw [if_neg u, if_pos rfl]; right; omega
    obtain ⟨o1, o2, o3⟩ := hover
    have eN := tPass_N a1.toNat v
    have mid := fun (j : Nat) => tPass_mid (n := a1.toNat) (j := j) (v := v)
    have u0 : tPass a1.toNat v 0 = v 0 := m2 0 (Or.inl rfl)
    generalize hu : tPass a1.toNat v = u at *
    generalize hN : tPassN a1.toNat v = N at *
    generalize hO : tFore (tPass 20000 v) 0 = over at *
    clear W w1 w2 w3 N2
    obtain ⟨Vu, u162, Ru, Ou⟩ := id m1
    refine c_sum t1 E V (fun I5 E5 F5 => ?_)
    refine c_save E5 V (Or.inl rfl) hx (by rw [F5 _ (by omega)]; exact Z) (fun G9 I7 zr le kz hz j83 jo jb Ez => ?_)
    have t9 := kX7_le le t1
    have E7 : eA I7 (x + 1) v := eA_far V.1 (fun a a0 a1 => jb a (by omega) (by omega)) E5
    refine c_fore t9 E7 V rc_R0 (fun _ _ _ I11 E11 F11 => ?_) (fun _ q => absurd ⟨z162, z⟩ q) (fun q => absurd (by decide) q)
    rw [hO]
    refine c_t1 E11 ?_
    refine c_pass t9 E11 V (R_of (by omega)) (fun _ _ _ I15 E15 V15 F15 => ?_) (fun _ q => absurd ⟨z162, z⟩ q) (fun q => absurd (by omega) q)
    rw [hu] at E15 V15
    rw [hN]
    refine c_sum t9 E15 V15 (fun I17 E17 F17 => ?_)
    have FF : cF x I7 I17 := cF_t (cF_t F11 F15) F17
    refine ⟨R_of (by omega), by omega, R_of (by omega), by omega, R_of (by omega), R_of (by omega), by omega, ?_⟩
    refine c_t1 E17 ⟨R_of (by omega), R_of (by omega), m3, ?_⟩
    refine c_t0 E17 ?_
    -- from the restore on
    have S158 : wL_goes_158 G9 post x a1 (hSum v) (v 0) N (hSum u) I17 := by
      have k83 : I17 (x + 83) 0 = (zr : Int) := by rw [FF _ (by omega)]; exact j83
      have ez : (I17 (x + 83) 0).toNat = zr := by rw [k83]; exact Int.toNat_natCast zr
      unfold wL_goes_158
      refine ⟨by decide, c_restore (w := v) (Or.inl rfl) (by omega) (by omega) (by rw [ez]; exact kz) V (by rw [ez]; exact eA_far V.1 (fun a a0 a1 => FF a (by omega)) Ez) (fun J EJ FJ => ⟨R_of (by omega), R_of (by omega), rfl, c_sum t9 EJ V (fun K EK FK => ⟨rfl, ?_⟩)⟩)⟩
      -- the ticks one by one
      have L : ∀ (d j : Nat) (M : rc_M), (j : Int) + d = N → eA M (x + 1) (tPass j v) → cF x I7 M → rL_goes_199 G9 post x a1 (d + 1) N (hSum u) 1 j M := by
        intro d
        induction d with
        | zero =>
          intro j M hj EM FM
          show wL_goes_199 G9 post x a1 (rL_goes_199 G9 post x a1 0) N (hSum u) 1 j M
          unfold wL_goes_199
          have ej : tPass j v = u := by rw [← eN]; congr 1; omega
          rw [ej] at EM
          refine ⟨R_of (by omega), R_of (by omega), fun _ => ⟨R_of (by decide), by decide, c_sum t9 EM Vu (fun K EK FK => ⟨rfl, ?_⟩)⟩, fun q => absurd (show N ≤ (j : Int) by omega) q⟩
          have FZ := cF_t FM FK
          have q83 : K (x + 83) = I7 (x + 83) := FZ _ (by omega)
          refine H G9 K le EK (Or.inr ?_) (by rw [q83, jo 1 (by decide), F5 _ (by omega)]) (fun b b0 b1 => by rw [FZ b (by omega), jb b b1 (by omega), F5 b (by omega)])
          rw [q83, j83, Int.toNat_natCast]
          exact ⟨by omega, hz, kz⟩
        | succ d ih =>
          intro j M hj EM FM
          show wL_goes_199 G9 post x a1 (rL_goes_199 G9 post x a1 (d + 1)) N (hSum u) 1 j M
          unfold wL_goes_199
          have zj : tPass j v 163 = 0 := mid j (by omega)
          obtain ⟨p1, p2, p3⟩ := n_pass j n
          have N3 := tPassN_le j v
          obtain ⟨k1, k2, k3, k4⟩ := n_tick p1 zj
          have e1 : tPass (j + 1) v = tTick (tPass j v) := by rw [tPass_add 1 j v, tPass_s zj]; rfl
          have eP : tPass (1 : Int).toNat (tPass j v) = tTick (tPass j v) := by show tPass (0 + 1) _ = _; rw [tPass_s zj]; rfl
          have eQ : tPassN (1 : Int).toNat (tPass j v) = 1 := by show tPassN (0 + 1) _ = _; rw [tPassN_s zj]; rfl
          rw [← e1] at k1 k2 k3 k4 eP
          have Rj := p1.2.2.1.2.2.1
          have Rk := k1.2.2.1.2.2.1
          have q165 := k1.1.2.1.2.2.1
          have ihj := fun (K : rc_M) => ih (j + 1) K (by omega)
          clear ih
          generalize tPass j v = vj at *
          generalize tPass (j + 1) v = vk at *
          refine ⟨R_of (by omega), R_of (by omega), fun q => absurd q (by omega), fun _ => ⟨R_of (by decide), by decide, ?_⟩⟩
          refine c_t3 EM (c_pass t9 EM p1.1 ⟨by decide, by decide⟩ (fun _ _ _ K EK VK FK => ?_) (fun _ q => absurd ⟨p1.2.1, zj⟩ q) (fun q => absurd (by decide) q))
          rw [eP] at EK VK
          rw [eQ]
          refine ⟨R_of (by decide), rfl, c_t3 EK (c_t0 EK ?_)⟩
          have S263 : ∀ y0 : Int, vk 166 - vj 166 = y0 → (y0 = 0 ∨ y0 = 1) → wL_goes_263 G9 post x a1 (rL_goes_199 G9 post x a1 (d + 1)) N (hSum u) j y0 (vk 166 - vj 166) K := fun y0 h hy => by
            unfold wL_goes_263
            exact ⟨R_of (by omega), R_of (by omega), h, ihj K EK (cF_t FM FK)⟩
          unfold wL_goes_262
          by_cases zk : vk 163 = 0
          · rw [if_pos ⟨k1.2.1, zk⟩]
            refine ⟨R_of (by decide), fun q => absurd rfl q, fun _ => c_t2 EK (c_p0 t9 EK k1.1.2.1 q165 ⟨?_, fun q => ?_, fun q => ?_⟩)⟩
            · have := (s_f k1 (vk 165) q165).1
              exact R_of (by omega)
            · rw [if_neg (fun y => y.2 q)] at k4; exact S263 0 k4 (Or.inl rfl)
            · rw [if_pos ⟨zk, q⟩] at k4; exact S263 1 k4 (Or.inr rfl)
          · rw [if_neg (fun y => zk y.2)]
            rw [if_neg (fun y => zk y.1)] at k4
            exact ⟨R_of (by decide), fun _ => S263 0 k4 (Or.inl rfl), fun q => absurd q (by decide)⟩
      refine ⟨N.toNat + 1, ?_⟩
      have := L N.toNat 0 K (by omega) EK (cF_t (cF_t FF FJ) FK)
      exact this
    have S136 : ∀ y0 y1 : Int, y1 = y0 → (y0 = 0 ∨ y0 = 1) → wL_goes_136 G9 post x a1 (hSum v) (v 0) over N (hSum u) y0 y1 I17 := fun y0 y1 e h => by
      unfold wL_goes_136
      refine ⟨R_of (by omega), R_of (by omega), e, c_t0 E17 ?_⟩
      by_cases y : u 163 = 0
      · rw [if_pos ⟨u162, y⟩]
        exact ⟨R_of (by decide), fun _ => S158, fun q => absurd rfl q⟩
      · rw [if_neg (fun q => y q.2)]
        have := o2 y
        exact ⟨R_of (by decide), fun _ => S158, fun _ => c_t1 E17 ⟨R_of (by omega), R_of (by omega), this.symm, S158⟩⟩
    have S115 : ∀ y0 : Int, ((y0 = 0 ∧ u 163 = 0) ∨ (y0 = 1 ∧ u 163 ≠ 0)) → wL_goes_115 G9 post x a1 (hSum v) (v 0) over (v 164) N (hSum u) y0 I17 := fun y0 h => by
      unfold wL_goes_115 wL_goes_135
      rcases h with ⟨h, y⟩ | ⟨h, y⟩
      · have := o1 y
        exact ⟨R_of (by omega), fun _ => S136 _ _ h (Or.inl rfl), fun q => ⟨R_of (by omega), R_of (by omega), fun _ => S136 _ _ h (Or.inl rfl), fun q2 => absurd q2 (by omega)⟩⟩
      · have := o2 y
        exact ⟨R_of (by omega), fun q => absurd q (by omega), fun q => ⟨R_of (by omega), R_of (by omega), fun q2 => absurd q2 (by omega), fun _ => S136 _ _ h (Or.inr rfl)⟩⟩
    by_cases y : u 163 = 0
    · rw [if_pos ⟨u162, y⟩]
      exact ⟨R_of (by decide), fun _ => S115 0 (Or.inl ⟨rfl, y⟩), fun q => absurd q (by decide)⟩
    · rw [if_neg (fun q => y q.2)]
      exact ⟨R_of (by decide), fun q => absurd rfl q, fun _ => S115 1 (Or.inr ⟨rfl, y⟩)⟩
  · rw [if_neg (fun q => z q.2)]
    refine ⟨R_of (by decide), fun q => absurd rfl q, fun _ => ?_⟩
    refine c_pass t1 E V (R_of (by omega)) (fun _ _ q => absurd q z) (fun _ _ => ⟨R_of (by decide), rfl, ?_⟩) (fun q => absurd (by omega) q)
    refine c_fore t1 E V rc_R0 (fun _ _ q => absurd q z) (fun _ _ => ⟨R_of (by decide), rfl, ?_⟩) (fun q => absurd (by decide) q)
    exact H G I (rs_le.rf G) (by rw [tPass_ov z]; exact E) Z rfl (fun _ _ _ => rfl)
