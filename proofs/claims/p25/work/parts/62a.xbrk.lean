/-! ===== pure part: a tick of the program, wear and end of a reel ===== -/
theorem eA_str {I : rc_M} {r : Nat} {v : rv} {i k x : Int} (s : wS v) (n6 : 0 ≤ v 174 ∧ v 174 ≤ 6) (E : eA I r v) (hi : 0 ≤ i ∧ i < v 0) (hk : 0 ≤ k ∧ k < v (2 + 14 * i)) : eA (rc_s I (r + 5 + 3 * i.toNat + 2) k x) r (rc_u v (4 + 14 * i + 2 * k) x) := by
  obtain ⟨⟨R0, R1, R2, R3, R4⟩, C, O, P⟩ := E
  have s0 := s.1
  have wi := (s.2.2.2.2 i hi.1 hi.2).2.1
  have uo : ∀ j : Int, j ≠ 4 + 14 * i + 2 * k → rc_u v (4 + 14 * i + 2 * k) x j = v j := fun j hj => rc_u_n _ _ hj
  have us : rc_u v (4 + 14 * i + 2 * k) x (4 + 14 * i + 2 * k) = x := rc_u_s _ _ _
  generalize rc_u v (4 + 14 * i + 2 * k) x = u at *
  have Jo : ∀ a : Nat, a ≠ r + 5 + 3 * i.toNat + 2 → rc_s I (r + 5 + 3 * i.toNat + 2) k x a = I a := fun a ha => qs_n _ _ _ ha
  have Js : ∀ j : Int, rc_s I (r + 5 + 3 * i.toNat + 2) k x (r + 5 + 3 * i.toNat + 2) j = if j = k then x else I (r + 5 + 3 * i.toNat + 2) j := fun j => by rw [qs_s, rc_ue]
  generalize rc_s I (r + 5 + 3 * i.toNat + 2) k x = J at *
  refine ⟨⟨by rw [Jo _ (by omega), uo 0 (by omega)]; exact R0, by rw [Jo _ (by omega), uo 149 (by omega)]; exact R1, fun q q0 q1 => by rw [Jo _ (by omega), uo _ (by omega)]; exact R2 q q0 q1, fun q q0 q1 => ?_, fun n n0 n1 => ?_⟩, ?_, ?_, fun p hp => ?_⟩
  · rw [uo 149 (by omega)] at q1
    rw [Jo _ (by omega), uo _ (by omega)]; exact R3 q q0 q1
  · rw [uo 0 (by omega)] at n1
    have wn := (s.2.2.2.2 n n0 n1).2.1
    obtain ⟨a, b, c⟩ := R4 n n0 n1
    refine ⟨by rw [Jo _ (by omega), uo _ (by omega)]; exact a, by rw [Jo _ (by omega), uo _ (by omega)]; exact b, fun q q0 q1 => ?_⟩
    rw [uo _ (by omega)] at q1
    have d := c q q0 q1
    refine ⟨by rw [Jo _ (by omega), uo _ (by omega)]; exact d.1, ?_⟩
    by_cases e : n = i
    · subst e
      rw [Js]
      by_cases e2 : q = k
      · rw [if_pos e2, e2, us]
      · rw [if_neg e2, uo _ (by omega)]; exact d.2
    · rw [Jo _ (by omega), uo _ (by omega)]; exact d.2
  · unfold eC
    rw [Jo _ (by omega), uo 162 (by omega), uo 163 (by omega), uo 164 (by omega), uo 165 (by omega), uo 166 (by omega), uo 167 (by omega), uo 168 (by omega), uo 169 (by omega), uo 170 (by omega), uo 171 (by omega)]; exact C
  · exact eO_c ⟨Jo _ (by omega), Jo _ (by omega), Jo _ (by omega)⟩ (uo _ (by omega)) (uo _ (by omega)) (uo _ (by omega)) (fun q q0 q1 => uo _ (by omega)) O
  · exact eP_c (Jo _ (by omega)) (uo _ (by omega)) (uo _ (by omega)) (uo _ (by omega)) (fun q => by rw [uo 162 (by omega), uo 163 (by omega), uo 165 (by omega)] at q; exact q) (P p hp)
theorem qc_n (I : rc_M) {a b c : Nat} (x y n : Int) (h : c ≠ b) : rc_cpy I a b x y n c = I c := by unfold rc_cpy; rw [rc_w_n _ _ h]
theorem qc_s (I : rc_M) (a b : Nat) (x y n j : Int) : rc_cpy I a b x y n b j = if y ≤ j ∧ j < y + n then I a (x + (j - y)) else I b j := by unfold rc_cpy; rw [rc_w_s]
theorem x_addFirst {G : rc_G} {o : Nat} {I : rc_M} {n kd pr : Int} {post : rc_M → Prop} (hn : I o 1 = n) (h0 : 0 ≤ n ∧ n < 8)
    (H : ∀ J : rc_M, (∀ a : Nat, a ≠ o → a ≠ o + 1 → a ≠ o + 2 → J a = I a) → (∀ j : Int, j ≠ 1 → J o j = I o j) → J o 1 = n + 1 → J (o + 1) 0 = kd → J (o + 2) 0 = pr → (∀ k : Int, 0 ≤ k → k < n → J (o + 1) (k + 1) = I (o + 1) k ∧ J (o + 2) (k + 1) = I (o + 2) k) → post J) :
    wX0_addFirst G o kd pr I post := by
  unfold wX0_addFirst
  rw [hn]
  refine ⟨by unfold rc_R; omega, fun c => absurd c (by omega), fun _ => ⟨by omega, fun I4 e4 => ?_⟩⟩
  have i4 : I4 o 1 = n := by rw [e4, qc_n _ _ _ _ (by omega)]; exact hn
  rw [i4]
  refine ⟨by omega, fun I6 e6 I7 e7 I8 e8 I9 e9 => ?_⟩
  have j : ∀ a : Nat, a ≠ o + 1 → a ≠ o + 2 → I8 a = I a := fun a a1 a2 => by rw [e8, qs_n _ _ _ a2, e7, qs_n _ _ _ a1, e6, qc_n _ _ _ _ a2, e4, qc_n _ _ _ _ a1]
  refine H I9 (fun a a0 a1 a2 => by rw [e9, qs_n _ _ _ a0]; exact j a a1 a2) (fun q hq => by rw [e9, qs_s, rc_u_n _ _ hq, j _ (by omega) (by omega)]) (by rw [e9, qs_s, rc_u_s, j _ (by omega) (by omega), hn]) ?_ ?_ (fun k k0 k1 => ⟨?_, ?_⟩)
  · rw [e9, qs_n _ _ _ (by omega), e8, qs_n _ _ _ (by omega), e7, qs_s, rc_u_s]
  · rw [e9, qs_n _ _ _ (by omega), e8, qs_s, rc_u_s]
  · rw [e9, qs_n _ _ _ (by omega), e8, qs_n _ _ _ (by omega), e7, qs_s, rc_u_n _ _ (by omega), e6, qc_n _ _ _ _ (by omega), e4, qc_s, if_pos (by omega), show (0 : Int) + (k + 1 - 1) = k by omega]
  · rw [e9, qs_n _ _ _ (by omega), e8, qs_s, rc_u_n _ _ (by omega), e7, qs_n _ _ _ (by omega), e6, qc_s, if_pos (by omega), show (0 : Int) + (k + 1 - 1) = k by omega, e4, qc_n _ _ _ _ (by omega)]
theorem x_brk {G : rc_G} {r : Nat} {I1 : rc_M} {w : rv} {f : Int} {post : rc_M → Prop} (k5 : kX5 G (r + 35)) (q165 : f = 0 ∨ f = 1) (n174 : 0 ≤ w 174 ∧ w 174 ≤ 6) (sw : wS w) (hb : 0 ≤ w (191 + 4 * (1 - f)) ∧ w (191 + 4 * (1 - f)) ≤ 5) (hs : w (191 + 4 * f) = 3) (w165 : w 165 = f) (E1 : eA I1 r w)
    (H : ∀ J : rc_M, eA J r (tBreak w f) → (∀ a : Nat, (a < r + 35 ∨ r + 40 < a) → J a = I1 a) → post J) :
    ∀ I10 : rc_M, I10 = rc_s I1 (r + 35 + 4 + f.toNat) 0 5 → ∀ I11 : rc_M, I11 = rc_s I10 (r + 35) 5 ((I10 (r + 35) 5) + 1) → wX0_addFirst G (r + 35 + 1) 2 (I11 (r + 35) 7) I11 (fun I12 => wX5_backProjector G (r + 35) I12 (fun r14 I13 => ∃ q15, r14 = some q15 ∧ kX2 G q15 ∧ (rc_R (I13 q15 0) ∧ ((¬ (I13 q15 0) = 2 → post I13) ∧ ((I13 q15 0) = 2 → wX5_backProjector G (r + 35) I13 (fun r19 I18 => ∃ q20, r19 = some q20 ∧ kX2 G q20 ∧ (∀ I21, I21 = rc_s I18 q20 0 1 → post I21))))))) := by
  obtain ⟨uo, u174, u175, ur, uf, uf3, u169, ub⟩ := tBreak_spec (w := w) q165 n174
  generalize tBreak w f = u at *
  have u162 : u 162 = w 162 := uo 162 (by omega) (by omega) (by omega) (by omega) (by omega)
  have u163 : u 163 = w 163 := uo 163 (by omega) (by omega) (by omega) (by omega) (by omega)
  have u164 : u 164 = w 164 := uo 164 (by omega) (by omega) (by omega) (by omega) (by omega)
  have u165 : u 165 = w 165 := uo 165 (by omega) (by omega) (by omega) (by omega) (by omega)
  have u166 : u 166 = w 166 := uo 166 (by omega) (by omega) (by omega) (by omega) (by omega)
  have u167 : u 167 = w 167 := uo 167 (by omega) (by omega) (by omega) (by omega) (by omega)
  have u168 : u 168 = w 168 := uo 168 (by omega) (by omega) (by omega) (by omega) (by omega)
  have u170 : u 170 = w 170 := uo 170 (by omega) (by omega) (by omega) (by omega) (by omega)
  have u171 : u 171 = w 171 := uo 171 (by omega) (by omega) (by omega) (by omega) (by omega)
  have u172 : u 172 = w 172 := uo 172 (by omega) (by omega) (by omega) (by omega) (by omega)
  have u173 : u 173 = w 173 := uo 173 (by omega) (by omega) (by omega) (by omega) (by omega)
  have uf1 : u (192 + 4 * f) = w (192 + 4 * f) := uo _ (by omega) (by omega) (by omega) (by omega) (by omega)
  have uf2 : u (193 + 4 * f) = w (193 + 4 * f) := uo _ (by omega) (by omega) (by omega) (by omega) (by omega)
  have ub1 : u (192 + 4 * (1 - f)) = w (192 + 4 * (1 - f)) := uo _ (by omega) (by omega) (by omega) (by omega) (by omega)
  have ub2 : u (193 + 4 * (1 - f)) = w (193 + 4 * (1 - f)) := uo _ (by omega) (by omega) (by omega) (by omega) (by omega)
  have ulo : ∀ j : Int, 0 ≤ j → j < 162 → u j = w j := fun j _ hj => uo j (by omega) (by omega) (by omega) (by omega) (by omega)
  have h1f : (1 : Int) - f = 0 ∨ (1 : Int) - f = 1 := by omega
  have v0le : u 0 ≤ 10 := by rw [uo 0 (by omega) (by omega) (by omega) (by omega) (by omega)]; exact sw.1.2
  have nff : r + 35 + 4 + f.toNat ≠ r + 35 ∧ r + 35 + 4 + f.toNat ≠ r + 35 + 1 ∧ r + 35 + 4 + f.toNat ≠ r + 35 + 1 + 1 ∧ r + 35 + 4 + f.toNat ≠ r + 35 + 1 + 2 ∧ r + 35 + 4 + f.toNat ≠ r + 35 + 4 + (1 - f).toNat := ⟨by omega, by omega, by omega, by omega, by omega⟩
  have nbb : r + 35 + 4 + (1 - f).toNat ≠ r + 35 ∧ r + 35 + 4 + (1 - f).toNat ≠ r + 35 + 1 ∧ r + 35 + 4 + (1 - f).toNat ≠ r + 35 + 1 + 1 ∧ r + 35 + 4 + (1 - f).toNat ≠ r + 35 + 1 + 2 ∧ r + 35 + 4 + (1 - f).toNat ≠ r + 35 + 4 + f.toNat := ⟨by omega, by omega, by omega, by omega, by omega⟩
  have bf : r + 35 + 4 + f.toNat ≤ r + 40 ∧ r + 35 + 4 + (1 - f).toNat ≤ r + 40 := ⟨by omega, by omega⟩
  have hpf : ∀ p : Int, p = 0 ∨ p = 1 → ¬ p = f → p = 1 - f := fun p hp e => by omega
  have oa : ∀ a : Nat, (a = r + 35 + 1 ∨ a = r + 35 + 1 + 1 ∨ a = r + 35 + 1 + 2) → a ≠ r + 35 ∧ a ≠ r + 35 + 4 + f.toNat ∧ a ≠ r + 35 + 4 + (1 - f).toNat := fun a ha => ⟨by omega, by omega, by omega⟩
  have on : r + 35 ≠ r + 35 + 1 ∧ r + 35 ≠ r + 35 + 1 + 1 ∧ r + 35 ≠ r + 35 + 1 + 2 := ⟨by omega, by omega, by omega⟩
  have hR : rc_R (w (191 + 4 * (1 - f))) := by unfold rc_R; omega
  have h174 : 0 ≤ w 174 ∧ w 174 < 8 := by omega
  have hfar : ∀ a : Nat, (a < r + 35 ∨ r + 40 < a) → a ≠ r + 35 + 4 + (1 - f).toNat ∧ a ≠ r + 35 + 1 ∧ a ≠ r + 35 + 1 + 1 ∧ a ≠ r + 35 + 1 + 2 ∧ a ≠ r + 35 ∧ a ≠ r + 35 + 4 + f.toNat := fun a ha => ⟨by omega, by omega, by omega, by omega, by omega, by omega⟩
  have h3f : (2 : Int) = (3 * f + 2) % 3 ∧ f = (3 * f + 2) / 3 := ⟨by omega, by omega⟩
  clear uo uf3
  obtain ⟨R1, C1, O1, P1⟩ := E1
  have RL : eR I1 r u := eR_c sw (fun _ _ _ => rfl) ulo R1
  have Pb := P1 (1 - f) h1f
  have Pf1 := P1 f q165
  unfold eP at Pb
  obtain ⟨d0, d1, d2, d3, d4, d5, d7, d8, d9⟩ := C1
  obtain ⟨o0, o1, o2, o3⟩ := O1
  clear sw R1 ulo
  generalize hpb : r + 35 + 4 + (1 - f).toNat = pb at *
  generalize hpff : r + 35 + 4 + f.toNat = pf at *
  generalize w (191 + 4 * (1 - f)) = sb at *
  intro I10 e10 I11 e11
  have i11 : ∀ a : Nat, a ≠ r + 35 → a ≠ pf → I11 a = I1 a := fun a a0 a1 => by rw [e11, qs_n _ _ _ a0, e10, qs_n _ _ _ a1]
  have i10s : I10 (r + 35) = I1 (r + 35) := by rw [e10, qs_n _ _ _ nff.1.symm]
  have i11s : ∀ j : Int, j ≠ 5 → I11 (r + 35) j = I1 (r + 35) j := fun j hj => by rw [e11, qs_s, rc_u_n _ _ hj, i10s]
  have i11s5 : I11 (r + 35) 5 = w 169 + 1 := by rw [e11, qs_s, rc_u_s, i10s, d5]
  have i11p : I11 pf = I10 pf := by rw [e11, qs_n _ _ _ nff.1]
  have i11f : I11 pf 0 = 5 := by rw [i11p, e10, qs_s, rc_u_s]
  have i11g : ∀ j : Int, j ≠ 0 → I11 pf j = I1 pf j := fun j hj => by rw [i11p, e10, qs_s, rc_u_n _ _ hj]
  have e11_7 : I11 (r + 35) 7 = f := by rw [i11s 7 (by decide), d7]; exact w165
  have a1 := oa _ (Or.inl rfl)
  have a2 := oa _ (Or.inr (Or.inl rfl))
  have a3 := oa _ (Or.inr (Or.inr rfl))
  rw [e11_7]
  refine x_addFirst (n := w 174) (by rw [i11 _ a1.1 a1.2.1, o1]) h174 (fun I12 j1 j2 j3 j4 j5 j6 => ?_)
  have j1s : I12 (r + 35) = I11 (r + 35) := j1 _ on.1 on.2.1 on.2.2
  have j1f : I12 pf = I11 pf := j1 _ nff.2.1 nff.2.2.1 nff.2.2.2.1
  have e12_7 : I12 (r + 35) 7 = f := by rw [j1s]; exact e11_7
  have pb0 : I12 pb = I1 pb := by rw [j1 _ nbb.2.1 nbb.2.2.1 nbb.2.2.2.1, i11 _ nbb.1 nbb.2.2.2.2]
  have fin : ∀ J : rc_M, (∀ a : Nat, a ≠ pb → J a = I12 a) → (∀ j : Int, j ≠ 0 → J pb j = I1 pb j) → J pb 0 = (if sb = 2 then 1 else sb) → post J := by
    intro J g1 g2 g3
    have gsr : J (r + 35) = I11 (r + 35) := by rw [g1 _ nbb.1.symm, j1s]
    have gs : ∀ j : Int, j ≠ 5 → J (r + 35) j = I1 (r + 35) j := fun j hj => by rw [gsr, i11s j hj]
    have gs5 : J (r + 35) 5 = w 169 + 1 := by rw [gsr, i11s5]
    have gf : J pf = I11 pf := by rw [g1 _ nff.2.2.2.2, j1f]
    have go1 : ∀ j : Int, j ≠ 1 → J (r + 35 + 1) j = I1 (r + 35 + 1) j := fun j hj => by rw [g1 _ a1.2.2, j2 j hj, i11 _ a1.1 a1.2.1]
    have far : ∀ a : Nat, (a < r + 35 ∨ r + 40 < a) → J a = I1 a := fun a ha => by
      obtain ⟨y1, y2, y3, y4, y5, y6⟩ := hfar a ha
      rw [g1 a y1, j1 a y2 y3 y4, i11 a y5 y6]
    refine H J ⟨?_, ?_, ?_, fun p hp => ?_⟩ far
    · obtain ⟨x1, x2, x3, x4, x5⟩ := RL
      have y : ∀ a : Nat, a < r + 35 → J a = I1 a := fun a ha => far a (Or.inl ha)
      refine ⟨by rw [y _ (by omega)]; exact x1, by rw [y _ (by omega)]; exact x2, fun k k0 k1 => by rw [y _ (by omega)]; exact x3 k k0 k1, fun k k0 k1 => by rw [y _ (by omega)]; exact x4 k k0 k1, fun i i0 i1 => ?_⟩
      have z := x5 i i0 i1
      have i10 : i.toNat < 10 := by omega
      unfold eL
      rw [y _ (by omega), y _ (by omega), y _ (by omega)]; exact z
    · unfold eC
      rw [gs 0 (by decide), gs 1 (by decide), gs 2 (by decide), gs 3 (by decide), gs 4 (by decide), gs 7 (by decide), gs 8 (by decide), gs 9 (by decide), gs5, u169, u162, u163, u164, u165, u166, u167, u168, u170, u171]
      exact ⟨d0, d1, d2, d3, d4, rfl, d7, d8, d9⟩
    · unfold eO
      rw [go1 0 (by decide), go1 2 (by decide), go1 3 (by decide), g1 (r + 35 + 1) a1.2.2, g1 (r + 35 + 1 + 1) a2.2.2, g1 (r + 35 + 1 + 2) a3.2.2, j3, u174, u172, u173]
      refine ⟨o0, rfl, o2, fun n n0 n1 => ?_⟩
      rcases Int.lt_or_eq_of_le n0 with y | y
      · have a := j6 (n - 1) (by omega) (by omega)
        rw [show n - 1 + 1 = n by omega] at a
        have b := o3 (n - 1) (by omega) (by omega)
        have c := ur (n - 1) (by omega) (by omega)
        rw [show (176 : Int) + (n - 1) = 175 + n by omega] at c
        rw [a.1, a.2, c, i11 _ a2.1 a2.2.1, i11 _ a3.1 a3.2.1]; exact b
      · rw [← y, j4, j5, show (175 : Int) + 0 = 175 by decide, u175]; exact h3f
    · by_cases e : p = f
      · subst e
        rw [hpff]
        unfold eP
        rw [gf, i11f, i11g 1 (by decide), i11g 2 (by decide), uf, uf1, uf2]
        exact ⟨rfl, fun _ => Pf1.2.1 (Or.inl (by rw [hs]; decide)), fun _ => Pf1.2.2 (Or.inr (Or.inl hs))⟩
      · rw [hpf p hp e, hpb]
        unfold eP
        rw [g3, g2 1 (by decide), g2 2 (by decide), ub, u162, u163, u165, ub1, ub2]
        by_cases y : sb = 2
        · rw [if_pos y]
          exact ⟨rfl, fun _ => Pb.2.1 (Or.inl (by omega)), fun q => by omega⟩
        · rw [if_neg y]
          exact ⟨rfl, Pb.2.1, Pb.2.2⟩
  refine x_back k5 q165 e12_7 ⟨_, rfl, k2_of k5 h1f, ?_⟩
  rw [hpb, pb0, Pb.1]
  refine ⟨hR, fun y => ?_, fun y => ?_⟩
  · exact fin I12 (fun _ _ => rfl) (fun j _ => by rw [pb0]) (by rw [pb0, Pb.1, if_neg y])
  · refine x_back k5 q165 e12_7 ⟨_, rfl, k2_of k5 h1f, fun I21 e21 => ?_⟩
    rw [hpb] at e21
    exact fin I21 (fun a ha => by rw [e21, qs_n _ _ _ ha]) (fun j hj => by rw [e21, qs_s, rc_u_n _ _ hj, pb0]) (by rw [e21, qs_s, rc_u_s, if_pos y])
