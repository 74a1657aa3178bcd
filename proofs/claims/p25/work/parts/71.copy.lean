/-! ===== pure part: a room is copied ===== -/
theorem x_reelcopy {G : rc_G} {q q0 : Nat} {J : rc_M} {post : rc_M → Prop} (hq : q + 2 < q0 ∨ q0 + 2 < q)
    (H : ∀ K : rc_M, (∀ a : Nat, a ≠ q → a ≠ q + 1 → a ≠ q + 2 → K a = J a) → K q 0 = J q0 0 → K q 1 = J q0 1 → (∀ k : Int, 0 ≤ k → k < 6 → K (q + 1) k = J (q0 + 1) k ∧ K (q + 2) k = J (q0 + 2) k) → post K) : wX3_copyFrom G q q0 J post := by
  unfold wX3_copyFrom
  intro I1 e1 I2 e2
  refine ⟨by decide, fun I4 e4 => ⟨by decide, fun I6 e6 => ?_⟩⟩
  have a1 : I1 q0 1 = J q0 1 := by rw [e1, qs_n _ _ _ (by omega)]
  rw [a1] at e2
  have o2 : ∀ a : Nat, a ≠ q → I2 a = J a := fun a ha => by rw [e2, qs_n _ _ _ ha, e1, qs_n _ _ _ ha]
  refine H I6 (fun a a0 a1 a2 => by rw [e6, qc_n _ _ _ _ a2, e4, qc_n _ _ _ _ a1, o2 a a0]) ?_ ?_ (fun k k0 k1 => ⟨?_, ?_⟩)
  · rw [e6, qc_n _ _ _ _ (by omega), e4, qc_n _ _ _ _ (by omega), e2, qs_s, rc_u_n _ _ (by decide), e1, qs_s, rc_u_s]
  · rw [e6, qc_n _ _ _ _ (by omega), e4, qc_n _ _ _ _ (by omega), e2, qs_s, rc_u_s]
  · rw [e6, qc_n _ _ _ _ (by omega), e4, qc_s, if_pos (by omega), o2 _ (by omega), show (0 : Int) + (k - 0) = k by omega]
  · rw [e6, qc_s, if_pos (by omega), e4, qc_n _ _ _ _ (by omega), o2 _ (by omega), show (0 : Int) + (k - 0) = k by omega]
theorem x_take {G : rc_G} {r a1 : Nat} {J : rc_M} {n : Int} {post : rc_M → Prop} (hn : 0 ≤ n ∧ n ≤ 12) (h1 : a1 ≠ r + 1) (h4 : a1 ≠ r + 4)
    (H : ∀ K : rc_M, (∀ a : Nat, a ≠ r + 1 → a ≠ r + 4 → K a = J a) → (∀ j : Int, j ≠ 1 → K (r + 1) j = J (r + 1) j) → K (r + 1) 1 = n → (∀ k : Int, 0 ≤ k → k < n → K (r + 4) k = J a1 k) → post K) : wX6_takeProgram G (r + 1) a1 n J post := by
  have L : ∀ (d : Nat) (x : Int) (K : rc_M), 0 ≤ x → n - x = d → (∀ a : Nat, a ≠ r + 1 → a ≠ r + 4 → K a = J a) → (∀ j : Int, j ≠ 1 → K (r + 1) j = J (r + 1) j) → K (r + 1) 1 = n → (∀ k : Int, 0 ≤ k → k < x → K (r + 4) k = J a1 k) → rX6_takeProgram_12 G post (r + 1) a1 n (d + 1) x K := by
    intro d
    induction d with
    | zero =>
      intro x K x0 hd f1 f2 f3 f4
      show wX6_takeProgram_12 G post (r + 1) a1 n _ x K
      unfold wX6_takeProgram_12
      rw [f3]
      exact ⟨by unfold rc_R; omega, by unfold rc_R; omega, fun _ => H K f1 f2 f3 (fun k k0 k1 => f4 k k0 (by omega)), fun q => absurd q (by omega)⟩
    | succ d ih =>
      intro x K x0 hd f1 f2 f3 f4
      show wX6_takeProgram_12 G post (r + 1) a1 n (rX6_takeProgram_12 G post (r + 1) a1 n (d + 1)) x K
      unfold wX6_takeProgram_12
      rw [f3]
      refine ⟨by unfold rc_R; omega, by unfold rc_R; omega, fun q => absurd q (by omega), fun _ => ⟨by unfold rc_R; omega, fun q => absurd q (by omega), fun _ => ⟨by omega, by omega, fun I10 e10 => ?_⟩⟩⟩
      rw [f1 a1 h1 h4] at e10
      have e10' : I10 = rc_s K (r + 4) x (J a1 x) := e10
      refine ih (x + 1) I10 (by omega) (by omega) (fun a a0 a4 => by rw [e10', qs_n _ _ _ a4]; exact f1 a a0 a4) (fun j hj => by rw [e10', qs_n _ _ _ (by omega)]; exact f2 j hj) (by rw [e10', qs_n _ _ _ (by omega)]; exact f3) (fun k k0 k1 => ?_)
      rw [e10', qs_s, rc_ue]
      by_cases c : k = x
      · rw [if_pos c, c]
      · rw [if_neg c]; exact f4 k k0 (by omega)
  unfold wX6_takeProgram
  refine ⟨by unfold rc_R; omega, fun I2 e2 => ⟨n.toNat + 1, ?_⟩⟩
  rw [show min n 12 = n by omega] at e2
  exact L n.toNat 0 I2 (by omega) (by omega) (fun a a0 _ => by rw [e2, qs_n _ _ _ a0]) (fun j hj => by rw [e2, qs_s, rc_u_n _ _ hj]) (by rw [e2, qs_s, rc_u_s]) (fun k k0 k1 => absurd k1 (by omega))
theorem x_stockcopy {G : rc_G} {r r0 : Nat} {I : rc_M} {v : rv} {post : rc_M → Prop} (hr : r + 40 < r0 ∨ r0 + 40 < r) (s : wS v) (R : eR I r0 v)
    (H : ∀ J : rc_M, eR J r v → (∀ a : Nat, a < r + 1 ∨ r + 34 < a → J a = I a) → post J) : wX6_copyFrom G (r + 1) (r0 + 1) I post := by
  have s0 := s.1
  have s1 := s.2.1
  have L : ∀ (d : Nat) (x : Int) (J : rc_M), 0 ≤ x → 10 - x = d → (∀ a : Nat, a < r + 1 ∨ r + 34 < a → J a = I a) → J (r + 1) 0 = v 0 → (∀ i : Int, 0 ≤ i → i < x → i < v 0 → eL J (r + 5 + 3 * i.toNat) v i) → rX6_copyFrom_10 G post (r + 1) (r0 + 1) (d + 1) x J := by
    intro d
    induction d with
    | zero =>
      intro x J x0 hd f1 f2 f3
      show wX6_copyFrom_10 G post (r + 1) (r0 + 1) _ x J
      unfold wX6_copyFrom_10
      refine ⟨by unfold rc_R; omega, fun _ => ⟨by decide, fun I5 e5 => ?_⟩, fun q => absurd q (by omega)⟩
      have e5' : I5 = rc_cpy J (r0 + 3) (r + 3) 0 0 8 := e5
      have g : ∀ a : Nat, a ≠ r + 3 → I5 a = J a := fun a ha => by rw [e5', qc_n _ _ _ _ ha]
      have n5 : I5 (r0 + 1) 1 = v 149 := by rw [g _ (by omega), f1 _ (by omega)]; exact R.2.1
      rw [n5]
      have e13 : r0 + 1 + 3 = r0 + 4 := by omega
      rw [e13]
      refine x_take (by omega) (by omega) (by omega) (fun K k1 k2 k3 k4 => ?_)
      refine H K ⟨?_, k3, fun k k0 k8 => ?_, fun k k0 kn => ?_, fun i i0 i1 => ?_⟩ (fun a ha => by rw [k1 a (by omega) (by omega), g a (by omega)]; exact f1 a ha)
      · rw [k2 0 (by decide), g _ (by omega)]; exact f2
      · rw [k1 _ (by omega) (by omega), e5', qc_s, if_pos (by omega), f1 _ (by omega), show (0 : Int) + (k - 0) = k by omega]; exact R.2.2.1 k k0 k8
      · rw [k4 k k0 kn, g _ (by omega), f1 _ (by omega)]; exact R.2.2.2.1 k k0 kn
      · have a := f3 i i0 (by omega) i1
        unfold eL
        rw [k1 _ (by omega) (by omega), k1 (r + 5 + 3 * i.toNat + 1) (by omega) (by omega), k1 (r + 5 + 3 * i.toNat + 2) (by omega) (by omega), g _ (by omega), g (r + 5 + 3 * i.toNat + 1) (by omega), g (r + 5 + 3 * i.toNat + 2) (by omega)]; exact a
    | succ d ih =>
      intro x J x0 hd f1 f2 f3
      show wX6_copyFrom_10 G post (r + 1) (r0 + 1) (rX6_copyFrom_10 G post (r + 1) (r0 + 1) (d + 1)) x J
      unfold wX6_copyFrom_10
      refine ⟨by unfold rc_R; omega, fun q => absurd q (by omega), fun _ => ⟨by omega, by omega, by omega, ?_⟩⟩
      rw [show r + 1 + 1 + 3 + 3 * x.toNat = r + 5 + 3 * x.toNat by omega, show r0 + 1 + 1 + 3 + 3 * x.toNat = r0 + 5 + 3 * x.toNat by omega]
      refine x_reelcopy (by omega) (fun K k1 k2 k3 k4 => ?_)
      unfold wX6_copyFrom_46
      refine ih (x + 1) K (by omega) (by omega) (fun a ha => by rw [k1 a (by omega) (by omega) (by omega)]; exact f1 a ha) (by rw [k1 _ (by omega) (by omega) (by omega)]; exact f2) (fun i i0 i1 i2 => ?_)
      by_cases c : i = x
      · subst c
        obtain ⟨a, b, c⟩ := R.2.2.2.2 i i0 i2
        have w2 := (s.2.2.2.2 i i0 i2).2.1
        refine ⟨by rw [k2, f1 _ (by omega)]; exact a, by rw [k3, f1 _ (by omega)]; exact b, fun k k0 kn => ?_⟩
        have d := k4 k k0 (by omega)
        rw [d.1, d.2, f1 _ (by omega), f1 _ (by omega)]; exact c k k0 kn
      · have a := f3 i i0 (by omega) i2
        unfold eL
        rw [k1 _ (by omega) (by omega) (by omega), k1 (r + 5 + 3 * i.toNat + 1) (by omega) (by omega) (by omega), k1 (r + 5 + 3 * i.toNat + 2) (by omega) (by omega) (by omega)]; exact a
  unfold wX6_copyFrom
  intro I1 e1
  rw [R.1] at e1
  exact ⟨11, L 10 0 I1 (by omega) (by omega) (fun a ha => by rw [e1, qs_n _ _ _ (by omega)]) (by rw [e1, qs_s, rc_u_s]) (fun i i0 i1 => absurd i1 (by omega))⟩
theorem x_showcopy {G : rc_G} {s s0 : Nat} {I : rc_M} {v : rv} {post : rc_M → Prop} (hr : s + 5 < s0 ∨ s0 + 5 < s) (hh : wH v) (E : eS I s0 v)
    (H : ∀ J : rc_M, eS J s v → (∀ a : Nat, a < s ∨ s + 5 < a → J a = I a) → post J) : wX5_copyFrom G s s0 I post := by
  obtain ⟨q162, q163, q165, q171, q172, q173, q174, qrow, q191, q195⟩ := id hh
  obtain ⟨⟨c0, c1, c2, c3, c4, c5, c7, c8, c9⟩, O, P⟩ := E
  have d1 : s0 ≠ s := by omega
  have d2 : s0 + 1 ≠ s ∧ s0 + 2 ≠ s ∧ s0 + 3 ≠ s ∧ s0 + 4 ≠ s ∧ s0 + 5 ≠ s := by omega
  have b0 : I s0 0 = 0 ∨ I s0 0 = 1 := by
    rw [c0]
    by_cases z : v 162 = 1 ∧ v 163 = 0
    · rw [if_pos z]; exact Or.inr rfl
    · rw [if_neg z]; exact Or.inl rfl
  unfold wX5_copyFrom
  refine ⟨b0, fun I2 e2 I3 e3 I4 e4 I5 e5 I6 e6 I7 e7 => ?_⟩
  have z2 : I2 s0 = I s0 := by rw [e2, qs_n _ _ _ d1]
  have z3 : I3 s0 = I s0 := by rw [e3, qs_n _ _ _ d1, z2]
  have z4 : I4 s0 = I s0 := by rw [e4, qs_n _ _ _ d1, z3]
  have z5 : I5 s0 = I s0 := by rw [e5, qs_n _ _ _ d1, z4]
  have z6 : I6 s0 = I s0 := by rw [e6, qs_n _ _ _ d1, z5]
  have z7 : I7 s0 = I s0 := by rw [e7, qs_n _ _ _ d1, z6]
  rw [z2] at e3
  rw [z3] at e4
  rw [z4] at e5
  rw [z5] at e6
  rw [z6] at e7
  have g7 : ∀ a : Nat, a ≠ s → I7 a = I a := fun a ha => by rw [e7, qs_n _ _ _ ha, e6, qs_n _ _ _ ha, e5, qs_n _ _ _ ha, e4, qs_n _ _ _ ha, e3, qs_n _ _ _ ha, e2, qs_n _ _ _ ha]
  have s7 : I7 s = rc_u (rc_u (rc_u (rc_u (rc_u (rc_u (I s) 0 (I s0 0)) 1 (I s0 1)) 2 (I s0 2)) 3 (I s0 3)) 4 (I s0 4)) 5 (I s0 5) := by rw [e7, qs_s, e6, qs_s, e5, qs_s, e4, qs_s, e3, qs_s, e2, qs_s]
  clear e2 e3 e4 e5 e6 e7 z2 z3 z4 z5 z6
  unfold wX0_copyFrom
  intro K1 f1 K2 f2 K3 f3 K4 f4
  have y1 : K1 (s0 + 1) = I (s0 + 1) := by rw [f1, qs_n _ _ _ (by omega), g7 _ d2.1]
  have y2 : K2 (s0 + 1) = I (s0 + 1) := by rw [f2, qs_n _ _ _ (by omega), y1]
  have y3 : K3 (s0 + 1) = I (s0 + 1) := by rw [f3, qs_n _ _ _ (by omega), y2]
  rw [g7 _ d2.1] at f1
  rw [y1] at f2
  rw [y2] at f3
  rw [y3] at f4
  have h4 : ∀ a : Nat, a ≠ s + 1 → K4 a = I7 a := fun a ha => by rw [f4, qs_n _ _ _ ha, f3, qs_n _ _ _ ha, f2, qs_n _ _ _ ha, f1, qs_n _ _ _ ha]
  have o4 : K4 (s + 1) = rc_u (rc_u (rc_u (rc_u (I7 (s + 1)) 0 (I (s0 + 1) 0)) 1 (I (s0 + 1) 1)) 2 (I (s0 + 1) 2)) 3 (I (s0 + 1) 3) := by rw [f4, qs_s, f3, qs_s, f2, qs_s, f1, qs_s]
  clear f1 f2 f3 f4 y1 y2 y3
  refine ⟨by decide, fun K6 f6 => ⟨by decide, fun K8 f8 => ?_⟩⟩
  have k8 : ∀ a : Nat, a ≠ s + 1 → a ≠ s + 1 + 1 → a ≠ s + 1 + 2 → K8 a = I7 a := fun a a0 a1 a2 => by rw [f8, qc_n _ _ _ _ a2, f6, qc_n _ _ _ _ a1, h4 a a0]
  have o8 : K8 (s + 1) = K4 (s + 1) := by rw [f8, qc_n _ _ _ _ (by omega), f6, qc_n _ _ _ _ (by omega)]
  have r1 : ∀ k : Int, 0 ≤ k → k < 8 → K8 (s + 1 + 1) k = I (s0 + 1 + 1) k := fun k k0 k1 => by rw [f8, qc_n _ _ _ _ (by omega), f6, qc_s, if_pos (by omega), h4 _ (by omega), g7 _ (by omega), show (0 : Int) + (k - 0) = k by omega]
  have r2 : ∀ k : Int, 0 ≤ k → k < 8 → K8 (s + 1 + 2) k = I (s0 + 1 + 2) k := fun k k0 k1 => by rw [f8, qc_s, if_pos (by omega), f6, qc_n _ _ _ _ (by omega), h4 _ (by omega), g7 _ (by omega), show (0 : Int) + (k - 0) = k by omega]
  have m8 : K8 s0 = I s0 := by rw [k8 _ (by omega) (by omega) (by omega)]; exact z7
  intro I9 e9 I10 e10
  have z9 : I9 s0 = I s0 := by rw [e9, qs_n _ _ _ d1, m8]
  have z10 : I10 s0 = I s0 := by rw [e10, qs_n _ _ _ d1, z9]
  rw [m8] at e9
  rw [z9] at e10
  rw [z10]
  refine ⟨by rw [c9]; exact q171, fun I12 e12 => ?_⟩
  have g12 : ∀ a : Nat, a ≠ s → I12 a = K8 a := fun a ha => by rw [e12, qs_n _ _ _ ha, e10, qs_n _ _ _ ha, e9, qs_n _ _ _ ha]
  have s12 : I12 s = rc_u (rc_u (rc_u (I7 s) 7 (I s0 7)) 8 (I s0 8)) 9 (I s0 9) := by rw [e12, qs_s, e10, qs_s, e9, qs_s, k8 _ (by omega) (by omega) (by omega)]
  clear e9 e10 e12 z9 z10 f6 f8
  unfold wX2_copyFrom
  intro A1 a1 A2 a2 A3 a3 B1 b1 B2 b2 B3 b3
  have p4 : ∀ a : Nat, a ≠ s → a ≠ s + 1 → a ≠ s + 1 + 1 → a ≠ s + 1 + 2 → I12 a = I a := fun a x0 x1 x2 x3 => by rw [g12 a x0, k8 a x1 x2 x3, g7 a x0]
  have l4 : I12 (s0 + 4) = I (s0 + 4) := p4 _ (by omega) (by omega) (by omega) (by omega)
  have l5 : I12 (s0 + 5) = I (s0 + 5) := p4 _ (by omega) (by omega) (by omega) (by omega)
  have t1 : A1 (s0 + 4) = I (s0 + 4) := by rw [a1, qs_n _ _ _ (by omega), l4]
  have t2 : A2 (s0 + 4) = I (s0 + 4) := by rw [a2, qs_n _ _ _ (by omega), t1]
  rw [l4] at a1
  rw [t1] at a2
  rw [t2] at a3
  have A3o : ∀ a : Nat, a ≠ s + 4 → A3 a = I12 a := fun a ha => by rw [a3, qs_n _ _ _ ha, a2, qs_n _ _ _ ha, a1, qs_n _ _ _ ha]
  have A3s : A3 (s + 4) = rc_u (rc_u (rc_u (I12 (s + 4)) 0 (I (s0 + 4) 0)) 1 (I (s0 + 4) 1)) 2 (I (s0 + 4) 2) := by rw [a3, qs_s, a2, qs_s, a1, qs_s]
  have t3 : A3 (s0 + 5) = I (s0 + 5) := by rw [A3o _ (by omega), l5]
  have t4 : B1 (s0 + 5) = I (s0 + 5) := by rw [b1, qs_n _ _ _ (by omega), t3]
  have t5 : B2 (s0 + 5) = I (s0 + 5) := by rw [b2, qs_n _ _ _ (by omega), t4]
  rw [t3] at b1
  rw [t4] at b2
  rw [t5] at b3
  have Bo : ∀ a : Nat, a ≠ s + 5 → B3 a = A3 a := fun a ha => by rw [b3, qs_n _ _ _ ha, b2, qs_n _ _ _ ha, b1, qs_n _ _ _ ha]
  have Bs : B3 (s + 5) = rc_u (rc_u (rc_u (A3 (s + 5)) 0 (I (s0 + 5) 0)) 1 (I (s0 + 5) 1)) 2 (I (s0 + 5) 2) := by rw [b3, qs_s, b2, qs_s, b1, qs_s]
  clear a1 a2 a3 b1 b2 b3 t1 t2 t3 t4 t5
  have fs : B3 s = I12 s := by rw [Bo _ (by omega), A3o _ (by omega)]
  have fo : B3 (s + 1) = K4 (s + 1) := by rw [Bo _ (by omega), A3o _ (by omega), g12 _ (by omega), o8]
  have f1 : B3 (s + 1 + 1) = K8 (s + 1 + 1) := by rw [Bo _ (by omega), A3o _ (by omega), g12 _ (by omega)]
  have f2 : B3 (s + 1 + 2) = K8 (s + 1 + 2) := by rw [Bo _ (by omega), A3o _ (by omega), g12 _ (by omega)]
  have f4 : B3 (s + 4) = A3 (s + 4) := Bo _ (by omega)
  refine H B3 ⟨?_, ?_, fun p hp => ?_⟩ (fun a ha => by rw [Bo a (by omega), A3o a (by omega), p4 a (by omega) (by omega) (by omega) (by omega)])
  · unfold eC
    rw [fs, s12, s7]
    simp only [rc_ue]
    refine ⟨?_, ?_, ?_, ?_, ?_, ?_, ?_, ?_, ?_⟩
    · simpa using c0
    · simpa using c1
    · simpa using c2
    · simpa using c3
    · simpa using c4
    · simpa using c5
    · simpa using c7
    · simpa using c8
    · simpa using c9
  · obtain ⟨o0, o1, o2, o3⟩ := O
    unfold eO
    rw [fo, f1, f2, o4]
    simp only [rc_ue]
    refine ⟨by simpa using o0, by simpa using o1, fun q => by simpa using o2 q, fun k k0 k1 => ?_⟩
    rw [r1 k k0 (by omega), r2 k k0 (by omega)]; exact o3 k k0 k1
  · have w := P p hp
    rcases hp with rfl | rfl
    · change eP I (s0 + 4) v 0 at w
      show eP B3 (s + 4) v 0
      obtain ⟨w0, w1, w2⟩ := w
      unfold eP
      rw [f4, A3s]
      simp only [rc_ue]
      exact ⟨by simpa using w0, fun q => by simpa using w1 q, fun q => by simpa using w2 q⟩
    · change eP I (s0 + 5) v 1 at w
      show eP B3 (s + 5) v 1
      obtain ⟨w0, w1, w2⟩ := w
      unfold eP
      rw [Bs]
      simp only [rc_ue]
      exact ⟨by simpa using w0, fun q => by simpa using w1 q, fun q => by simpa using w2 q⟩
theorem x_copy {G : rc_G} {r r0 : Nat} {I : rc_M} {v : rv} {post : rc_M → Prop} (hr : r + 40 < r0 ∨ r0 + 40 < r) (s : wS v) (hh : wH v) (E : eA I r0 v) (H : ∀ J : rc_M, eA J r v → eF r I J → post J) : wX4_copyFrom G r r0 I post := by
  unfold wX4_copyFrom
  refine x_stockcopy hr s E.1 (fun J RJ FJ => ?_)
  have n6 := hh.2.2.2.2.2.2.1.2
  have ES : eS J (r0 + 35) v := (eA_far (r := r0) (J := J) s (fun a a0 a1 => FJ a (by omega)) E).2
  refine x_showcopy (by omega) hh ES (fun K EK FK => H K ⟨eR_c s (fun a a0 a1 => FK a (by omega)) (fun _ _ _ => rfl) RJ, EK⟩ (fun a ha => by rw [FK a (by omega), FJ a (by omega)]))
