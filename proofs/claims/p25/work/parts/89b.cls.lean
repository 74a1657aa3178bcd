/-! ===== the class alone: a reel made, splices, the program ===== -/
theorem c_makeE {G : rc_G} {x : Nat} {I : rc_M} {a : Int} {post : Int → rc_M → Prop} (ha : rc_R a) (hz : ¬ (100 ≤ a ∧ a ≤ 3000)) (h : post (-100002) I) : wX7_makeReel G x a I post := by
  unfold wX7_makeReel
  refine x_within ha (by unfold rc_R; omega) (by unfold rc_R; omega) ?_
  rw [if_neg hz]
  exact ⟨rc_R0, fun q => absurd rfl q, fun _ => h⟩
theorem c_make {G : rc_G} {x : Nat} {I : rc_M} {v : rv} {a : Int} {post : Int → rc_M → Prop} (t1 : kX7 G x) (E : eA I (x + 1) v) (V : tV v) (c : 100 ≤ a ∧ a ≤ 3000) (c9 : v 0 < 10)
    (h : ∀ B : rc_M, eA B (x + 1) (rc_u (rc_u (rc_u v (1 + 14 * v 0) a) (2 + 14 * v 0) 0) 0 (v 0 + 1)) → tV (rc_u (rc_u (rc_u v (1 + 14 * v 0) a) (2 + 14 * v 0) 0) 0 (v 0 + 1)) → cF x I B → post (v 0) B) : wX7_makeReel G x a I post := by
  have s0 := V.1.1
  have n6 := V.2.1.2.2.2.2.2.2.1.2
  have i0 : I (x + 1 + 1) 0 = v 0 := E.1.1
  unfold wX7_makeReel
  refine x_within (by unfold rc_R; omega) (by unfold rc_R; omega) (by unfold rc_R; omega) ?_
  rw [if_pos c]
  refine ⟨by unfold rc_R; omega, fun _ => ?_, fun q => absurd q (by decide)⟩
  unfold wX6_addReel
  rw [i0]
  refine ⟨by unfold rc_R; omega, fun d I3 e3 => ?_, fun d => ?_⟩
  · unfold wX6_reelNumbered
    have j0 : I3 (x + 1 + 1) 0 = v 0 + 1 := by rw [e3, qs_s, rc_u_s]
    rw [j0]
    refine ⟨by unfold rc_R; omega, fun q => absurd q (by omega), fun _ => ⟨by unfold rc_R; omega, by unfold rc_R; omega, fun q => absurd q (by omega), fun _ => ⟨by unfold rc_R; omega, fun q => absurd q (by omega), fun _ => ⟨by omega, fun y => (by cases y), fun q y => ?_⟩⟩⟩⟩
    have eq : q = x + 1 + 5 + 3 * (v 0).toNat := by injection y with y; omega
    refine ⟨by rw [eq]; exact k3_of t1.2.1.2.1 (by omega), ?_⟩
    unfold wX3_renew
    intro A e4 B e5
    have uo : ∀ j : Int, j ≠ 1 + 14 * v 0 → j ≠ 2 + 14 * v 0 → j ≠ 0 → rc_u (rc_u (rc_u v (1 + 14 * v 0) a) (2 + 14 * v 0) 0) 0 (v 0 + 1) j = v j := fun j h1 h2 h3 => by rw [rc_u_n _ _ h3, rc_u_n _ _ h2, rc_u_n _ _ h1]
    have u1 : rc_u (rc_u (rc_u v (1 + 14 * v 0) a) (2 + 14 * v 0) 0) 0 (v 0 + 1) (1 + 14 * v 0) = a := by rw [rc_u_n _ _ (by omega), rc_u_n _ _ (by omega), rc_u_s]
    have u2 : rc_u (rc_u (rc_u v (1 + 14 * v 0) a) (2 + 14 * v 0) 0) 0 (v 0 + 1) (2 + 14 * v 0) = 0 := by rw [rc_u_n _ _ (by omega), rc_u_s]
    have u0 : rc_u (rc_u (rc_u v (1 + 14 * v 0) a) (2 + 14 * v 0) 0) 0 (v 0 + 1) 0 = v 0 + 1 := rc_u_s _ _ _
    have F : eF (x + 1) I B := by rw [e5, e4, e3]; exact eF_s (eF_s (eF_s (eF_r _ I) (by omega)) (by omega)) (by omega)
    have Bo : ∀ b : Nat, b ≠ x + 2 → b ≠ q → B b = I b := fun b h1 h2 => by rw [e5, qs_n _ _ _ h2, e4, qs_n _ _ _ h2, e3, qs_n _ _ _ h1]
    have B2 : ∀ j : Int, B (x + 2) j = if j = 0 then v 0 + 1 else I (x + 2) j := fun j => by rw [e5, qs_n _ _ _ (by omega), e4, qs_n _ _ _ (by omega), e3, qs_s, rc_ue]
    have Bq : B q 0 = a ∧ B q 1 = 0 := ⟨by rw [e5, qs_s, rc_u_n _ _ (by decide), e4, qs_s, rc_u_s], by rw [e5, qs_s, rc_u_s]⟩
    generalize hu : rc_u (rc_u (rc_u v (1 + 14 * v 0) a) (2 + 14 * v 0) 0) 0 (v 0 + 1) = u at *
    have EB : eA B (x + 1) u := by
      obtain ⟨⟨R0, R1, R2, R3, R4⟩, C, O, P⟩ := E
      have s1 := V.1.2.1
      refine ⟨⟨by rw [B2, if_pos rfl, u0], by rw [B2, if_neg (by decide), uo 149 (by omega) (by omega) (by decide)]; exact R1, fun j j0 j1 => by rw [Bo _ (by omega) (by omega), uo _ (by omega) (by omega) (by omega)]; exact R2 j j0 j1, fun j j0 j1 => ?_, fun i i0 i1 => ?_⟩, eC_c (Bo _ (by omega) (by omega)) (fun j j0 j1 => uo j (by omega) (by omega) (by omega)) C, eO_c ⟨Bo _ (by omega) (by omega), Bo _ (by omega) (by omega), Bo _ (by omega) (by omega)⟩ (uo _ (by omega) (by omega) (by omega)) (uo _ (by omega) (by omega) (by omega)) (uo _ (by omega) (by omega) (by omega)) (fun j j0 j1 => uo _ (by omega) (by omega) (by omega)) O, fun p hp => eP_c (Bo _ (by omega) (by omega)) (uo _ (by omega) (by omega) (by omega)) (uo _ (by omega) (by omega) (by omega)) (uo _ (by omega) (by omega) (by omega)) (fun y => by rw [uo 162 (by omega) (by omega) (by omega), uo 163 (by omega) (by omega) (by omega), uo 165 (by omega) (by omega) (by omega)] at y; exact y) (P p hp)⟩
      · rw [uo 149 (by omega) (by omega) (by decide)] at j1
        rw [Bo _ (by omega) (by omega), uo _ (by omega) (by omega) (by omega)]; exact R3 j j0 j1
      · rw [u0] at i1
        by_cases z : i = v 0
        · rw [z, ← eq]
          exact ⟨by rw [Bq.1, u1], by rw [Bq.2, u2], fun j j0 j1 => by rw [u2] at j1; omega⟩
        · obtain ⟨x1, x2, x3⟩ := R4 i i0 (by omega)
          have w2 := (V.1.2.2.2.2 i i0 (by omega)).2.1
          refine ⟨by rw [Bo _ (by omega) (by omega), uo _ (by omega) (by omega) (by omega)]; exact x1, by rw [Bo _ (by omega) (by omega), uo _ (by omega) (by omega) (by omega)]; exact x2, fun j j0 j1 => ?_⟩
          rw [uo _ (by omega) (by omega) (by omega)] at j1
          rw [Bo _ (by omega) (by omega), Bo _ (by omega) (by omega), uo _ (by omega) (by omega) (by omega), uo _ (by omega) (by omega) (by omega)]; exact x3 j j0 j1
    have VU : tV u := by
      obtain ⟨sa, sb, sc, sd, sf⟩ := V.1
      refine ⟨⟨by rw [u0]; omega, by rw [uo 149 (by omega) (by omega) (by decide)]; exact sb, fun j j0 j1 => ?_, ?_, fun i i0 i1 => ?_⟩, wH_c2 (fun j j0 j1 => uo j (by omega) (by omega) (by omega)) V.2.1, fun y1 y2 => wK_c V.2.1.2.2.2.2.2.2.1 (fun j j0 j1 => uo j (by omega) (by omega) (by omega)) (V.2.2 (by rw [← y1]; exact (uo _ (by omega) (by omega) (by decide)).symm) (by rw [← y2]; exact (uo _ (by omega) (by omega) (by decide)).symm))⟩
      · rw [uo 149 (by omega) (by omega) (by decide)] at j1
        have z := sc j j0 j1
        rw [uo _ (by omega) (by omega) (by omega), u0]; omega
      · rw [uo 141 (by omega) (by omega) (by decide), uo 142 (by omega) (by omega) (by decide), uo 143 (by omega) (by omega) (by decide), uo 144 (by omega) (by omega) (by decide), uo 145 (by omega) (by omega) (by decide), uo 146 (by omega) (by omega) (by decide), uo 147 (by omega) (by omega) (by decide), uo 148 (by omega) (by omega) (by decide)]; exact sd
      · rw [u0] at i1
        by_cases z : i = v 0
        · rw [z]
          exact ⟨by rw [u1]; omega, by rw [u2]; omega, fun j j0 j1 => by rw [u2] at j1; omega, fun j1 j2 y1 y2 y3 => by rw [u2] at y3; omega⟩
        · obtain ⟨w1, w2, w3, w4⟩ := sf i i0 (by omega)
          have e1 := uo (1 + 14 * i) (by omega) (by omega) (by omega)
          have e2 := uo (2 + 14 * i) (by omega) (by omega) (by omega)
          refine ⟨by rw [e1]; exact w1, by rw [e2]; exact w2, fun j j0 j1 => ?_, fun j1 j2 y1 y2 y3 => ?_⟩
          · rw [e2] at j1
            rw [e1, uo (3 + 14 * i + 2 * j) (by omega) (by omega) (by omega), uo (4 + 14 * i + 2 * j) (by omega) (by omega) (by omega)]; exact w3 j j0 j1
          · rw [e2] at y3
            rw [uo (3 + 14 * i + 2 * j1) (by omega) (by omega) (by omega), uo (3 + 14 * i + 2 * j2) (by omega) (by omega) (by omega)]; exact w4 j1 j2 y1 y2 y3
    exact h B EB VU (cF_e F)
  · exact absurd c9 d
theorem c_mend {G : rc_G} {x : Nat} {I : rc_M} {v : rv} {i z : Int} {post : Int → rc_M → Prop} (t1 : kX7 G x) (E : eA I (x + 1) v) (V : tV v) (c : 0 ≤ i ∧ i < v 0) (hz : rc_R z)
    (h1 : 1 ≤ z ∧ z ≤ 10 → ∀ J : rc_M, eA J (x + 1) (rc_u (tMd v i z (v (2 + 14 * i)).toNat) (2 + 14 * i) (tMn v i z (v (2 + 14 * i)).toNat)) → tV (rc_u (tMd v i z (v (2 + 14 * i)).toNat) (2 + 14 * i) (tMn v i z (v (2 + 14 * i)).toNat)) → cF x I J → (∀ j : Int, (j < 2 + 14 * i ∨ 15 + 14 * i ≤ j) → rc_u (tMd v i z (v (2 + 14 * i)).toNat) (2 + 14 * i) (tMn v i z (v (2 + 14 * i)).toNat) j = v j) → (0 ≤ tMn v i z (v (2 + 14 * i)).toNat ∧ tMn v i z (v (2 + 14 * i)).toNat ≤ v (2 + 14 * i)) → post (v (2 + 14 * i) - tMn v i z (v (2 + 14 * i)).toNat) J)
    (h2 : ¬ (1 ≤ z ∧ z ≤ 10) → post (-100002) I) : wX7_mend G x i z I post := by
  have s0 := V.1.1
  have n6 := V.2.1.2.2.2.2.2.2.1.2
  unfold wX7_mend
  refine x_reelNumbered E.1 V.1 (by unfold rc_R; omega) ?_
  rw [if_pos c]
  have wl := V.1.2.2.2.2 i c.1 c.2
  have el := E.1.2.2.2.2 i c.1 c.2
  have w2 := wl.2.1
  refine ⟨fun y => (by cases y), fun q y => ?_⟩
  have eq : q = x + 1 + 5 + 3 * i.toNat := by injection y with y; exact y.symm
  rw [← eq] at el
  refine ⟨by rw [eq]; exact k3_of t1.2.1.2.1 (by omega), x_within hz (by unfold rc_R; omega) (by unfold rc_R; omega) ?_⟩
  by_cases d : 1 ≤ z ∧ z ≤ 10
  · rw [if_pos d]
    refine ⟨by unfold rc_R; omega, fun _ => x_mend hz wl el (fun J Jo J0 J1 J2 => ?_), fun y => absurd y (by decide)⟩
    have h1 := h1 d
    obtain ⟨N, hN⟩ : ∃ N : Nat, N = (v (2 + 14 * i)).toNat := ⟨_, rfl⟩
    rw [← hN] at J1 J2 h1 ⊢
    have b := tMn_le v i z N
    have X := tMd_ix (z := z) wl N (by omega)
    have uo : ∀ j : Int, (j < 2 + 14 * i ∨ 15 + 14 * i ≤ j) → rc_u (tMd v i z N) (2 + 14 * i) (tMn v i z N) j = v j := fun j hj => by rw [rc_u_n _ _ (by omega), tMd_far v i z N j (by omega)]
    have u1 : rc_u (tMd v i z N) (2 + 14 * i) (tMn v i z N) (1 + 14 * i) = v (1 + 14 * i) := uo _ (by omega)
    have u2 : rc_u (tMd v i z N) (2 + 14 * i) (tMn v i z N) (2 + 14 * i) = tMn v i z N := rc_u_s _ _ _
    have u3 : ∀ j : Int, 0 ≤ j → rc_u (tMd v i z N) (2 + 14 * i) (tMn v i z N) (3 + 14 * i + 2 * j) = tMd v i z N (3 + 14 * i + 2 * j) := fun j hj => rc_u_n _ _ (by omega)
    have u4 : ∀ j : Int, 0 ≤ j → rc_u (tMd v i z N) (2 + 14 * i) (tMn v i z N) (4 + 14 * i + 2 * j) = tMd v i z N (4 + 14 * i + 2 * j) := fun j hj => rc_u_n _ _ (by omega)
    have WU : wL (rc_u (tMd v i z N) (2 + 14 * i) (tMn v i z N)) i := by
      refine ⟨by rw [u1]; exact wl.1, by rw [u2]; omega, fun j j0 j1 => ?_, fun j1 j2 y1 y2 y3 => ?_⟩
      · rw [u2] at j1
        obtain ⟨a, ha, ha1, ha2⟩ := X.1 j j0 j1
        rw [u1, u3 j j0, u4 j j0, ha1, ha2]; exact wl.2.2.1 a ha.1 (by omega)
      · rw [u2] at y3
        rw [u3 j1 y1, u3 j2 (by omega)]; exact X.2 j1 j2 y1 y2 y3
    have EL : eL J q (rc_u (tMd v i z N) (2 + 14 * i) (tMn v i z N)) i := by
      refine ⟨by rw [J0, u1]; exact el.1, by rw [J1, u2], fun j j0 j1 => ?_⟩
      rw [u2] at j1
      rw [u3 j j0, u4 j j0]; exact J2 j j0 j1
    have EJ := eA_reel V.1 n6 c eq Jo uo EL E
    have VU := tV_reel V c uo WU
    have FJ : eF (x + 1) I J := fun a ha => Jo a (by omega) (by omega) (by omega)
    exact h1 J EJ VU (cF_e FJ) uo (by omega)
  · rw [if_neg d]
    exact ⟨rc_R0, fun y => absurd rfl y, fun _ => h2 d⟩
theorem c_spl0 {G : rc_G} {x : Nat} {I : rc_M} {v : rv} {i fr z : Int} {post : Int → rc_M → Prop} (E : eA I (x + 1) v) (V : tV v) (hi : rc_R i) (c : ¬ (0 ≤ i ∧ i < v 0)) (h : post (-100001) I) : wX7_splice G x i fr z I post := by
  unfold wX7_splice
  refine x_reelNumbered E.1 V.1 hi ?_
  rw [if_neg c]
  exact ⟨fun _ => h, fun q y => (by cases y)⟩
theorem c_splice {G : rc_G} {x : Nat} {I : rc_M} {v : rv} {i fr z : Int} {post : Int → rc_M → Prop} (t1 : kX7 G x) (E : eA I (x + 1) v) (V : tV v) (c : 0 ≤ i ∧ i < v 0) (hf : rc_R fr) (hz : rc_R z)
    (h0 : 1 ≤ fr ∧ fr ≤ v (1 + 14 * i) - 1 → 1 ≤ z ∧ z ≤ 9 → ∀ n : Int, (0 ≤ n ∧ n < v (2 + 14 * i)) → v (3 + 14 * i + 2 * n) = fr → ∀ J : rc_M, eA J (x + 1) (rc_u v (4 + 14 * i + 2 * n) z) → tV (rc_u v (4 + 14 * i + 2 * n) z) → cF x I J → post (v (2 + 14 * i)) J)
    (h1 : 1 ≤ fr ∧ fr ≤ v (1 + 14 * i) - 1 → 1 ≤ z ∧ z ≤ 9 → ∀ n : Int, (0 ≤ n ∧ n ≤ v (2 + 14 * i)) → v (2 + 14 * i) < 6 → (∀ j : Int, 0 ≤ j → j < n → v (3 + 14 * i + 2 * j) < fr) → (∀ j : Int, n ≤ j → j < v (2 + 14 * i) → fr < v (3 + 14 * i + 2 * j)) → ∀ J : rc_M, eA J (x + 1) (tSp v i n fr z) → tV (tSp v i n fr z) → cF x I J → (∀ j : Int, (j < 2 + 14 * i ∨ 15 + 14 * i ≤ j) → tSp v i n fr z j = v j) → tSp v i n fr z (2 + 14 * i) = v (2 + 14 * i) + 1 → (∀ j : Int, 0 ≤ j → j < n → tSp v i n fr z (3 + 14 * i + 2 * j) = v (3 + 14 * i + 2 * j)) → tSp v i n fr z (3 + 14 * i + 2 * n) = fr → (∀ j : Int, n < j → j ≤ v (2 + 14 * i) → tSp v i n fr z (3 + 14 * i + 2 * j) = v (3 + 14 * i + 2 * (j - 1))) → post (v (2 + 14 * i) + 1) J)
    (h2 : 1 ≤ fr ∧ fr ≤ v (1 + 14 * i) - 1 → 1 ≤ z ∧ z ≤ 9 → v (2 + 14 * i) = 6 → post (-100004) I) (h3 : ¬ (1 ≤ fr ∧ fr ≤ v (1 + 14 * i) - 1) ∨ ¬ (1 ≤ z ∧ z ≤ 9) → post (-100002) I) : wX7_splice G x i fr z I post := by
  have s0 := V.1.1
  have n6 := V.2.1.2.2.2.2.2.2.1.2
  unfold wX7_splice
  refine x_reelNumbered E.1 V.1 (by unfold rc_R; omega) ?_
  rw [if_pos c]
  have wl := V.1.2.2.2.2 i c.1 c.2
  have el := E.1.2.2.2.2 i c.1 c.2
  have w1 := wl.1
  have w2 := wl.2.1
  refine ⟨fun y => (by cases y), fun q y => ?_⟩
  have eq : q = x + 1 + 5 + 3 * i.toNat := by injection y with y; exact y.symm
  rw [← eq] at el
  rw [el.1]
  refine ⟨by rw [eq]; exact k3_of t1.2.1.2.1 (by omega), x_within hf (by unfold rc_R; omega) (by unfold rc_R; omega) ?_⟩
  by_cases d : 1 ≤ fr ∧ fr ≤ v (1 + 14 * i) - 1
  · rw [if_pos d]
    refine ⟨by unfold rc_R; omega, fun y => absurd y (by decide), fun _ => x_within hz (by unfold rc_R; omega) (by unfold rc_R; omega) ?_⟩
    by_cases d2 : 1 ≤ z ∧ z ≤ 9
    · rw [if_pos d2]
      refine ⟨by unfold rc_R; omega, fun _ => ?_, fun y => absurd y (by decide)⟩
      obtain ⟨n, n0, nlt, nge⟩ := tF_ex (fr := fr) wl
      refine x_join el wl hf n0 nlt nge (fun ek kn => ?_) (fun ek kn J Jo J0 J1 Jl Jk Jr => ?_) (fun ek kn => h2 d d2 kn)
      · have hq : q + 2 = x + 1 + 5 + 3 * i.toNat + 2 := by omega
        rw [hq]
        have EJ := eA_str (x := z) V.1 V.2.1.2.2.2.2.2.2.1 E c ⟨n0.1, kn⟩
        have SU := wS_str (x := z) V.1 c ⟨n0.1, kn⟩ (by omega)
        have FJ : eF (x + 1) I (rc_s I (x + 1 + 5 + 3 * i.toNat + 2) n z) := eF_s (eF_r _ I) (by omega)
        have VU : tV (rc_u v (4 + 14 * i + 2 * n) z) := tV_reel V c (fun j hj => rc_u_n _ _ (by omega)) (SU.2.2.2.2 i c.1 (by rw [rc_u_n _ _ (by omega)]; exact c.2))
        have fk : v (3 + 14 * i + 2 * n) = fr := by
          have T := tK_spec v i fr
          rw [ek] at T
          rcases T with T | T
          · exact T.2.2
          · omega
        exact h0 d d2 n ⟨n0.1, kn⟩ fk _ EJ VU (cF_e FJ)
      · have gt : ∀ j : Int, n ≤ j → j < v (2 + 14 * i) → fr < v (3 + 14 * i + 2 * j) := fun j j0 j1 => by
          have T := tK_spec v i fr
          rcases T with T | T
          · omega
          · have a := T.2 j (by omega) j1
            rcases Int.lt_or_eq_of_le j0 with h | h
            · have := wl.2.2.2 n j n0.1 h j1
              have := nge (by omega); omega
            · have b := nge (by omega)
              rw [h] at b; omega
        obtain ⟨WU, uo, u2, ul, uk, ur⟩ := wL_sp (z := z) wl n0 kn (by omega) d2 nlt gt
        have EL : eL J q (tSp v i n fr z) i := by
          have el3 := el.2.2
          refine ⟨by rw [J0, uo _ (by omega)]; exact el.1, by rw [J1, u2], fun j j0 j1 => ?_⟩
          rw [u2] at j1
          rcases Int.lt_trichotomy j n with h | h | h
          · have a := Jl j j0 h
            have b := ul j j0 h
            rw [a.1, a.2, b.1, b.2]; exact el3 j j0 (by omega)
          · rw [h, Jk.1, Jk.2, uk.1, uk.2]; exact ⟨rfl, rfl⟩
          · have a := Jr j h (by omega)
            have b := ur j h (by omega)
            rw [a.1, a.2, b.1, b.2]; exact el3 (j - 1) (by omega) (by omega)
        have EJ := eA_reel V.1 n6 c eq Jo uo EL E
        have VU := tV_reel V c uo WU
        have FJ : eF (x + 1) I J := fun a ha => Jo a (by omega) (by omega) (by omega)
        exact h1 d d2 n n0 kn nlt gt J EJ VU (cF_e FJ) uo u2 (fun j j0 j1 => (ul j j0 j1).1) uk.1 (fun j j0 j1 => (ur j j0 (by omega)).1)
    · rw [if_neg d2]
      exact ⟨rc_R0, fun y => absurd rfl y, fun _ => h3 (Or.inr d2)⟩
  · rw [if_neg d]
    exact ⟨rc_R0, fun _ => h3 (Or.inl d), fun y => absurd rfl y⟩
