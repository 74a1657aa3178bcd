/-! ===== the law's pieces ===== -/
theorem g_low {G : rc_G} {I : rc_M} {k : Int} {post : Int → rc_M → Prop} (hk : 0 ≤ k ∧ k < 8) (h : post (rc_lo k) I) : wL_low G k I post := by
  have e : (k = 2 → rc_lo k = 0) ∧ (k = 7 → rc_lo k = 0) ∧ (k ≠ 2 → k ≠ 7 → rc_lo k = 1) := by
    rcases (show k = 0 ∨ k = 1 ∨ k = 2 ∨ k = 3 ∨ k = 4 ∨ k = 5 ∨ k = 6 ∨ k = 7 by omega) with rfl | rfl | rfl | rfl | rfl | rfl | rfl | rfl <;> decide
  unfold wL_low wL_low_11
  exact ⟨R_of (by omega), fun q => by rw [← e.1 q]; exact h, fun q => ⟨R_of (by omega), fun q2 => by rw [← e.2.2 q q2]; exact h, fun q2 => by rw [← e.2.1 q2]; exact h⟩⟩
theorem g_high {G : rc_G} {I : rc_M} {k : Int} {post : Int → rc_M → Prop} (hk : 0 ≤ k ∧ k < 8) (h : post (rc_hi k) I) : wL_high G k I post := by
  have e : (k = 0 → rc_hi k = 90) ∧ (k = 1 → rc_hi k = 99) ∧ ((k = 2 ∨ k = 4) → rc_hi k = 50) ∧ ((k = 3 ∨ k = 5) → rc_hi k = 200) ∧ (k = 6 → rc_hi k = 500) ∧ (k = 7 → rc_hi k = 20) := by
    rcases (show k = 0 ∨ k = 1 ∨ k = 2 ∨ k = 3 ∨ k = 4 ∨ k = 5 ∨ k = 6 ∨ k = 7 by omega) with rfl | rfl | rfl | rfl | rfl | rfl | rfl | rfl <;> decide
  obtain ⟨e0, e1, e2, e3, e4, e5⟩ := e
  have R := R_of (z := k) (by omega)
  unfold wL_high wL_high_29 wL_high_44
  refine ⟨R, fun q0 => ⟨R, fun q1 => ⟨R, fun q2 => ?_, fun q2 => ⟨R, fun q4 => ⟨R, fun q3 => ?_, fun q3 => ⟨R, fun q5 => ⟨R, fun q6 => ?_, fun q6 => ?_⟩, fun q5 => ?_⟩⟩, fun q4 => ?_⟩⟩, fun q1 => ?_⟩, fun q0 => ?_⟩
  · rw [← e2 (Or.inl q2)]; exact h
  · rw [← e3 (Or.inl q3)]; exact h
  · rw [← e5 (by omega)]; exact h
  · rw [← e4 q6]; exact h
  · rw [← e3 (Or.inr q5)]; exact h
  · rw [← e2 (Or.inr q4)]; exact h
  · rw [← e1 q1]; exact h
  · rw [← e0 q0]; exact h
theorem g_sets {G : rc_G} {x : Nat} {I : rc_M} {v : rv} {k z : Int} {post : Int → rc_M → Prop} (E : eA I (x + 1) v) (V : tV v) (hk : 0 ≤ k ∧ k < 8) (hz : 0 ≤ z ∧ z < 2147483648) (hq : I (x + 89) k = v (141 + k))
    (H : ∀ (J : rc_M) (s : Int), eA J (x + 1) (rc_u v (141 + k) s) → tV (rc_u v (141 + k) s) → (∀ b : Nat, (b < x + 1 ∨ x + 82 < b) → b ≠ x + 89 → J b = I b) → (∀ j : Int, J (x + 89) j = rc_u (I (x + 89)) k s j) → post 1 J) : wL_sets G x (x + 89) k z I post := by
  have lh := lohi hk
  have sv := V.1.2.2.2.1
  have sk : 0 ≤ v (141 + k) ∧ v (141 + k) ≤ 500 := by
    rcases (show k = 0 ∨ k = 1 ∨ k = 2 ∨ k = 3 ∨ k = 4 ∨ k = 5 ∨ k = 6 ∨ k = 7 by omega) with rfl | rfl | rfl | rfl | rfl | rfl | rfl | rfl <;> simp only [Int.reduceAdd] <;> omega
  have m0 : 0 ≤ z % (rc_hi k - rc_lo k + 1) := Int.emod_nonneg _ (by omega)
  have m1 : z % (rc_hi k - rc_lo k + 1) < rc_hi k - rc_lo k + 1 := Int.emod_lt_of_pos _ (by omega)
  unfold wL_sets
  refine g_low hk (g_high hk (g_low hk ⟨hz, ⟨by omega, by omega⟩, hk, hk, fun I11 e11 => ?_⟩))
  generalize hs : rc_lo k + z % (rc_hi k - rc_lo k + 1) = s at *
  have o11 : ∀ b : Nat, b ≠ x + 89 → I11 b = I b := fun b hb => by rw [e11, qs_n _ _ _ hb]
  have E11 : eA I11 (x + 1) v := eA_far V.1 (fun a a0 a1 => o11 a (by omega)) E
  refine c_set E11 V (R_of (by omega)) (R_of (by omega)) (fun ok J EJ VJ FJ => ?_) (fun _ q => absurd ⟨hk, by omega, by omega⟩ q) (fun q => absurd hk q)
  rw [hq]
  refine ⟨R_of (by omega), R_of (by omega), rfl, g_high hk ?_⟩
  refine c_set EJ VJ (R_of (by omega)) (R_of (by omega)) (fun q _ _ _ _ => absurd q.2.2 (by omega)) (fun _ _ => ⟨R_of (by decide), rfl, g_low hk ?_⟩) (fun q => absurd hk q)
  refine c_set EJ VJ (R_of (by omega)) (R_of (by omega)) (fun q _ _ _ _ => absurd q.2.1 (by omega)) (fun _ _ => ⟨R_of (by decide), rfl, ?_⟩) (fun q => absurd hk q)
  refine c_set EJ VJ (R_of (by decide)) (R_of (by decide)) (fun q _ _ _ _ => absurd q.1.2 (by decide)) (fun q => absurd q.2 (by decide)) (fun _ => ⟨R_of (by decide), rfl, ?_⟩)
  exact H J s EJ VJ (fun b hb h89 => by rw [FJ b hb, o11 b h89]) (fun j => by rw [FJ _ (by omega), e11, qs_s])
/-- the row with a reel made -/
def tMk (v : rv) (a : Int) : rv := rc_u (rc_u (rc_u v (1 + 14 * v 0) a) (2 + 14 * v 0) 0) 0 (v 0 + 1)
theorem g_makes {G : rc_G} {x : Nat} {I : rc_M} {v : rv} {k a : Int} {post : Int → rc_M → Prop} (t1 : kX7 G x) (E : eA I (x + 1) v) (V : tV v) (hk : k = v 0) (k3 : v 0 ≤ 3) (ha : 100 ≤ a ∧ a ≤ 3000)
    (H : ∀ J : rc_M, eA J (x + 1) (tMk v a) → tV (tMk v a) → (∀ b : Nat, (b < x + 1 ∨ x + 82 < b) → b ≠ x + 88 → J b = I b) → J (x + 88) (14 * k + 1) = 0 → post 1 J) : wL_makes G x (x + 88) k a I post := by
  have s0 := V.1.1
  unfold wL_makes
  refine ⟨⟨by omega, by omega⟩, fun I2 e2 => ⟨⟨by omega, by omega⟩, fun I4 e4 => ?_⟩⟩
  have o4 : ∀ b : Nat, b ≠ x + 88 → I4 b = I b := fun b hb => by rw [e4, qs_n _ _ _ hb, e2, qs_n _ _ _ hb]
  have E4 : eA I4 (x + 1) v := eA_far V.1 (fun a a0 a1 => o4 a (by omega)) E
  refine c_make t1 E4 V ha (by omega) (fun J EJ VJ FJ => ?_)
  have u0 : tMk v a 0 = v 0 + 1 := rc_u_s _ _ _
  have u1 : tMk v a (1 + 14 * k) = a := by unfold tMk; rw [hk, rc_u_n _ _ (by omega), rc_u_n _ _ (by omega), rc_u_s]
  have u2 : tMk v a (2 + 14 * k) = 0 := by unfold tMk; rw [hk, rc_u_n _ _ (by omega), rc_u_s]
  change eA J (x + 1) (tMk v a) at EJ
  change tV (tMk v a) at VJ
  refine ⟨R_of (by omega), R_of (by omega), hk.symm, ?_⟩
  have i0 : 0 ≤ k ∧ k < tMk v a 0 := by omega
  refine c_reel t1 EJ VJ (R_of (by omega)) rc_R0 (fun _ _ => ?_) (fun _ q => absurd q (by decide)) (fun _ q => absurd q (by decide)) (fun _ q => absurd q (by decide)) (fun q => absurd i0 q)
  rw [u1]
  refine ⟨R_of (by omega), R_of (by omega), rfl, ?_⟩
  refine c_reel t1 EJ VJ (R_of (by omega)) (R_of (by decide)) (fun _ q => absurd q (by decide)) (fun _ q => absurd q (by decide)) (fun _ _ => ?_) (fun _ q => absurd q (by decide)) (fun q => absurd i0 q)
  rw [u2, show tWk (tMk v a) k (0 : Int).toNat = -100005 from rfl]
  refine ⟨R_of (by decide), rfl, ?_⟩
  exact H J EJ VJ (fun b hb h88 => by rw [FJ b hb, o4 b h88]) (by rw [FJ _ (by omega), e4, qs_s, rc_ue, if_pos (by omega)])
/-- the law's own row of splices with what stands from place lo on moved by two, down to place y -/
def rMv (f : Int → Int) (y B : Int) : Int → Int := fun j => if y + 2 < j ∧ j ≤ B + 2 then f (j - 2) else f j
theorem g_splices {G : rc_G} {x : Nat} {I : rc_M} {v : rv} {i fr z : Int} {post : Int → rc_M → Prop} (t1 : kX7 G x) (E : eA I (x + 1) v) (V : tV v) (hi : 0 ≤ i ∧ i < v 0) (i3 : i ≤ 3) (c2 : v (2 + 14 * i) ≤ 2) (hf : 1 ≤ fr ∧ fr ≤ 99) (hz : 1 ≤ z ∧ z ≤ 9)
    (r0 : I (x + 88) (14 * i + 1) = v (2 + 14 * i)) (rj : ∀ j : Int, 0 ≤ j → j < v (2 + 14 * i) → I (x + 88) (14 * i + 2 + 2 * j) = v (3 + 14 * i + 2 * j))
    (H : ∀ (J : rc_M) (w : rv), eA J (x + 1) w → tV w → (∀ b : Nat, (b < x + 1 ∨ x + 82 < b) → b ≠ x + 88 → J b = I b) → (∀ j : Int, (j < 2 + 14 * i ∨ 15 + 14 * i ≤ j) → w j = v j) → J (x + 88) (14 * i + 1) = w (2 + 14 * i) → (∀ j : Int, 0 ≤ j → j < w (2 + 14 * i) → J (x + 88) (14 * i + 2 + 2 * j) = w (3 + 14 * i + 2 * j)) → w (2 + 14 * i) ≤ v (2 + 14 * i) + 1 → post 1 J) : wL_splices G x (x + 88) i fr z I post := by
  have s0 := V.1.1
  have wl := V.1.2.2.2.2 i hi.1 hi.2
  have w2 := wl.2.1
  have w1 := wl.1
  have fb : ∀ j : Int, 0 ≤ j → j < v (2 + 14 * i) → 1 ≤ v (3 + 14 * i + 2 * j) ∧ v (3 + 14 * i + 2 * j) ≤ 3000 := fun j j0 j1 => by
    have := (wl.2.2.1 j j0 j1).1
    omega
  obtain ⟨c, hc⟩ : ∃ c, c = v (2 + 14 * i) := ⟨_, rfl⟩
  rw [← hc] at c2 r0 rj w2 fb
  obtain ⟨f, hf0⟩ : ∃ f, f = I (x + 88) := ⟨_, rfl⟩
  rw [← hf0] at r0 rj
  -- with the row written: the call
  have S174 : ∀ (at' y0 : Int) (M : rc_M), (0 ≤ at' ∧ at' ≤ c) → (∀ b : Nat, b ≠ x + 88 → M b = I b) →
      ((y0 = 0 ∧ at' < c ∧ f (14 * i + 2 + 2 * at') = fr ∧ M (x + 88) = f) ∨ (y0 = 1 ∧ (∀ j : Int, 0 ≤ j → j < at' → f (14 * i + 2 + 2 * j) < fr) ∧ (at' < c → fr < f (14 * i + 2 + 2 * at')) ∧ M (x + 88) = rMv f (14 * i + 1 + 2 * at') (14 * i + 1 + 2 * c))) →
      wL_splices_174 G post x (x + 88) i fr z at' y0 (M (x + 88) (14 * i + 1)) (14 * i + 1) M := by
    intro at' y0 M ha Mo D
    have M1 : M (x + 88) (14 * i + 1) = c := by
      rcases D with ⟨_, _, _, d⟩ | ⟨_, _, _, d⟩
      · rw [d]; exact r0
      · rw [d]; unfold rMv; rw [if_neg (by omega)]; exact r0
    have y01 : y0 = 0 ∨ y0 = 1 := by rcases D with ⟨d, _⟩ | ⟨d, _⟩ <;> omega
    rw [M1]
    unfold wL_splices_174
    refine ⟨⟨by omega, by omega⟩, fun I17 e17 => ⟨⟨by omega, by omega⟩, fun I19 e19 => ⟨⟨by omega, by omega⟩, fun I21 e21 => ?_⟩⟩⟩
    have o21 : ∀ b : Nat, b ≠ x + 88 → I21 b = I b := fun b hb => by rw [e21, qs_n _ _ _ hb, e19, qs_n _ _ _ hb, e17, qs_n _ _ _ hb]; exact Mo b hb
    have v21 : ∀ j : Int, I21 (x + 88) j = if j = 14 * i + 3 + 2 * at' then z else if j = 14 * i + 2 + 2 * at' then fr else if j = 14 * i + 1 then c + y0 else M (x + 88) j := fun j => by
      rw [e21, qs_s, rc_ue, e19, qs_s, rc_ue, e17, qs_s, rc_ue]
    have E21 : eA I21 (x + 1) v := eA_far V.1 (fun a a0 a1 => o21 a (by omega)) E
    have q1 : I21 (x + 88) (14 * i + 1) = c + y0 := by rw [v21, if_neg (by omega), if_neg (by omega), if_pos rfl]
    refine c_splice t1 E21 V hi (R_of (by omega)) (R_of (by omega)) (fun _ _ n hn fn J EJ VJ FJ => ?_) (fun _ _ n hn h6 nlt ngt J EJ VJ FJ uo u2 ul uk ur => ?_) (fun _ _ q => absurd q (by omega)) (fun q => absurd q (by omega))
    · -- it was there
      rw [← hc] at hn ⊢
      have J88 : J (x + 88) = I21 (x + 88) := FJ _ (by omega)
      have y00 : y0 = 0 := by
        rcases D with ⟨d, _⟩ | ⟨d, d1, d2, _⟩
        · exact d
        · have a := rj n hn.1 hn.2
          rcases Int.lt_or_le n at' with h | h
          · have := d1 n hn.1 h; omega
          · have b := d2 (by omega)
            rcases Int.lt_or_eq_of_le h with h | h
            · have k := wl.2.2.2 at' n ha.1 h (by omega)
              have e := rj at' ha.1 (by omega)
              omega
            · rw [h] at b; omega
      have mf : M (x + 88) = f := by
        rcases D with ⟨_, _, _, d⟩ | ⟨d, _⟩
        · exact d
        · omega
      refine ⟨⟨by omega, by omega⟩, R_of (by omega), by rw [J88, q1]; exact R_of (by omega), by rw [J88, q1]; omega, ?_⟩
      have wo : ∀ j : Int, j ≠ 4 + 14 * i + 2 * n → rc_u v (4 + 14 * i + 2 * n) z j = v j := fun j hj => rc_u_n _ _ hj
      have fa : at' < c ∧ f (14 * i + 2 + 2 * at') = fr := by
        rcases D with ⟨_, d1, d2, _⟩ | ⟨d, _⟩
        · exact ⟨d1, d2⟩
        · omega
      refine H J _ EJ VJ (fun b hb h88 => by rw [FJ b hb, o21 b h88]) (fun j hj => wo j (by omega)) ?_ (fun j j0 j1 => ?_) ?_
      · rw [wo _ (by omega), J88, q1, ← hc]; omega
      · rw [wo _ (by omega), ← hc] at j1
        rw [wo _ (by omega), J88, v21, if_neg (by omega)]
        by_cases e : j = at'
        · rw [if_pos (by omega), e, ← rj at' ha.1 fa.1]; exact fa.2.symm
        · rw [if_neg (by omega), if_neg (by omega), mf]; exact rj j j0 (by omega)
      · rw [wo _ (by omega), ← hc]; omega
    · -- it is new
      rw [← hc] at hn ngt ur u2 ⊢
      have J88 : J (x + 88) = I21 (x + 88) := FJ _ (by omega)
      have D1 : y0 = 1 ∧ (∀ j : Int, 0 ≤ j → j < at' → f (14 * i + 2 + 2 * j) < fr) ∧ (at' < c → fr < f (14 * i + 2 + 2 * at')) ∧ M (x + 88) = rMv f (14 * i + 1 + 2 * at') (14 * i + 1 + 2 * c) := by
        rcases D with ⟨d, d1, d2, _⟩ | d
        · have a := rj at' ha.1 d1
          rcases Int.lt_or_le at' n with h | h
          · have := nlt at' ha.1 h; omega
          · have := ngt at' h d1; omega
        · exact d
      obtain ⟨d, d1, d2, d3⟩ := D1
      have en : n = at' := by
        rcases Int.lt_trichotomy n at' with h | h | h
        · have a := d1 n hn.1 h
          have b := ngt n (Int.le_refl n) (by omega)
          have e := rj n hn.1 (by omega)
          omega
        · exact h
        · have a := d2 (by omega)
          have b := nlt at' ha.1 h
          have e := rj at' ha.1 (by omega)
          omega
      subst en
      refine ⟨⟨by omega, by omega⟩, R_of (by omega), by rw [J88, q1]; exact R_of (by omega), by rw [J88, q1]; omega, ?_⟩
      refine H J _ EJ VJ (fun b hb h88 => by rw [FJ b hb, o21 b h88]) uo (by rw [u2, J88, q1]; omega) (fun j j0 j1 => ?_) (by rw [u2, ← hc]; exact Int.le_refl _)
      rw [u2] at j1
      rw [J88, v21, if_neg (by omega)]
      rcases Int.lt_trichotomy j n with h | h | h
      · rw [if_neg (by omega), if_neg (by omega), d3]
        unfold rMv
        rw [if_neg (by omega), ul j j0 h]; exact rj j j0 (by omega)
      · rw [if_pos (by omega), h, uk]
      · rw [if_neg (by omega), if_neg (by omega), d3]
        unfold rMv
        rw [if_pos (by omega), ur j h (by omega), ← rj (j - 1) (by omega) (by omega)]
        congr 1; omega
  -- the row moved on
  have S118 : ∀ (d : Nat) (at' y : Int) (M : rc_M), (0 ≤ at' ∧ at' ≤ c) → y - (14 * i + 1 + 2 * at') = d → y ≤ 14 * i + 1 + 2 * c → (∀ b : Nat, b ≠ x + 88 → M b = I b) → M (x + 88) = rMv f y (14 * i + 1 + 2 * c) →
      (∀ j : Int, 0 ≤ j → j < at' → f (14 * i + 2 + 2 * j) < fr) → (at' < c → fr < f (14 * i + 2 + 2 * at')) → rL_splices_118 G post x (x + 88) i fr z (d + 1) at' 0 y M := by
    intro d
    induction d with
    | zero =>
      intro at' y M ha hd hy Mo Mf d1 d2
      have e : y = 14 * i + 1 + 2 * at' := by omega
      subst e
      show wL_splices_118 G post x (x + 88) i fr z (rL_splices_118 G post x (x + 88) i fr z 0) at' 0 (14 * i + 1 + 2 * at') M
      unfold wL_splices_118 wL_splices_155
      exact ⟨R_of (by omega), R_of (by omega), fun _ => ⟨⟨by omega, by omega⟩, R_of (by decide), fun _ => S174 at' 1 M ha Mo (Or.inr ⟨rfl, d1, d2, Mf⟩), fun q => absurd rfl q⟩, fun q => absurd (by omega) q⟩
    | succ d ih =>
      intro at' y M ha hd hy Mo Mf d1 d2
      show wL_splices_118 G post x (x + 88) i fr z (rL_splices_118 G post x (x + 88) i fr z (d + 1)) at' 0 y M
      unfold wL_splices_118
      refine ⟨R_of (by omega), R_of (by omega), fun q => absurd q (by omega), fun _ => ⟨R_of (by decide), fun q => absurd rfl q, fun _ => ⟨⟨by omega, by omega⟩, ⟨by omega, by omega⟩, fun I32 e32 => ?_⟩⟩⟩
      refine ih at' (y + -1) I32 ha (by omega) (by omega) (fun b hb => by rw [e32, qs_n _ _ _ hb]; exact Mo b hb) ?_ d1 d2
      funext j
      have my : M (x + 88) y = f y := by rw [Mf]; unfold rMv; rw [if_neg (by omega)]
      rw [e32, qs_s, rc_ue, my, Mf]
      unfold rMv
      by_cases e : j = y + 2
      · rw [if_pos e, if_pos (by omega), e, show y + 2 - 2 = y by omega]
      · rw [if_neg e]
        by_cases e2 : y + 2 < j ∧ j ≤ 14 * i + 1 + 2 * c + 2
        · rw [if_pos e2, if_pos (by omega)]
        · rw [if_neg e2, if_neg (by omega)]
  have S105 : ∀ at' : Int, (0 ≤ at' ∧ at' ≤ c) → (∀ j : Int, 0 ≤ j → j < at' → f (14 * i + 2 + 2 * j) < fr) → (at' < c → fr < f (14 * i + 2 + 2 * at')) → wL_splices_105 G post x (x + 88) i fr z c at' 0 I := by
    intro at' ha d1 d2
    unfold wL_splices_105
    refine ⟨(2 * c - 2 * at').toNat + 1, S118 (2 * c - 2 * at').toNat at' (14 * i + 1 + 2 * c) I ha (by omega) (Int.le_refl _) (fun _ _ => rfl) ?_ d1 d2⟩
    rw [← hf0]
    funext j
    unfold rMv
    rw [if_neg (by omega)]
  have S105b : ∀ at' : Int, (0 ≤ at' ∧ at' < c) → f (14 * i + 2 + 2 * at') = fr → wL_splices_105 G post x (x + 88) i fr z c at' 1 I := by
    intro at' ha d1
    unfold wL_splices_105
    refine ⟨1, ?_⟩
    show wL_splices_118 G post x (x + 88) i fr z (rL_splices_118 G post x (x + 88) i fr z 0) at' 1 (14 * i + 1 + 2 * c) I
    unfold wL_splices_118 wL_splices_155
    exact ⟨R_of (by omega), R_of (by omega), fun q => absurd q (by omega), fun _ => ⟨R_of (by decide), fun _ => ⟨⟨by omega, by omega⟩, R_of (by decide), fun q => absurd q (by decide), fun _ => S174 at' 0 I ⟨ha.1, by omega⟩ (fun _ _ => rfl) (Or.inl ⟨rfl, ha.2, d1, hf0.symm⟩)⟩, fun q => absurd q (by decide)⟩⟩
  -- the place found
  have S43 : ∀ at' : Int, (0 ≤ at' ∧ at' ≤ c) → (∀ j : Int, 0 ≤ j → j < at' → f (14 * i + 2 + 2 * j) < fr) → (at' < c → fr ≤ f (14 * i + 2 + 2 * at')) → wL_splices_43 G post x (x + 88) i fr z c at' I := by
    intro at' ha d1 d2
    unfold wL_splices_43 wL_splices_71 wL_splices_72
    refine ⟨R_of (by omega), R_of (by omega), fun q => ⟨R_of (by decide), fun q2 => absurd rfl q2, fun _ => ⟨R_of (by omega), by omega, S105 at' ha d1 (fun q2 => absurd q2 (by omega))⟩⟩, fun q => ⟨⟨by omega, by omega⟩, ?_⟩⟩
    have e := rj at' ha.1 (by omega)
    have b := fb at' ha.1 (by omega)
    have d3 := d2 (by omega)
    rw [← hf0]
    exact ⟨R_of (by omega), R_of (by omega), fun q2 => ⟨R_of (by decide), fun q3 => absurd rfl q3, fun _ => ⟨R_of (by omega), by omega, S105 at' ha d1 (fun _ => by omega)⟩⟩, fun q2 => ⟨R_of (by decide), fun _ => S105b at' ⟨ha.1, by omega⟩ q2, fun q3 => absurd q3 (by decide)⟩⟩
  have S13 : ∀ (d : Nat) (at' : Int), c - at' = d → 0 ≤ at' → (∀ j : Int, 0 ≤ j → j < at' → f (14 * i + 2 + 2 * j) < fr) → rL_splices_13 G post x (x + 88) i fr z (d + 1) c at' I := by
    intro d
    induction d with
    | zero =>
      intro at' hd a0 d1
      show wL_splices_13 G post x (x + 88) i fr z (rL_splices_13 G post x (x + 88) i fr z 0) c at' I
      unfold wL_splices_13
      exact ⟨R_of (by omega), R_of (by omega), fun _ => S43 at' ⟨a0, by omega⟩ d1 (fun q => absurd q (by omega)), fun q => absurd (by omega) q⟩
    | succ d ih =>
      intro at' hd a0 d1
      show wL_splices_13 G post x (x + 88) i fr z (rL_splices_13 G post x (x + 88) i fr z (d + 1)) c at' I
      unfold wL_splices_13
      refine ⟨R_of (by omega), R_of (by omega), fun q => absurd q (by omega), fun _ => ⟨⟨by omega, by omega⟩, ?_⟩⟩
      have e := rj at' a0 (by omega)
      have b := fb at' a0 (by omega)
      rw [← hf0]
      refine ⟨R_of (by omega), R_of (by omega), fun q => S43 at' ⟨a0, by omega⟩ d1 (fun _ => q), fun q => ih (at' + 1) (by omega) (by omega) (fun j j0 j1 => ?_)⟩
      by_cases e2 : j = at'
      · rw [e2]; omega
      · exact d1 j j0 (by omega)
  unfold wL_splices
  refine ⟨⟨by omega, by omega⟩, ?_⟩
  rw [← hf0, r0]
  exact ⟨c.toNat + 1, S13 c.toNat 0 (by omega) (Int.le_refl 0) (fun j j0 j1 => absurd j1 (by omega))⟩
