/-! ===== the class alone: a text of digits ===== -/
theorem pX_dig {T : Int → Int} {n rc : Int} (hT : fT T n rc) (hd : ∀ k : Int, 0 ≤ k → k < n → 0 ≤ T k - 48 ∧ T k - 48 < rc) : ∀ (d : Nat) (i : Int), n - i = d → 0 < i → i ≤ n → pX T n rc i 0 1 (-100005) 0 := by
  intro d
  have r0 := hT.2.1
  induction d with
  | zero =>
    intro i h i0 i1
    have e : i = n := by omega
    subst e
    have X := pX_end (dep := 0) (sta := 1) hT (by omega) (by omega)
    rw [if_pos ⟨rfl, Or.inl rfl⟩] at X
    exact X
  | succ d ih =>
    intro i h i0 i1
    have a := hd i (by omega) (by omega)
    exact pX_go hT (by omega) (by omega) ⟨by omega, by omega⟩ (fS_dig (by decide) r0.2 a) (by decide) (by rw [fD_no (by omega) (by omega), Int.add_zero]; exact ih (i + 1) (by omega) (by omega) (by omega))
theorem pX_digs {T : Int → Int} {n rc : Int} (hT : fT T n rc) (n0 : 0 < n) (hd : ∀ k : Int, 0 ≤ k → k < n → 0 ≤ T k - 48 ∧ T k - 48 < rc) : pX T n rc 0 0 0 (-100005) 0 := by
  have r0 := hT.2.1
  have a := hd 0 (by omega) n0
  exact pX_go hT (by omega) (by omega) ⟨by omega, by omega⟩ (fS_dig (by decide) r0.2 a) (by decide) (by rw [fD_no (by omega) (by omega), Int.add_zero]; exact pX_dig hT hd (n - 1).toNat 1 (by omega) (by omega) (by omega))
def tL (T : Int → Int) (i : Int) : Nat → List Int
  | 0 => []
  | d + 1 => [T i - 48] ++ tL T (i + 1) d
theorem tL_len (T : Int → Int) : ∀ (d : Nat) (i : Int), (tL T i d).length = d := by
  intro d
  induction d with
  | zero => intro i; rfl
  | succ d ih => intro i; simp [tL, ih]
theorem tL_gW {T : Int → Int} {n rc : Int} (hd : ∀ k : Int, 0 ≤ k → k < n → 0 ≤ T k - 48 ∧ T k - 48 < rc) : ∀ (d : Nat) (i : Int), n - i = d → 0 ≤ i → gW rc (tL T i d) := by
  intro d
  induction d with
  | zero => intro i _ _; exact gW_0 rc
  | succ d ih =>
    intro i h i0
    refine gW_app (fun j hj => ?_) (ih (i + 1) (by omega) (by omega))
    have e : j = 0 := by simpa using hj
    subst e
    exact hd i i0 (by omega)
theorem tL_XX {T : Int → Int} {n rc : Int} (hT : fT T n rc) (hd : ∀ k : Int, 0 ≤ k → k < n → 0 ≤ T k - 48 ∧ T k - 48 < rc) : ∀ (d : Nat) (i : Int), n - i = d → 0 ≤ i → XX T n 0 i n (tL T i d) := by
  intro d
  have r0 := hT.2.1
  induction d with
  | zero =>
    intro i h i0
    have e : i = n := by omega
    subst e
    exact XX_0 _ _ _ _
  | succ d ih =>
    intro i h i0
    have a := hd i i0 (by omega)
    exact XX_app (XX_dig hT (by decide) ⟨i0, by omega⟩ ⟨by omega, by omega⟩) (ih (i + 1) (by omega) (by omega))
theorem c_find {G : rc_G} {x : Nat} {I : rc_M} {T : Int → Int} {n rc pos dp : Int} {post : Int → rc_M → Prop} (X : pX T n rc 0 0 0 pos dp) (hn : I (x + 84) 2 = n) (hT : ∀ k : Int, 0 ≤ k → k < n → I (x + 86) k = T k)
    (H : ∀ J : rc_M, (∀ a : Nat, a ≠ x + 84 → J a = I a) → J (x + 84) 2 = n → post pos J) : wX1_findFault G (x + 84) rc I post := by
  unfold wX1_findFault
  intro I1 e1 I2 e2
  rw [e1] at e2
  rw [e2]
  refine X G (x + 84) post _ (by rw [qs_s, rc_u_n _ _ (by decide), qs_s, rc_u_s]) (by rw [qs_s, rc_u_s]) (by rw [qs_s, rc_u_n _ _ (by decide), qs_s, rc_u_n _ _ (by decide)]; exact hn) (fun k k0 k1 => by rw [qs_n _ _ _ (by omega), qs_n _ _ _ (by omega)]; exact hT k k0 k1) (fun J a b _ => H J (fun y hy => by rw [a y hy, qs_n _ _ _ hy, qs_n _ _ _ hy]) b)
theorem c_fault0 {G : rc_G} {x : Nat} {I : rc_M} {v : rv} {post : Int → rc_M → Prop} (E : eA I (x + 1) v) (V : tV v) (hn : I (x + 84) 2 = 0) (H : ∀ J : rc_M, (∀ a : Nat, a ≠ x + 84 → J a = I a) → J (x + 84) 2 = 0 → post 0 J) : wX7_faultPosition G x I post := by
  unfold wX7_faultPosition
  have e0 : I (x + 1 + 1) 0 = v 0 := E.1.1
  rw [e0]
  have hT : fT (I (x + 86)) 0 (v 0) := ⟨by omega, V.1.1, fun k k0 k1 => absurd k1 (by omega)⟩
  have X := pX_end (dep := 0) (sta := 0) hT (by omega) (by omega)
  rw [if_neg (by omega)] at X
  exact c_find X hn (fun k k0 k1 => rfl) H
theorem c_setp {G : rc_G} {x : Nat} {I : rc_M} {v : rv} {n : Int} {post : Int → rc_M → Prop} (E : eA I (x + 1) v) (V : tV v) (hn : I (x + 84) 2 = n) (n0 : 1 ≤ n ∧ n ≤ 12) (hd : ∀ k : Int, 0 ≤ k → k < n → 0 ≤ I (x + 86) k - 48 ∧ I (x + 86) k - 48 < v 0) (nr : ¬ (v 162 = 1 ∧ v 163 = 0))
    (H : ∀ (Q : rc_M) (w : List Int), (w.length : Int) = n → w.length ≤ 12 → eA Q (x + 1) (tPr v w) → tV (tPr v w) → (∀ b : Nat, b ≠ x + 84 → b ≠ x + 85 → b ≠ x + 87 → b ≠ x + 2 → b ≠ x + 5 → Q b = I b) → post n Q) : wX7_setProgram G x I post := by
  have s0 := V.1.1
  have n6 := V.2.1.2.2.2.2.2.2.1.2
  have c0 := E.2.1.1
  have hT : fT (I (x + 86)) n (v 0) := ⟨by omega, s0, fun k k0 k1 => by have := hd k k0 k1; omega⟩
  have e0 : I (x + 1 + 1) 0 = v 0 := E.1.1
  unfold wX7_setProgram wX7_faultPosition
  rw [e0]
  refine c_find (pX_digs hT (by omega) hd) hn (fun k k0 k1 => rfl) (fun J j1 j2 => ⟨by unfold rc_R; omega, fun c => absurd rfl c, fun _ => ?_⟩)
  rw [j1 _ (by omega), c0, if_neg nr]
  refine ⟨rc_R0, fun _ => ?_, fun y => absurd rfl y⟩
  have xw := tL_XX hT hd n.toNat 0 (by omega) (by omega)
  have wl := tL_len (I (x + 86)) n.toNat 0
  have gw := tL_gW hd n.toNat 0 (by omega) (by omega)
  generalize tL (I (x + 86)) 0 n.toNat = w at *
  unfold wX1_expand
  refine xw G (x + 84) _ 0 0 [] J (by omega) j2 (fun k k0 k1 => by rw [j1 _ (by omega)]) (by simp) (cE_0 _ _) (fun y P p1 => ?_) (fun y P gs2 p1 p2 p3 => ⟨1, xq_end (n := n) (by rw [p1 _ (by omega) (by omega)]; exact j2) (by omega) ?_⟩)
  · have y' : 12 < w.length := by simpa using y
    exact absurd y' (by omega)
  · have y' : w.length ≤ 12 := by simpa using y
    have pI : ∀ a : Nat, a ≠ x + 84 → a ≠ x + 85 → a ≠ x + 87 → P a = I a := fun a a1 a2 a3 => (p1 a (by omega) (by omega)).trans (j1 a a1)
    rw [List.nil_append] at p3 ⊢
    refine ⟨by unfold rc_R; omega, fun y => absurd y (by omega), fun _ => x_take (r := x + 1) (by omega) (by omega) (by omega) (fun Q q1 q2 q3 q4 => ?_)⟩
    have qI : ∀ a : Nat, a ≠ x + 84 → a ≠ x + 85 → a ≠ x + 87 → a ≠ x + 2 → a ≠ x + 5 → Q a = I a := fun a a1 a2 a3 a4 a5 => (q1 a (by omega) (by omega)).trans (pI a a1 a2 a3)
    have EQ : eA Q (x + 1) (tPr v w) := eA_prog V.1 n6 y' (fun a a1 a2 a3 a4 => qI a (by omega) (by omega) (by omega) (by omega) (by omega)) (by rw [q2 0 (by decide), pI _ (by omega) (by omega) (by omega)]) q3 (fun k k0 k1 => by
      have g := p3 k.toNat (by omega)
      rw [show ((k.toNat : Nat) : Int) = k by omega] at g
      rw [q4 k k0 k1]; exact g) E
    have wn : (w.length : Int) = n := by omega
    rw [wn]
    exact H Q w wn y' EQ (tV_prog V y' gw nr) qI
