/-! ===== pure part: a reel mended, the program's part ===== -/
theorem x_mend {G : rc_G} {q : Nat} {I : rc_M} {v : rv} {i z : Int} {post : Int → rc_M → Prop} (hz : rc_R z) (w : wL v i) (e : eL I q v i)
    (H : ∀ J : rc_M, (∀ a : Nat, a ≠ q → a ≠ q + 1 → a ≠ q + 2 → J a = I a) → J q 0 = I q 0 → J q 1 = tMn v i z (v (2 + 14 * i)).toNat → (∀ k : Int, 0 ≤ k → k < tMn v i z (v (2 + 14 * i)).toNat → J (q + 1) k = tMd v i z (v (2 + 14 * i)).toNat (3 + 14 * i + 2 * k) ∧ J (q + 2) k = tMd v i z (v (2 + 14 * i)).toNat (4 + 14 * i + 2 * k)) → post (v (2 + 14 * i) - tMn v i z (v (2 + 14 * i)).toNat) J) : wX3_removeWeaker G q z I post := by
  obtain ⟨e1, e2, e3⟩ := e
  have w2 := w.2.1
  have L : ∀ (d k : Nat) (J : rc_M), v (2 + 14 * i) - k = d → (∀ a : Nat, a ≠ q + 1 → a ≠ q + 2 → J a = I a) → (∀ j : Int, 0 ≤ j → j < v (2 + 14 * i) → (j < tMn v i z k → J (q + 1) j = tMd v i z k (3 + 14 * i + 2 * j) ∧ J (q + 2) j = tMd v i z k (4 + 14 * i + 2 * j)) ∧ (tMn v i z k ≤ j → J (q + 1) j = I (q + 1) j ∧ J (q + 2) j = I (q + 2) j)) →
      rX3_removeWeaker_10 G post q z (d + 1) (v (2 + 14 * i)) (tMn v i z k) k J := by
    intro d
    induction d with
    | zero =>
      intro k J hd f1 f2
      show wX3_removeWeaker_10 G post q z (rX3_removeWeaker_10 G post q z 0) (v (2 + 14 * i)) (tMn v i z k) k J
      unfold wX3_removeWeaker_10 wX3_removeWeaker_72
      rw [f1 q (by omega) (by omega), e2]
      rw [show (v (2 + 14 * i)).toNat = k by omega] at H
      have b := tMn_le v i z k
      refine ⟨by unfold rc_R; omega, by unfold rc_R; omega, fun _ I4 e4 => ?_, fun y => absurd y (by omega)⟩
      exact H I4 (fun a a0 a1 a2 => by rw [e4, qs_n _ _ _ a0]; exact f1 a a1 a2) (by rw [e4, qs_s, rc_u_n _ _ (by decide), f1 q (by omega) (by omega)]) (by rw [e4, qs_s, rc_u_s]) (fun j j0 j1 => by rw [e4, qs_n _ _ _ (by omega), qs_n _ _ _ (by omega)]; exact (f2 j j0 (by omega)).1 j1)
    | succ d ih =>
      intro k J hd f1 f2
      show wX3_removeWeaker_10 G post q z (rX3_removeWeaker_10 G post q z (d + 1)) (v (2 + 14 * i)) (tMn v i z k) k J
      have b := tMn_le v i z k
      have st := (w.2.2.1 k (by omega) (by omega)).2
      have s := (f2 k (by omega) (by omega)).2 b.2
      have r := e3 k (by omega) (by omega)
      have ihk := ih (k + 1)
      rw [tMn, show (((k + 1 : Nat)) : Int) = (k : Int) + 1 by omega] at ihk
      unfold wX3_removeWeaker_10 wX3_removeWeaker_66
      rw [f1 q (by omega) (by omega), e2, s.2, r.2, s.1, r.1]
      refine ⟨by unfold rc_R; omega, by unfold rc_R; omega, fun y => absurd y (by omega), fun _ => ⟨by unfold rc_R; omega, fun y => absurd y (by omega), fun _ => ⟨by omega, by unfold rc_R; omega, hz, fun c => ?_, fun c => ⟨by omega, by omega, fun I13 e13 => ⟨by omega, by omega, fun I16 e16 => ?_⟩⟩⟩⟩⟩
      · rw [if_pos c, Int.add_zero] at ihk
        refine ihk J (by omega) f1 (fun j j0 j1 => ?_)
        rw [tMd, if_pos c]; exact f2 j j0 j1
      · rw [if_neg c] at ihk
        have g : I13 (q + 2) k = v (4 + 14 * i + 2 * (k : Int)) := by rw [e13, qs_n _ _ _ (by omega), s.2, r.2]
        rw [g] at e16
        refine ihk I16 (by omega) (fun a a1 a2 => by rw [e16, qs_n _ _ _ a2, e13, qs_n _ _ _ a1]; exact f1 a a1 a2) (fun j j0 j1 => ?_)
        have h1 : ∀ j : Int, I16 (q + 1) j = if j = tMn v i z k then v (3 + 14 * i + 2 * (k : Int)) else J (q + 1) j := fun j => by rw [e16, qs_n _ _ _ (by omega), e13, qs_s, rc_ue]
        have h2 : ∀ j : Int, I16 (q + 2) j = if j = tMn v i z k then v (4 + 14 * i + 2 * (k : Int)) else J (q + 2) j := fun j => by rw [e16, qs_s, rc_ue, e13, qs_n _ _ _ (by omega)]
        rw [h1, h2, tMd, if_neg c]
        have F := f2 j j0 j1
        refine ⟨fun y => ?_, fun y => ?_⟩
        · by_cases c2 : j = tMn v i z k
          · rw [if_pos c2, if_pos c2, c2, rc_u_n _ _ (by omega), rc_u_s, rc_u_s]; exact ⟨rfl, rfl⟩
          · rw [if_neg c2, if_neg c2, rc_u_n _ _ (by omega), rc_u_n _ _ (by omega), rc_u_n _ _ (by omega), rc_u_n _ _ (by omega)]; exact F.1 (by omega)
        · rw [if_neg (by omega), if_neg (by omega)]; exact F.2 (by omega)
  unfold wX3_removeWeaker
  rw [e2]
  refine ⟨(v (2 + 14 * i)).toNat + 1, L (v (2 + 14 * i)).toNat 0 I (by omega) (fun _ _ _ => rfl) (fun j j0 j1 => ⟨fun y => ?_, fun _ => ⟨rfl, rfl⟩⟩)⟩
  have : tMn v i z 0 = 0 := rfl
  omega
