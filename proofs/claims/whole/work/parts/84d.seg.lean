/-! ===== pure part: a text without a fault is told the same both ways ===== -/
def gW (rc : Int) (w : List Int) : Prop := ∀ j : Nat, j < w.length → 0 ≤ w.getD j 0 ∧ w.getD j 0 < rc
theorem gW_0 (rc : Int) : gW rc [] := fun j hj => absurd hj (by simp)
theorem gW_app {rc : Int} {u w : List Int} (h1 : gW rc u) (h2 : gW rc w) : gW rc (u ++ w) := fun j hj => by
  rw [List.length_append] at hj
  by_cases c : j < u.length
  · rw [gD_l _ _ c]; exact h1 j c
  · rw [gD_r _ _ (by omega)]; exact h2 (j - u.length) (by omega)
theorem gW_rp {rc : Int} {u : List Int} (h : gW rc u) (k : Nat) : gW rc (rp u k) := by
  induction k with
  | zero => exact gW_0 rc
  | succ k ih => rw [rp]; exact gW_app h ih
theorem fA_i {T : Int → Int} {n rc i dep sta : Int} (hi : i < n) (h : fA T rc (n - i).toNat i dep sta) : fS rc dep sta (T i) ≠ -100005 ∧ fA T rc (n - (i + 1)).toNat (i + 1) (dep + fD (T i)) (fS rc dep sta (T i)) := by
  rw [show (n - i).toNat = (n - (i + 1)).toNat + 1 by omega, fA] at h
  exact h
def segP (T : Int → Int) (n rc i dep sta : Int) : Prop :=
  (dep = 0 → ∃ w : List Int, gW rc w ∧ XX T n 0 i n w ∧ MM T n 0 i n w) ∧
  (0 < dep → ∃ (c : Int) (w : List Int) (s : Int), (i ≤ c ∧ c < n) ∧ T c = 41 ∧ (sta = 0 → 0 < w.length) ∧ (s = 1 ∨ s = 2) ∧ gW rc w ∧ XX T n dep i c w ∧ MM T n dep i c w ∧ fA T rc (n - c).toNat c dep s)
theorem segP_cons {T : Int → Int} {n rc i b dep sta sta2 : Int} {u : List Int} (h1 : XX T n dep i b u) (h2 : MM T n dep i b u) (g : gW rc u) (l : 0 < u.length) (hb : i ≤ b) (s : segP T n rc b dep sta2) : segP T n rc i dep sta := by
  refine ⟨fun d => ?_, fun d => ?_⟩
  · obtain ⟨w, w1, w2, w3⟩ := s.1 d
    rw [d] at h1 h2
    exact ⟨u ++ w, gW_app g w1, XX_app h1 w2, MM_app h2 w3⟩
  · obtain ⟨c, w, s', c1, c2, _, c4, w1, w2, w3, f⟩ := s.2 d
    exact ⟨c, u ++ w, s', by omega, c2, fun _ => by rw [List.length_append]; omega, c4, gW_app g w1, XX_app h1 w2, MM_app h2 w3, f⟩
theorem text_seg {T : Int → Int} {n rc : Int} (hT : fT T n rc) : ∀ (d : Nat) (i dep sta : Int), n - i ≤ d → 0 ≤ i → i ≤ n → (0 ≤ dep ∧ dep ≤ 3) → (sta = 0 ∨ sta = 1 ∨ sta = 2) → (sta = 2 → i < n → T i ≠ 120) → fA T rc (n - i).toNat i dep sta → segP T n rc i dep sta := by
  intro d
  have r0 := hT.2.1
  induction d with
  | zero =>
    intro i dep sta hd i0 i1 hdep hsta s2 f
    have e : i = n := by omega
    subst e
    rw [show (i - i).toNat = 0 by omega, fA] at f
    exact ⟨fun _ => ⟨[], gW_0 rc, XX_0 T i 0 i, MM_0 T i 0 i⟩, fun y => absurd y (by omega)⟩
  | succ d ih =>
    intro i dep sta hd i0 i1 hdep hsta s2 f
    by_cases en : n - i ≤ d
    · exact ih i dep sta en i0 i1 hdep hsta s2 f
    have il : 0 ≤ i ∧ i < n := by omega
    have s3 : sta ≠ 3 := by omega
    have F := fA_i il.2 f
    by_cases c0 : T i = 40
    · by_cases dd : dep < 3
      · rw [fS_op s3 c0 dd, fD_op c0] at F
        obtain ⟨c, u, s', hc, c1, cl, hs', gu, xu, mu, fc⟩ := (ih (i + 1) (dep + 1) 0 (by omega) (by omega) (by omega) (by omega) (Or.inl rfl) (fun y => absurd y (by decide)) F.2).2 (by omega)
        have F2 := fA_i hc.2 fc
        rw [fS_cl (by omega) c1 ⟨by omega, by omega⟩, fD_cl c1, show dep + 1 + -1 = dep by omega] at F2
        have ul := cl rfl
        by_cases x1 : c + 1 < n ∧ T (c + 1) = 120
        · have F3 := fA_i x1.1 F2.2
          rw [fS_x x1.2, fD_no (by omega) (by omega), Int.add_zero, show c + 1 + 1 = c + 2 by omega] at F3
          have x2 : c + 2 < n := by
            by_cases z : c + 2 < n
            · exact z
            · have h := F3.2
              rw [show (n - (c + 2)).toNat = 0 by omega, fA] at h
              omega
          have F4 := fA_i x2 F3.2
          have x3 : 50 ≤ T (c + 2) ∧ T (c + 2) ≤ 57 := by
            by_cases z : 50 ≤ T (c + 2) ∧ T (c + 2) ≤ 57
            · exact z
            · exact absurd (fS_3n z) F4.1
          rw [fS_3 x3, fD_no (by omega) (by omega), Int.add_zero, show c + 2 + 1 = c + 3 by omega] at F4
          have S := ih (c + 3) dep 1 (by omega) (by omega) (by omega) hdep (Or.inr (Or.inl rfl)) (fun y => absurd y (by decide)) F4.2
          obtain ⟨k, hk⟩ : ∃ k : Nat, T (c + 2) - 48 = (k : Int) + 1 := ⟨(T (c + 2) - 49).toNat, by omega⟩
          have MX := MM_grp (hs := 1) (k0 := k) hT (by omega) (show 0 ≤ i ∧ i < c by omega) hc.2 c0 c1 mu (by omega) (Or.inr ⟨rfl, x2, x1.2, hk.symm⟩)
          rw [show c + 1 + 2 * 1 = c + 3 by omega] at MX
          exact segP_cons (XX_sgn (k := k) hT (by omega) (by omega) x2 c0 c1 x1.2 x3 hk ul xu) MX (gW_app gu (gW_rp gu k)) (by rw [List.length_append]; omega) (by omega) S
        · have S := ih (c + 1) dep 2 (by omega) (by omega) (by omega) hdep (Or.inr (Or.inr rfl)) (fun _ y z => x1 ⟨y, z⟩) F2.2
          have MX := MM_grp (hs := 0) (k0 := 0) hT (by omega) (show 0 ≤ i ∧ i < c by omega) hc.2 c0 c1 mu (by omega) (Or.inl ⟨rfl, rfl, fun y z => x1 ⟨y, z⟩⟩)
          rw [show c + 1 + 2 * 0 = c + 1 by omega] at MX
          exact segP_cons (XX_grp hT (by omega) (by omega) hc.2 c0 c1 xu) MX (gW_app gu (gW_rp gu 0)) (by rw [List.length_append]; omega) (by omega) S
      · exact absurd (fS_opn s3 c0 dd) F.1
    · by_cases c1 : T i = 41
      · by_cases dd : 0 < dep ∧ sta ≠ 0
        · exact ⟨fun y => absurd y (by omega), fun _ => ⟨i, [], sta, by omega, c1, fun y => absurd y dd.2, by omega, gW_0 rc, XX_0 T n dep i, MM_0 T n dep i, f⟩⟩
        · exact absurd (fS_cln s3 c1 dd) F.1
      · by_cases dd : 0 ≤ T i - 48 ∧ T i - 48 < rc
        · rw [fS_dig s3 r0.2 dd, fD_no c0 c1, Int.add_zero] at F
          have S := ih (i + 1) dep 1 (by omega) (by omega) (by omega) hdep (Or.inr (Or.inl rfl)) (fun y => absurd y (by decide)) F.2
          refine segP_cons (XX_dig hT hdep.2 il (by omega)) (MM_dig hT il (by omega)) (fun j hj => ?_) (by simp) (by omega) S
          have hj0 : j = 0 := by simpa using hj
          rw [hj0]; exact dd
        · exact absurd (fS_no s3 c0 c1 dd (fun y => s2 y il.2)) F.1
