/-! ===== pure part: the checksum, the reference's part and the call ===== -/
theorem m_sum {G : rc_G} {m : Nat} {I : rc_M} {v : rv} {post : Int64 → rc_M → Prop} (hv : I (m + 1) = v) (s : wS v) (hh : wH v)
    (h : wX8_isRunning G m I (fun r20 I19 => rc_R r20 ∧ ((r20 = 0 → post (hShow v (hStock v 139)) I19) ∧ (¬ r20 = 0 → wX8_forecastNow G m 0 I19 (fun r24 I23 => wX8_more G (hShow v (hStock v 139)) r24 I23 (fun r26 I25 => wX8_forecastNow G m 1 I25 (fun r28 I27 => wX8_more G r26 r28 I27 (fun r30 I29 => post r30 I29)))))))) : wX8_checksum G m I post := by
  obtain ⟨_, _, _, _, q172, q173, q174, qrow, q191, q195⟩ := id hh
  have s0 := s.1
  have s1 := s.2.1
  unfold hShow hStock at h
  have L6 : ∀ (d k : Nat) (acc : Int64), 9 - k = d → k ≤ 9 → wX8_isRunning G m I (fun r20 I19 => rc_R r20 ∧ ((r20 = 0 → post (hTk v acc 9) I19) ∧ (¬ r20 = 0 → wX8_forecastNow G m 0 I19 (fun r24 I23 => wX8_more G (hTk v acc 9) r24 I23 (fun r26 I25 => wX8_forecastNow G m 1 I25 (fun r28 I27 => wX8_more G r26 r28 I27 (fun r30 I29 => post r30 I29))))))) → ∃ n, rX8_checksum_254 G post m n (hTk v acc k) k I := by
    intro d
    induction d with
    | zero =>
      intro k acc hd hk hp
      refine ⟨1, ?_⟩
      show wX8_checksum_254 G post m (rX8_checksum_254 G post m 0) (hTk v acc k) k I
      unfold wX8_checksum_254
      rw [show k = 9 by omega]
      exact ⟨by unfold rc_R; omega, fun _ => hp, fun y => absurd (by decide) y⟩
    | succ d ih =>
      intro k acc hd hk hp
      obtain ⟨n, hn⟩ := ih (k + 1) acc (by omega) (by omega) hp
      refine ⟨n + 1, ?_⟩
      show wX8_checksum_254 G post m (rX8_checksum_254 G post m n) (hTk v acc k) k I
      unfold wX8_checksum_254 wX8_checksum_291
      rw [hTk, show (((k + 1 : Nat)) : Int) = (k : Int) + 1 by omega] at hn
      have T := (tTask_has (a := (k : Int)) hh).2
      refine ⟨by unfold rc_R; omega, fun y => absurd y (by omega), fun _ => m_taskAt hv q174 (by unfold rc_R; omega) ⟨by unfold rc_R; omega, fun y => ?_, fun y => ?_⟩⟩
      · rw [if_pos y] at hn
        exact ⟨by omega, by omega, hn⟩
      · rw [if_neg y] at hn; exact hn
  have P3 : ∀ (p : Int) (k214 : Int64 → Int → rc_M → Prop) (acc : Int64), p = 0 ∨ p = 1 → k214 (hPj v p acc) (p + 1) I → ∃ n, rX8_checksum_222 G post m k214 n acc p 0 I := by
    intro p k214 acc hp hk
    have S : ∀ (n : Nat) (acc : Int64) (w : Int), 0 ≤ w ∧ w ≤ 2 → rX8_checksum_222 G post m k214 n (mx acc (tProj v p w)) p (w + 1) I → rX8_checksum_222 G post m k214 (n + 1) acc p w I := by
      intro n acc w hw hn
      show wX8_checksum_222 G post m k214 (rX8_checksum_222 G post m k214 n) acc p w I
      unfold wX8_checksum_222
      exact ⟨by unfold rc_R; omega, fun y => absurd y (by omega), fun _ => m_projTells hv hp (by rcases hp with rfl | rfl; exact q191; exact q195) hw hn⟩
    refine ⟨0 + 1 + 1 + 1 + 1, S _ _ 0 (by decide) (S _ _ (0 + 1) (by decide) (S _ _ (0 + 1 + 1) (by decide) ?_))⟩
    show wX8_checksum_222 G post m k214 (rX8_checksum_222 G post m k214 0) _ p (0 + 1 + 1 + 1) I
    unfold wX8_checksum_222
    exact ⟨by unfold rc_R; omega, fun _ => hk, fun y => absurd (by decide) y⟩
  have L5 : ∀ acc : Int64, (∃ n, rX8_checksum_254 G post m n (hPj v 1 (hPj v 0 acc)) 0 I) → ∃ n, rX8_checksum_214 G post m n acc 0 I := by
    intro acc hp
    have F : rX8_checksum_214 G post m (0 + 1) (hPj v 1 (hPj v 0 acc)) (0 + 1 + 1) I := by
      show wX8_checksum_214 G post m (rX8_checksum_214 G post m 0) (hPj v 1 (hPj v 0 acc)) (0 + 1 + 1) I
      unfold wX8_checksum_214
      exact ⟨by unfold rc_R; omega, fun _ => hp, fun y => absurd (by decide) y⟩
    have F1 : rX8_checksum_214 G post m (0 + 1 + 1) (hPj v 0 acc) (0 + 1) I := by
      show wX8_checksum_214 G post m (rX8_checksum_214 G post m (0 + 1)) (hPj v 0 acc) (0 + 1) I
      unfold wX8_checksum_214
      exact ⟨by unfold rc_R; omega, fun y => absurd y (by decide), fun _ => P3 (0 + 1) _ _ (Or.inr rfl) F⟩
    refine ⟨0 + 1 + 1 + 1, ?_⟩
    show wX8_checksum_214 G post m (rX8_checksum_214 G post m (0 + 1 + 1)) acc 0 I
    unfold wX8_checksum_214
    exact ⟨by unfold rc_R; omega, fun y => absurd y (by decide), fun _ => P3 0 _ _ (Or.inl rfl) F1⟩
  have L4 : ∀ (d k : Nat) (acc : Int64), 10 - k = d → k ≤ 10 → (∃ n, rX8_checksum_214 G post m n (hTl v acc 10) 0 I) → ∃ n, rX8_checksum_190 G post m n (hTl v acc k) k I := by
    intro d
    induction d with
    | zero =>
      intro k acc hd hk hp
      refine ⟨1, ?_⟩
      show wX8_checksum_190 G post m (rX8_checksum_190 G post m 0) (hTl v acc k) k I
      unfold wX8_checksum_190
      rw [show k = 10 by omega]
      exact ⟨by unfold rc_R; omega, fun _ => hp, fun y => absurd (by decide) y⟩
    | succ d ih =>
      intro k acc hd hk hp
      obtain ⟨n, hn⟩ := ih (k + 1) acc (by omega) (by omega) hp
      refine ⟨n + 1, ?_⟩
      show wX8_checksum_190 G post m (rX8_checksum_190 G post m n) (hTl v acc k) k I
      unfold wX8_checksum_190
      rw [hTl, show (((k + 1 : Nat)) : Int) = (k : Int) + 1 by omega] at hn
      exact ⟨by unfold rc_R; omega, fun y => absurd y (by omega), fun _ => m_showTells hv hh (by unfold rc_R; omega) hn⟩
  have L3 : ∀ (d k : Nat) (acc : Int64), v 149 - k = d → (∃ n, rX8_checksum_190 G post m n (hPr v acc (v 149).toNat) 0 I) → ∃ n, rX8_checksum_155 G post m n (hPr v acc k) k I := by
    intro d
    induction d with
    | zero =>
      intro k acc hd hp
      refine ⟨1, ?_⟩
      show wX8_checksum_155 G post m (rX8_checksum_155 G post m 0) (hPr v acc k) k I
      unfold wX8_checksum_155
      simp only [hv]
      rw [show (v 149).toNat = k by omega] at hp
      exact ⟨by unfold rc_R; omega, by unfold rc_R; omega, fun _ => hp, fun y => absurd y (by omega)⟩
    | succ d ih =>
      intro k acc hd hp
      obtain ⟨n, hn⟩ := ih (k + 1) acc (by omega) hp
      refine ⟨n + 1, ?_⟩
      show wX8_checksum_155 G post m (rX8_checksum_155 G post m n) (hPr v acc k) k I
      unfold wX8_checksum_155
      simp only [hv]
      rw [hPr, show (((k + 1 : Nat)) : Int) = (k : Int) + 1 by omega] at hn
      exact ⟨by unfold rc_R; omega, by unfold rc_R; omega, fun y => absurd y (by omega), fun _ => ⟨by omega, hn⟩⟩
  have L2 : ∀ (d k : Nat) (acc : Int64), 8 - k = d → k ≤ 8 → (∃ n, rX8_checksum_155 G post m n (mx (hSt v acc 8) (v 149)) 0 I) → ∃ n, rX8_checksum_113 G post m n (hSt v acc k) k I := by
    intro d
    induction d with
    | zero =>
      intro k acc hd hk hp
      refine ⟨1, ?_⟩
      show wX8_checksum_113 G post m (rX8_checksum_113 G post m 0) (hSt v acc k) k I
      unfold wX8_checksum_113
      simp only [hv]
      rw [show k = 8 by omega]
      exact ⟨by unfold rc_R; omega, fun _ => hp, fun y => absurd (by decide) y⟩
    | succ d ih =>
      intro k acc hd hk hp
      obtain ⟨n, hn⟩ := ih (k + 1) acc (by omega) (by omega) hp
      refine ⟨n + 1, ?_⟩
      show wX8_checksum_113 G post m (rX8_checksum_113 G post m n) (hSt v acc k) k I
      unfold wX8_checksum_113
      simp only [hv]
      rw [hSt, show (((k + 1 : Nat)) : Int) = (k : Int) + 1 by omega] at hn
      exact ⟨by unfold rc_R; omega, fun y => absurd y (by omega), fun _ => ⟨by omega, hn⟩⟩
  have L1 : ∀ (d k : Nat) (acc : Int64), v 0 - k = d → (∃ n, rX8_checksum_113 G post m n (hRs v acc (v 0).toNat) 0 I) → ∃ n, rX8_checksum_15 G post m n (hRs v acc k) k I := by
    intro d
    induction d with
    | zero =>
      intro k acc hd hp
      refine ⟨1, ?_⟩
      show wX8_checksum_15 G post m (rX8_checksum_15 G post m 0) (hRs v acc k) k I
      unfold wX8_checksum_15
      simp only [hv]
      rw [show (v 0).toNat = k by omega] at hp
      exact ⟨by unfold rc_R; omega, by unfold rc_R; omega, fun _ => hp, fun y => absurd y (by omega)⟩
    | succ d ih =>
      intro k acc hd hp
      obtain ⟨n, hn⟩ := ih (k + 1) acc (by omega) hp
      refine ⟨n + 1, ?_⟩
      have wl := s.2.2.2.2 (k : Int) (by omega) (by omega)
      have w2 := wl.2.1
      have ea : (1 + 14 * (k : Int)) + 0 = 1 + 14 * (k : Int) := by omega
      have eb : (1 + 14 * (k : Int)) + 1 = 2 + 14 * (k : Int) := by omega
      rw [hRs, show (((k + 1 : Nat)) : Int) = (k : Int) + 1 by omega] at hn
      unfold hR at hn
      have L : ∀ (e j : Nat) (ac : Int64), 2 * v (2 + 14 * (k : Int)) - j = e → rX8_checksum_15 G post m n (hSp v (k : Int) ac (2 * v (2 + 14 * (k : Int))).toNat) ((k : Int) + 1) I → ∃ n2, rX8_checksum_64 G post m (rX8_checksum_15 G post m n) n2 (hSp v (k : Int) ac j) k j I := by
        intro e
        induction e with
        | zero =>
          intro j ac he hp
          refine ⟨1, ?_⟩
          show wX8_checksum_64 G post m (rX8_checksum_15 G post m n) (rX8_checksum_64 G post m (rX8_checksum_15 G post m n) 0) (hSp v (k : Int) ac j) k j I
          unfold wX8_checksum_64 wX8_at
          simp only [hv, eb]
          rw [show (2 * v (2 + 14 * (k : Int))).toNat = j by omega] at hp
          exact ⟨by omega, by unfold rc_R; omega, by unfold rc_R; omega, fun _ => hp, fun y => absurd y (by omega)⟩
        | succ e ih2 =>
          intro j ac he hp
          obtain ⟨n2, hn2⟩ := ih2 (j + 1) ac (by omega) hp
          refine ⟨n2 + 1, ?_⟩
          show wX8_checksum_64 G post m (rX8_checksum_15 G post m n) (rX8_checksum_64 G post m (rX8_checksum_15 G post m n) n2) (hSp v (k : Int) ac j) k j I
          unfold wX8_checksum_64 wX8_at
          have ec : (1 + 14 * (k : Int)) + (2 + (j : Int)) = 3 + 14 * (k : Int) + (j : Int) := by omega
          simp only [hv, eb, ec]
          rw [hSp, show (((j + 1 : Nat)) : Int) = (j : Int) + 1 by omega] at hn2
          exact ⟨by omega, by unfold rc_R; omega, by unfold rc_R; omega, fun y => absurd y (by omega), fun _ => ⟨by omega, hn2⟩⟩
      show wX8_checksum_15 G post m (rX8_checksum_15 G post m n) (hRs v acc k) k I
      unfold wX8_checksum_15 wX8_at wX8_more
      simp only [hv, ea, eb]
      refine ⟨by unfold rc_R; omega, by unfold rc_R; omega, fun y => absurd y (by omega), fun _ => ⟨by omega, by omega, m_weakest hv (by omega) wl ?_⟩⟩
      exact L (2 * v (2 + 14 * (k : Int))).toNat 0 _ (by omega) hn
  unfold wX8_checksum
  simp only [hv]
  exact L1 (v 0).toNat 0 _ (by omega) (L2 8 0 _ rfl (by decide) (L3 (v 149).toNat 0 _ (by omega) (L4 10 0 _ rfl (by decide) (L5 _ (L6 9 0 _ rfl (by decide) h)))))
theorem m_fore_c {v u : rv} (s : wS v) (hh : wH v) (k : v 163 = 0 → wK 0 v) (h : ∀ j : Int, 0 ≤ j → j < 199 → u j = v j) : wS u ∧ wH u ∧ (u 163 = 0 → wK 0 u) :=
  ⟨wS_lo (fun j j0 j1 => h j j0 (by omega)) s, wH_c2 (fun j j0 j1 => h j (by omega) j1) hh, fun a => wK_c hh.2.2.2.2.2.2.1 (fun j j0 j1 => h j (by omega) j1) (k (by rw [← h 163 (by decide) (by decide)]; exact a))⟩
