/-! ===== pure part: reels made and told ===== -/
def tWk (v : rv) (i : Int) : Nat → Int
  | 0 => -100005
  | k + 1 => if tWk v i k = -100005 then v (4 + 14 * i + 2 * (k : Int)) else if tWk v i k ≤ v (4 + 14 * i + 2 * (k : Int)) then tWk v i k else v (4 + 14 * i + 2 * (k : Int))
theorem tWk_R {v : rv} {i : Int} (w : wL v i) (k : Nat) (hk : (k : Int) ≤ v (2 + 14 * i)) : tWk v i k = -100005 ∨ (0 ≤ tWk v i k ∧ tWk v i k ≤ 9) := by
  induction k with
  | zero => exact Or.inl rfl
  | succ k ih =>
    have b := (w.2.2.1 k (by omega) (by omega)).2
    have a := ih (by omega)
    rw [tWk]
    by_cases c : tWk v i k = -100005
    · rw [if_pos c]; exact Or.inr b
    · rw [if_neg c]
      by_cases d : tWk v i k ≤ v (4 + 14 * i + 2 * (k : Int))
      · rw [if_pos d]; exact a
      · rw [if_neg d]; exact Or.inr b
theorem x_least {G : rc_G} {q : Nat} {I : rc_M} {v : rv} {i : Int} {post : Int → rc_M → Prop} (e : eL I q v i) (w : wL v i) (h : post (tWk v i (v (2 + 14 * i)).toNat) I) : wX3_leastStrength G q I post := by
  obtain ⟨e1, e2, e3⟩ := e
  have w2 := w.2.1
  have L : ∀ (d k : Nat), v (2 + 14 * i) - k = d → ∃ n, rX3_leastStrength_5 G post q n (tWk v i k) k I := by
    intro d
    induction d with
    | zero =>
      intro k hd
      refine ⟨1, ?_⟩
      show wX3_leastStrength_5 G post q _ (tWk v i k) k I
      unfold wX3_leastStrength_5
      rw [e2]
      rw [show (v (2 + 14 * i)).toNat = k by omega] at h
      exact ⟨by unfold rc_R; omega, by unfold rc_R; omega, fun _ => h, fun y => absurd y (by omega)⟩
    | succ d ih =>
      intro k hd
      obtain ⟨n, hn⟩ := ih (k + 1) (by omega)
      refine ⟨n + 1, ?_⟩
      show wX3_leastStrength_5 G post q (rX3_leastStrength_5 G post q n) (tWk v i k) k I
      have s := (e3 k (by omega) (by omega)).2
      have b := (w.2.2.1 k (by omega) (by omega)).2
      have R := tWk_R w k (by omega)
      unfold wX3_leastStrength_5 wX3_leastStrength_35 wX3_leastStrength_42
      rw [e2, s]
      rw [tWk, show (((k + 1 : Nat)) : Int) = (k : Int) + 1 by omega] at hn
      refine ⟨by unfold rc_R; omega, by unfold rc_R; omega, fun y => absurd y (by omega), fun _ => ⟨by unfold rc_R; omega, fun y => absurd y (by omega), fun _ => ⟨by unfold rc_R; omega, fun c => ⟨by omega, ?_⟩, fun c => ⟨by omega, by unfold rc_R; omega, by unfold rc_R; omega, fun d => ?_, fun d => ⟨by omega, ?_⟩⟩⟩⟩⟩
      · rw [if_pos c] at hn; exact hn
      · rw [if_neg c, if_pos d] at hn; exact hn
      · rw [if_neg c, if_neg d] at hn; exact hn
  exact L (v (2 + 14 * i)).toNat 0 (by omega)
theorem m_weakest {G : rc_G} {m : Nat} {I : rc_M} {v : rv} {i : Int} {post : Int → rc_M → Prop} (hv : I (m + 1) = v) (hi : 0 ≤ i ∧ i < 10) (w : wL v i) (h : post (tWk v i (v (2 + 14 * i)).toNat) I) : wX8_weakest G m i I post := by
  have w2 := w.2.1
  have e1 : (1 + 14 * i) + 1 = 2 + 14 * i := by omega
  have L : ∀ (d k : Nat), v (2 + 14 * i) - k = d → ∃ n, rX8_weakest_5 G post m i n (tWk v i k) k I := by
    intro d
    induction d with
    | zero =>
      intro k hd
      refine ⟨1, ?_⟩
      show wX8_weakest_5 G post m i _ (tWk v i k) k I
      unfold wX8_weakest_5 wX8_at
      simp only [hv, e1]
      rw [show (v (2 + 14 * i)).toNat = k by omega] at h
      exact ⟨by omega, by unfold rc_R; omega, by unfold rc_R; omega, fun _ => h, fun y => absurd y (by omega)⟩
    | succ d ih =>
      intro k hd
      obtain ⟨n, hn⟩ := ih (k + 1) (by omega)
      refine ⟨n + 1, ?_⟩
      show wX8_weakest_5 G post m i (rX8_weakest_5 G post m i n) (tWk v i k) k I
      have b := (w.2.2.1 k (by omega) (by omega)).2
      have R := tWk_R w k (by omega)
      have e2 : (1 + 14 * i) + (3 + 2 * (k : Int)) = 4 + 14 * i + 2 * (k : Int) := by omega
      unfold wX8_weakest_5 wX8_weakest_47 wX8_weakest_53 wX8_at
      simp only [hv, e1, e2]
      rw [tWk, show (((k + 1 : Nat)) : Int) = (k : Int) + 1 by omega] at hn
      refine ⟨by omega, by unfold rc_R; omega, by unfold rc_R; omega, fun y => absurd y (by omega), fun _ => ⟨by omega, by unfold rc_R; omega, fun c => ?_, fun c => ⟨by unfold rc_R; omega, by unfold rc_R; omega, fun d => ?_, fun d => ?_⟩⟩⟩
      · rw [if_pos c] at hn; exact hn
      · rw [if_neg c, if_pos d] at hn; exact hn
      · rw [if_neg c, if_neg d] at hn; exact hn
  exact L (v (2 + 14 * i)).toNat 0 (by omega)
theorem m_isReel {G : rc_G} {m : Nat} {I : rc_M} {v : rv} {i : Int} {post : Int → rc_M → Prop} (hv : I (m + 1) = v) (s : wS v) (hi : rc_R i) (h : post (if 0 ≤ i ∧ i < v 0 then 1 else 0) I) : wX8_isReel G m i I post := by
  have s0 := s.1
  unfold wX8_isReel
  simp only [hv]
  refine m_in hi (by unfold rc_R; omega) (by unfold rc_R; omega) ?_
  by_cases c : 0 ≤ i ∧ i < v 0
  · rw [if_pos c] at h
    rw [if_pos (by omega)]; exact ⟨Or.inr rfl, h⟩
  · rw [if_neg c] at h
    rw [if_neg (by omega)]; exact ⟨Or.inl rfl, h⟩
theorem op_reel {G : rc_G} {x : Nat} {I : rc_M} {i w : Int} {k : rc_M → Prop} (t : tI G x I) (hi : rc_R i) (hw : rc_R w) (hk : ∀ J : rc_M, tI G x J → k J) : wX7_reel G x i w I (fun r1 I1 => wX8_reel G (x + 88) i w I1 (fun r2 I2 => r1 = r2 ∧ k I2)) := by
  obtain ⟨t0, t1, t2, E, V, t5, t6, t7⟩ := id t
  obtain ⟨v, ev⟩ : ∃ v, v = I (x + 89) := ⟨_, rfl⟩
  rw [← ev] at E V
  have hv : I (x + 88 + 1) = v := ev.symm
  have s0 := V.1.1
  unfold wX7_reel
  refine x_reelNumbered E.1 V.1 hi ?_
  by_cases c : 0 ≤ i ∧ i < v 0
  · rw [if_pos c]
    have wl := V.1.2.2.2.2 i c.1 c.2
    have el := E.1.2.2.2.2 i c.1 c.2
    refine ⟨fun y => (by cases y), fun q y => ?_⟩
    have eq : q = x + 1 + 5 + 3 * i.toNat := by injection y with y; exact y.symm
    rw [← eq] at el
    -- the reference's part
    have M : ∀ r : Int, (w = 0 → r = v (1 + 14 * i)) → (w = 1 → r = v (2 + 14 * i)) → (w = 2 → r = tWk v i (v (2 + 14 * i)).toNat) → (w < 0 ∨ 2 < w → r = -100002) → wX8_reel G (x + 88) i w I (fun r2 I2 => r = r2 ∧ k I2) := by
      intro r h0 h1 h2 h3
      unfold wX8_reel
      refine m_isReel hv V.1 hi ?_
      rw [if_pos c]
      refine ⟨by unfold rc_R; omega, fun _ => m_in hw (by unfold rc_R; omega) (by unfold rc_R; omega) ?_, fun q => absurd q (by decide)⟩
      by_cases d : 0 ≤ w ∧ w ≤ 2
      · rw [if_pos d]
        refine ⟨by unfold rc_R; omega, fun _ => ⟨hw, fun d2 => m_weakest hv (by omega) wl ⟨h2 (by omega), hk I t⟩, fun d2 => ?_⟩, fun q => absurd q (by decide)⟩
        unfold wX8_at
        simp only [hv]
        refine ⟨by omega, ?_, hk I t⟩
        rcases (show w = 0 ∨ w = 1 by omega) with z | z
        · rw [h0 z, z]; congr 1; omega
        · rw [h1 z, z]; congr 1; omega
      · rw [if_neg d]
        exact ⟨rc_R0, fun q => absurd rfl q, fun _ => ⟨h3 (by omega), hk I t⟩⟩
    refine ⟨by rw [eq]; exact k3_of t1.2.1.2.1 (by omega), hw, fun d => ?_, fun d => ?_, fun d => ?_, fun d => ?_⟩
    · rw [el.1]; exact M _ (fun _ => rfl) (fun y => by omega) (fun y => by omega) (fun y => by omega)
    · rw [el.2.1]; exact M _ (fun y => by omega) (fun _ => rfl) (fun y => by omega) (fun y => by omega)
    · exact x_least el wl (M _ (fun y => by omega) (fun y => by omega) (fun _ => rfl) (fun y => by omega))
    · exact M _ (fun y => by omega) (fun y => by omega) (fun y => by omega) (fun _ => rfl)
  · rw [if_neg c]
    refine ⟨fun _ => ?_, fun q y => (by cases y)⟩
    unfold wX8_reel
    refine m_isReel hv V.1 hi ?_
    rw [if_neg c]
    exact ⟨rc_R0, fun q => absurd rfl q, fun _ => ⟨rfl, hk I t⟩⟩
theorem op_spliceAt {G : rc_G} {x : Nat} {I : rc_M} {i n b : Int} {k : rc_M → Prop} (t : tI G x I) (hi : rc_R i) (hn : rc_R n) (hb : b = 0 ∨ b = 1) (hk : ∀ J : rc_M, tI G x J → k J) : wX7_spliceAt G x i n b I (fun r1 I1 => wX8_spliceAt G (x + 88) i n b I1 (fun r2 I2 => r1 = r2 ∧ k I2)) := by
  obtain ⟨t0, t1, t2, E, V, t5, t6, t7⟩ := id t
  obtain ⟨v, ev⟩ : ∃ v, v = I (x + 89) := ⟨_, rfl⟩
  rw [← ev] at E V
  have hv : I (x + 88 + 1) = v := ev.symm
  have s0 := V.1.1
  unfold wX7_spliceAt
  refine x_reelNumbered E.1 V.1 hi ?_
  by_cases c : 0 ≤ i ∧ i < v 0
  · rw [if_pos c]
    have wl := V.1.2.2.2.2 i c.1 c.2
    have el := E.1.2.2.2.2 i c.1 c.2
    have w2 := wl.2.1
    refine ⟨fun y => (by cases y), fun q y => ?_⟩
    have eq : q = x + 1 + 5 + 3 * i.toNat := by injection y with y; exact y.symm
    rw [← eq] at el
    have e1 : (1 + 14 * i) + 1 = 2 + 14 * i := by omega
    have M : ∀ r : Int, (0 ≤ n ∧ n < v (2 + 14 * i) → r = v (3 + 14 * i + 2 * n + b)) → (¬ (0 ≤ n ∧ n < v (2 + 14 * i)) → r = -100001) → wX8_spliceAt G (x + 88) i n b I (fun r2 I2 => r = r2 ∧ k I2) := by
      intro r h0 h1
      unfold wX8_spliceAt
      refine m_isReel hv V.1 hi ?_
      rw [if_pos c]
      refine ⟨by unfold rc_R; omega, fun q => absurd q (by decide), fun _ => ?_⟩
      unfold wX8_at
      simp only [hv, e1]
      refine ⟨by omega, m_in hn (by unfold rc_R; omega) (by unfold rc_R; omega) ?_⟩
      by_cases d : 0 ≤ n ∧ n < v (2 + 14 * i)
      · rw [if_pos (by omega)]
        have a : ∀ y0 : Int, y0 = b → wX8_spliceAt_50 G (fun r2 I2 => r = r2 ∧ k I2) (x + 88) i n b y0 (2 + (2 * n)) i I := by
          intro y0 hy
          unfold wX8_spliceAt_50 wX8_at
          simp only [hv]
          refine ⟨by omega, ?_, hk I t⟩
          rw [h0 d, hy]; congr 1; omega
        refine ⟨by unfold rc_R; omega, fun _ => ⟨by unfold rc_R; omega, fun z => a 0 z.symm, fun z => a 1 (by omega)⟩, fun q => absurd q (by decide)⟩
      · rw [if_neg (by omega)]
        exact ⟨rc_R0, fun q => absurd rfl q, fun _ => ⟨h1 d, hk I t⟩⟩
    refine ⟨by rw [eq]; exact k3_of t1.2.1.2.1 (by omega), x_hasSplice el wl hn ?_⟩
    by_cases d : 0 ≤ n ∧ n < v (2 + 14 * i)
    · rw [if_pos d]
      have s := el.2.2 n d.1 d.2
      refine ⟨by unfold rc_R; omega, fun _ => ⟨by unfold rc_R; omega, fun z => ⟨by omega, ?_⟩, fun z => ⟨by omega, ?_⟩⟩, fun q => absurd q (by decide)⟩
      · rw [s.1]
        have e : b = 0 := z
        exact M _ (fun _ => by rw [e]; congr 1; omega) (fun y => absurd d y)
      · rw [s.2]
        have e : b = 1 := by omega
        exact M _ (fun _ => by rw [e]; congr 1; omega) (fun y => absurd d y)
    · rw [if_neg d]
      exact ⟨rc_R0, fun q => absurd rfl q, fun _ => M _ (fun y => absurd y d) (fun _ => rfl)⟩
  · rw [if_neg c]
    refine ⟨fun _ => ?_, fun q y => (by cases y)⟩
    unfold wX8_spliceAt
    refine m_isReel hv V.1 hi ?_
    rw [if_neg c]
    exact ⟨rc_R0, fun _ => ⟨rfl, hk I t⟩, fun q => absurd rfl q⟩
