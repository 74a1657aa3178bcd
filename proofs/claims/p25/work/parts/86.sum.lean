/-! ===== pure part: the checksum ===== -/
def mx (h : Int64) (z : Int) : Int64 := (31 * h) + ((rc_o z).toInt64)
def rvv (v : rv) (i w : Int) : Int := if w = 0 then v (1 + 14 * i) else if w = 1 then v (2 + 14 * i) else tWk v i (v (2 + 14 * i)).toNat
def hSp (v : rv) (i : Int) (h : Int64) : Nat → Int64
  | 0 => h
  | k + 1 => mx (hSp v i h k) (v (3 + 14 * i + (k : Int)))
def hR (v : rv) (i : Int) (h : Int64) : Int64 := hSp v i (mx (mx (mx h (rvv v i 0)) (rvv v i 1)) (rvv v i 2)) (2 * v (2 + 14 * i)).toNat
def hRs (v : rv) (h : Int64) : Nat → Int64
  | 0 => h
  | r + 1 => hR v (r : Int) (hRs v h r)
def hSt (v : rv) (h : Int64) : Nat → Int64
  | 0 => h
  | k + 1 => mx (hSt v h k) (v (141 + (k : Int)))
def hPr (v : rv) (h : Int64) : Nat → Int64
  | 0 => h
  | k + 1 => mx (hPr v h k) (v (150 + (k : Int)))
def hTl (v : rv) (h : Int64) : Nat → Int64
  | 0 => h
  | k + 1 => mx (hTl v h k) (tTell v (k : Int))
def hPj (v : rv) (p : Int) (h : Int64) : Int64 := mx (mx (mx h (tProj v p 0)) (tProj v p 1)) (tProj v p 2)
def hTk (v : rv) (h : Int64) : Nat → Int64
  | 0 => h
  | k + 1 => if 0 ≤ tTask v (k : Int) then mx (mx (hTk v h k) (tTask v (k : Int) % 3)) (tTask v (k : Int) / 3) else hTk v h k
def hStock (v : rv) (h : Int64) : Int64 := hPr v (mx (hSt v (hRs v (mx h (v 0)) (v 0).toNat) 8) (v 149)) (v 149).toNat
def hShow (v : rv) (h : Int64) : Int64 := hTk v (hPj v 1 (hPj v 0 (hTl v h 10))) 9
/-! the program's part -/
theorem x_reel7 {G : rc_G} {x : Nat} {I : rc_M} {v : rv} {i w : Int} {post : Int → rc_M → Prop} (t1 : kX7 G x) (E : eA I (x + 1) v) (s : wS v) (hi : 0 ≤ i ∧ i < v 0) (hw : 0 ≤ w ∧ w ≤ 2) (h : post (rvv v i w) I) : wX7_reel G x i w I post := by
  have s0 := s.1
  have wl := s.2.2.2.2 i hi.1 hi.2
  have el := E.1.2.2.2.2 i hi.1 hi.2
  unfold wX7_reel
  refine x_reelNumbered E.1 s (by unfold rc_R; omega) ?_
  rw [if_pos hi]
  refine ⟨fun y => (by cases y), fun q y => ?_⟩
  have eq : q = x + 1 + 5 + 3 * i.toNat := by injection y with y; exact y.symm
  rw [← eq] at el
  unfold rvv at h
  refine ⟨by rw [eq]; exact k3_of t1.2.1.2.1 (by omega), by unfold rc_R; omega, fun d => ?_, fun d => ?_, fun d => ?_, fun d => absurd d (by omega)⟩
  · rw [if_pos d] at h; rw [el.1]; exact h
  · rw [if_neg (by omega), if_pos d] at h; rw [el.2.1]; exact h
  · rw [if_neg (by omega), if_neg (by omega)] at h; exact x_least el wl h
theorem x_spl7 {G : rc_G} {x : Nat} {I : rc_M} {v : rv} {i n b : Int} {post : Int → rc_M → Prop} (t1 : kX7 G x) (E : eA I (x + 1) v) (s : wS v) (hi : 0 ≤ i ∧ i < v 0) (hn : 0 ≤ n ∧ n < v (2 + 14 * i)) (hb : b = 0 ∨ b = 1) (h : post (v (3 + 14 * i + (2 * n + b))) I) : wX7_spliceAt G x i n b I post := by
  have s0 := s.1
  have wl := s.2.2.2.2 i hi.1 hi.2
  have w2 := wl.2.1
  have el := E.1.2.2.2.2 i hi.1 hi.2
  unfold wX7_spliceAt
  refine x_reelNumbered E.1 s (by unfold rc_R; omega) ?_
  rw [if_pos hi]
  refine ⟨fun y => (by cases y), fun q y => ?_⟩
  have eq : q = x + 1 + 5 + 3 * i.toNat := by injection y with y; exact y.symm
  rw [← eq] at el
  refine ⟨by rw [eq]; exact k3_of t1.2.1.2.1 (by omega), x_hasSplice el wl (by unfold rc_R; omega) ?_⟩
  rw [if_pos hn]
  have sp := el.2.2 n hn.1 hn.2
  refine ⟨by unfold rc_R; omega, fun _ => ⟨by unfold rc_R; omega, fun z => ⟨by omega, ?_⟩, fun z => ⟨by omega, ?_⟩⟩, fun q => absurd q (by decide)⟩
  · rw [sp.1]
    have e : 3 + 14 * i + 2 * n = 3 + 14 * i + (2 * n + b) := by omega
    rw [e]; exact h
  · rw [sp.2]
    have e : 4 + 14 * i + 2 * n = 3 + 14 * i + (2 * n + b) := by omega
    rw [e]; exact h
theorem x_sumReel {G : rc_G} {x : Nat} {I : rc_M} {v : rv} {i : Int} {a1 : Int64} {post : Int64 → rc_M → Prop} (t1 : kX7 G x) (E : eA I (x + 1) v) (s : wS v) (hi : 0 ≤ i ∧ i < v 0) (h : post (hR v i a1) I) : wX7_sumReel G x a1 i I post := by
  have wl := s.2.2.2.2 i hi.1 hi.2
  have w2 := wl.2.1
  have S : ∀ (n : Nat) (acc : Int64) (w : Int), 0 ≤ w ∧ w ≤ 2 → rX7_sumReel_6 G post x a1 i n (mx acc (rvv v i w)) (w + 1) I → rX7_sumReel_6 G post x a1 i (n + 1) acc w I := by
    intro n acc w hw hn
    show wX7_sumReel_6 G post x a1 i (rX7_sumReel_6 G post x a1 i n) acc w I
    unfold wX7_sumReel_6
    exact ⟨by unfold rc_R; omega, fun y => absurd y (by omega), fun _ => x_reel7 t1 E s hi hw hn⟩
  have L : ∀ (d k : Nat) (acc : Int64), v (2 + 14 * i) - k = d → post (hSp v i acc (2 * v (2 + 14 * i)).toNat) I → ∃ n, rX7_sumReel_44 G post x a1 i n (hSp v i acc (2 * k)) (v (2 + 14 * i)) k I := by
    intro d
    induction d with
    | zero =>
      intro k acc hd hp
      refine ⟨1, ?_⟩
      show wX7_sumReel_44 G post x a1 i (rX7_sumReel_44 G post x a1 i 0) (hSp v i acc (2 * k)) (v (2 + 14 * i)) k I
      unfold wX7_sumReel_44 wX7_mix
      rw [show (2 * v (2 + 14 * i)).toNat = 2 * k by omega] at hp
      exact ⟨by unfold rc_R; omega, by unfold rc_R; omega, fun _ => hp, fun y => absurd y (by omega)⟩
    | succ d ih =>
      intro k acc hd hp
      obtain ⟨n, hn⟩ := ih (k + 1) acc (by omega) hp
      refine ⟨n + 1, ?_⟩
      show wX7_sumReel_44 G post x a1 i (rX7_sumReel_44 G post x a1 i n) (hSp v i acc (2 * k)) (v (2 + 14 * i)) k I
      unfold wX7_sumReel_44 wX7_mix
      rw [show 2 * (k + 1) = 2 * k + 1 + 1 by omega, hSp, hSp, show (((k + 1 : Nat)) : Int) = (k : Int) + 1 by omega, show (((2 * k + 1 : Nat)) : Int) = 2 * (k : Int) + 1 by omega, show (((2 * k : Nat)) : Int) = 2 * (k : Int) + 0 by omega] at hn
      exact ⟨by unfold rc_R; omega, by unfold rc_R; omega, fun y => absurd y (by omega), fun _ => x_spl7 t1 E s hi (by omega) (Or.inl rfl) (x_spl7 t1 E s hi (by omega) (Or.inr rfl) hn)⟩
  unfold wX7_sumReel
  refine ⟨0 + 1 + 1 + 1 + 1, S _ _ 0 (by decide) (S _ _ (0 + 1) (by decide) (S _ _ (0 + 1 + 1) (by decide) ?_))⟩
  show wX7_sumReel_6 G post x a1 i (rX7_sumReel_6 G post x a1 i 0) _ (0 + 1 + 1 + 1) I
  unfold wX7_sumReel_6
  refine ⟨by unfold rc_R; omega, fun _ => x_reel7 t1 E s hi (by decide) ?_, fun y => absurd (by decide) y⟩
  exact L (v (2 + 14 * i)).toNat 0 _ (by omega) h
theorem x_sumStock {G : rc_G} {x : Nat} {I : rc_M} {v : rv} {a1 : Int64} {post : Int64 → rc_M → Prop} (t1 : kX7 G x) (E : eA I (x + 1) v) (s : wS v) (h : post (hStock v a1) I) : wX7_sumStock G x a1 I post := by
  have s0 := s.1
  have s1 := s.2.1
  have i0 : I (x + 1 + 1) 0 = v 0 := E.1.1
  have i1 : I (x + 1 + 1) 1 = v 149 := E.1.2.1
  unfold hStock at h
  have L3 : ∀ (d k : Nat) (acc : Int64), v 149 - k = d → post (hPr v acc (v 149).toNat) I → ∃ n, rX7_sumStock_92 G post x a1 n (hPr v acc k) k I := by
    intro d
    induction d with
    | zero =>
      intro k acc hd hp
      refine ⟨1, ?_⟩
      show wX7_sumStock_92 G post x a1 (rX7_sumStock_92 G post x a1 0) (hPr v acc k) k I
      unfold wX7_sumStock_92
      rw [i1]
      rw [show (v 149).toNat = k by omega] at hp
      exact ⟨by unfold rc_R; omega, by unfold rc_R; omega, fun _ => hp, fun y => absurd y (by omega)⟩
    | succ d ih =>
      intro k acc hd hp
      obtain ⟨n, hn⟩ := ih (k + 1) acc (by omega) hp
      refine ⟨n + 1, ?_⟩
      show wX7_sumStock_92 G post x a1 (rX7_sumStock_92 G post x a1 n) (hPr v acc k) k I
      unfold wX7_sumStock_92 wX7_program
      rw [i1]
      rw [hPr, show (((k + 1 : Nat)) : Int) = (k : Int) + 1 by omega] at hn
      refine ⟨by unfold rc_R; omega, by unfold rc_R; omega, fun y => absurd y (by omega), fun _ => x_numberAt E.1 s (by unfold rc_R; omega) ?_⟩
      rw [if_pos (by omega)]; exact hn
  have L2 : ∀ (d k : Nat) (acc : Int64), 8 - k = d → k ≤ 8 → (∃ n, rX7_sumStock_92 G post x a1 n (mx (hSt v acc 8) (v 149)) 0 I) → ∃ n, rX7_sumStock_50 G post x a1 n (hSt v acc k) k I := by
    intro d
    induction d with
    | zero =>
      intro k acc hd hk hp
      refine ⟨1, ?_⟩
      show wX7_sumStock_50 G post x a1 (rX7_sumStock_50 G post x a1 0) (hSt v acc k) k I
      unfold wX7_sumStock_50
      rw [i1, show k = 8 by omega]
      exact ⟨by unfold rc_R; omega, fun _ => hp, fun y => absurd (by decide) y⟩
    | succ d ih =>
      intro k acc hd hk hp
      obtain ⟨n, hn⟩ := ih (k + 1) acc (by omega) (by omega) hp
      refine ⟨n + 1, ?_⟩
      show wX7_sumStock_50 G post x a1 (rX7_sumStock_50 G post x a1 n) (hSt v acc k) k I
      unfold wX7_sumStock_50
      rw [hSt, show (((k + 1 : Nat)) : Int) = (k : Int) + 1 by omega] at hn
      exact ⟨by unfold rc_R; omega, fun y => absurd y (by omega), fun _ => x_setting E.1 (by omega) hn⟩
  have L1 : ∀ (d k : Nat) (acc : Int64), v 0 - k = d → (∃ n, rX7_sumStock_50 G post x a1 n (hRs v acc (v 0).toNat) 0 I) → ∃ n, rX7_sumStock_22 G post x a1 n (hRs v acc k) k I := by
    intro d
    induction d with
    | zero =>
      intro k acc hd hp
      refine ⟨1, ?_⟩
      show wX7_sumStock_22 G post x a1 (rX7_sumStock_22 G post x a1 0) (hRs v acc k) k I
      unfold wX7_sumStock_22
      rw [i0]
      rw [show (v 0).toNat = k by omega] at hp
      exact ⟨by unfold rc_R; omega, by unfold rc_R; omega, fun _ => hp, fun y => absurd y (by omega)⟩
    | succ d ih =>
      intro k acc hd hp
      obtain ⟨n, hn⟩ := ih (k + 1) acc (by omega) hp
      refine ⟨n + 1, ?_⟩
      show wX7_sumStock_22 G post x a1 (rX7_sumStock_22 G post x a1 n) (hRs v acc k) k I
      unfold wX7_sumStock_22
      rw [i0]
      rw [hRs, show (((k + 1 : Nat)) : Int) = (k : Int) + 1 by omega] at hn
      exact ⟨by unfold rc_R; omega, by unfold rc_R; omega, fun y => absurd y (by omega), fun _ => x_sumReel t1 E s (by omega) hn⟩
  unfold wX7_sumStock
  rw [i0]
  exact L1 (v 0).toNat 0 _ (by omega) (L2 8 0 _ rfl (by decide) (L3 (v 149).toNat 0 _ (by omega) h))
theorem x_sumShow {G : rc_G} {x : Nat} {I : rc_M} {v : rv} {a1 : Int64} {post : Int64 → rc_M → Prop} (t1 : kX7 G x) (E : eA I (x + 1) v) (hh : wH v) (h : post (hShow v a1) I) : wX7_sumShow G x a1 I post := by
  obtain ⟨_, _, _, _, q172, q173, q174, qrow, q191, q195⟩ := id hh
  unfold hShow at h
  have L3 : ∀ (d k : Nat) (acc : Int64), 9 - k = d → k ≤ 9 → post (hTk v acc 9) I → ∃ n, rX7_sumShow_77 G post x a1 n (hTk v acc k) k I := by
    intro d
    induction d with
    | zero =>
      intro k acc hd hk hp
      refine ⟨1, ?_⟩
      show wX7_sumShow_77 G post x a1 (rX7_sumShow_77 G post x a1 0) (hTk v acc k) k I
      unfold wX7_sumShow_77
      rw [show k = 9 by omega]
      exact ⟨by unfold rc_R; omega, fun _ => hp, fun y => absurd (by decide) y⟩
    | succ d ih =>
      intro k acc hd hk hp
      obtain ⟨n, hn⟩ := ih (k + 1) acc (by omega) (by omega) hp
      refine ⟨n + 1, ?_⟩
      show wX7_sumShow_77 G post x a1 (rX7_sumShow_77 G post x a1 n) (hTk v acc k) k I
      unfold wX7_sumShow_77 wX7_sumShow_128 wX7_mix
      rw [hTk, show (((k + 1 : Nat)) : Int) = (k : Int) + 1 by omega] at hn
      have T := (tTask_has (a := (k : Int)) hh).1
      refine ⟨by unfold rc_R; omega, fun y => absurd y (by omega), fun _ => x_hasTask E.2.2.1 q173 (by omega) (by unfold rc_R; omega) ?_⟩
      by_cases c : ((k : Int) = 0 ∧ 0 ≤ v 172) ∨ (0 < (k : Int) ∧ (k : Int) ≤ v 174)
      · rw [if_pos c]
        have T2 := T.mpr c
        rw [if_pos T2] at hn
        refine ⟨by unfold rc_R; omega, fun y => absurd y (by decide), fun _ => x_task E hh (by unfold rc_R; omega) rc_R0 ?_⟩
        rw [if_pos T2, if_pos rfl]
        refine x_task E hh (by unfold rc_R; omega) (by unfold rc_R; omega) ?_
        rw [if_pos T2, if_neg (by decide), if_pos rfl]
        exact hn
      · rw [if_neg c]
        rw [if_neg (fun y => c (T.mp y))] at hn
        exact ⟨rc_R0, fun _ => hn, fun y => absurd rfl y⟩
  have P3 : ∀ (p : Int) (k33 : Int64 → Int → rc_M → Prop) (acc : Int64), p = 0 ∨ p = 1 → k33 (hPj v p acc) (p + 1) I → ∃ n, rX7_sumShow_42 G post x a1 k33 n acc p 0 I := by
    intro p k33 acc hp hk
    have S : ∀ (n : Nat) (acc : Int64) (w : Int), 0 ≤ w ∧ w ≤ 2 → rX7_sumShow_42 G post x a1 k33 n (mx acc (tProj v p w)) p (w + 1) I → rX7_sumShow_42 G post x a1 k33 (n + 1) acc p w I := by
      intro n acc w hw hn
      show wX7_sumShow_42 G post x a1 k33 (rX7_sumShow_42 G post x a1 k33 n) acc p w I
      unfold wX7_sumShow_42
      refine ⟨by unfold rc_R; omega, fun y => absurd y (by omega), fun _ => x_projTells t1.2.1.2.2 E hh (by unfold rc_R; omega) (by unfold rc_R; omega) ?_⟩
      rw [if_pos (by omega), if_pos hw]; exact hn
    refine ⟨0 + 1 + 1 + 1 + 1, S _ _ 0 (by decide) (S _ _ (0 + 1) (by decide) (S _ _ (0 + 1 + 1) (by decide) ?_))⟩
    show wX7_sumShow_42 G post x a1 k33 (rX7_sumShow_42 G post x a1 k33 0) _ p (0 + 1 + 1 + 1) I
    unfold wX7_sumShow_42
    exact ⟨by unfold rc_R; omega, fun _ => hk, fun y => absurd (by decide) y⟩
  have L2 : ∀ acc : Int64, (∃ n, rX7_sumShow_77 G post x a1 n (hPj v 1 (hPj v 0 acc)) 0 I) → ∃ n, rX7_sumShow_33 G post x a1 n acc 0 I := by
    intro acc hp
    have F : rX7_sumShow_33 G post x a1 (0 + 1) (hPj v 1 (hPj v 0 acc)) (0 + 1 + 1) I := by
      show wX7_sumShow_33 G post x a1 (rX7_sumShow_33 G post x a1 0) (hPj v 1 (hPj v 0 acc)) (0 + 1 + 1) I
      unfold wX7_sumShow_33
      exact ⟨by unfold rc_R; omega, fun _ => hp, fun y => absurd (by decide) y⟩
    have F1 : rX7_sumShow_33 G post x a1 (0 + 1 + 1) (hPj v 0 acc) (0 + 1) I := by
      show wX7_sumShow_33 G post x a1 (rX7_sumShow_33 G post x a1 (0 + 1)) (hPj v 0 acc) (0 + 1) I
      unfold wX7_sumShow_33
      exact ⟨by unfold rc_R; omega, fun y => absurd y (by decide), fun _ => P3 (0 + 1) _ _ (Or.inr rfl) F⟩
    refine ⟨0 + 1 + 1 + 1, ?_⟩
    show wX7_sumShow_33 G post x a1 (rX7_sumShow_33 G post x a1 (0 + 1 + 1)) acc 0 I
    unfold wX7_sumShow_33
    exact ⟨by unfold rc_R; omega, fun y => absurd y (by decide), fun _ => P3 0 _ _ (Or.inl rfl) F1⟩
  have L1 : ∀ (d k : Nat) (acc : Int64), 10 - k = d → k ≤ 10 → (∃ n, rX7_sumShow_33 G post x a1 n (hTl v acc 10) 0 I) → ∃ n, rX7_sumShow_5 G post x a1 n (hTl v acc k) k I := by
    intro d
    induction d with
    | zero =>
      intro k acc hd hk hp
      refine ⟨1, ?_⟩
      show wX7_sumShow_5 G post x a1 (rX7_sumShow_5 G post x a1 0) (hTl v acc k) k I
      unfold wX7_sumShow_5
      rw [show k = 10 by omega]
      exact ⟨by unfold rc_R; omega, fun _ => hp, fun y => absurd (by decide) y⟩
    | succ d ih =>
      intro k acc hd hk hp
      obtain ⟨n, hn⟩ := ih (k + 1) acc (by omega) (by omega) hp
      refine ⟨n + 1, ?_⟩
      show wX7_sumShow_5 G post x a1 (rX7_sumShow_5 G post x a1 n) (hTl v acc k) k I
      unfold wX7_sumShow_5 wX7_tell
      rw [hTl, show (((k + 1 : Nat)) : Int) = (k : Int) + 1 by omega] at hn
      refine ⟨by unfold rc_R; omega, fun y => absurd y (by omega), fun _ => x_count E.2 (by unfold rc_R; omega) ?_⟩
      rw [if_pos (by omega)]; exact hn
  unfold wX7_sumShow
  exact L1 10 0 _ rfl (by decide) (L2 _ (L3 9 0 _ rfl (by decide) h))
