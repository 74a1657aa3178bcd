/-! ===== pure part: both ways over a text come to the same fault ===== -/
/-- the letters from i on go through, i.e. the text has no fault -/
def fA (T : Int → Int) (rc : Int) : Nat → Int → Int → Int → Prop
  | 0, _, dep, sta => dep = 0 ∧ (sta = 1 ∨ sta = 2)
  | d + 1, i, dep, sta => fS rc dep sta (T i) ≠ -100005 ∧ fA T rc d (i + 1) (dep + fD (T i)) (fS rc dep sta (T i))
theorem fA_s {T : Int → Int} {n rc i dep sta s : Int} (hi : i < n) (e : fS rc dep sta (T i) = s) (ne : s ≠ -100005) (h : fA T rc (n - (i + 1)).toNat (i + 1) (dep + fD (T i)) s) : fA T rc (n - i).toNat i dep sta := by
  rw [show (n - i).toNat = (n - (i + 1)).toNat + 1 by omega, fA, e]
  exact ⟨ne, h⟩
theorem fS_3 {rc dep c : Int} (h : 50 ≤ c ∧ c ≤ 57) : fS rc dep 3 c = 1 := by unfold fS; rw [if_pos rfl, if_pos h]
theorem fS_3n {rc dep c : Int} (h : ¬ (50 ≤ c ∧ c ≤ 57)) : fS rc dep 3 c = -100005 := by unfold fS; rw [if_pos rfl, if_neg h]
theorem fS_dig {rc dep sta c : Int} (s : sta ≠ 3) (r : rc ≤ 10) (h : 0 ≤ c - 48 ∧ c - 48 < rc) : fS rc dep sta c = 1 := by unfold fS; rw [if_neg s, if_pos (by omega), if_pos h.2]
theorem fS_op {rc dep sta c : Int} (s : sta ≠ 3) (h : c = 40) (d : dep < 3) : fS rc dep sta c = 0 := by unfold fS; rw [if_neg s, if_neg (by omega), if_pos h, if_pos d]
theorem fS_opn {rc dep sta c : Int} (s : sta ≠ 3) (h : c = 40) (d : ¬ dep < 3) : fS rc dep sta c = -100005 := by unfold fS; rw [if_neg s, if_neg (by omega), if_pos h, if_neg d]
theorem fS_cl {rc dep sta c : Int} (s : sta ≠ 3) (h : c = 41) (d : 0 < dep ∧ sta ≠ 0) : fS rc dep sta c = 2 := by unfold fS; rw [if_neg s, if_neg (by omega), if_neg (by omega), if_pos h, if_pos d]
theorem fS_cln {rc dep sta c : Int} (s : sta ≠ 3) (h : c = 41) (d : ¬ (0 < dep ∧ sta ≠ 0)) : fS rc dep sta c = -100005 := by unfold fS; rw [if_neg s, if_neg (by omega), if_neg (by omega), if_pos h, if_neg d]
theorem fS_x {rc dep c : Int} (h : c = 120) : fS rc dep 2 c = 3 := by unfold fS; rw [if_neg (by decide), if_neg (by omega), if_neg (by omega), if_neg (by omega), if_pos h, if_pos rfl]
theorem fS_no {rc dep sta c : Int} (s : sta ≠ 3) (h0 : c ≠ 40) (h1 : c ≠ 41) (h : ¬ (0 ≤ c - 48 ∧ c - 48 < rc)) (x : sta = 2 → c ≠ 120) : fS rc dep sta c = -100005 := by
  unfold fS
  rw [if_neg s]
  by_cases z : 48 ≤ c ∧ c ≤ 57
  · rw [if_pos z, if_neg (by omega)]
  · rw [if_neg z, if_neg h0, if_neg h1]
    by_cases y : c = 120
    · rw [if_pos y, if_neg (fun q => x q y)]
    · rw [if_neg y]
theorem fD_op {c : Int} (h : c = 40) : fD c = 1 := by unfold fD; rw [if_pos h]
theorem fD_cl {c : Int} (h : c = 41) : fD c = -1 := by unfold fD; rw [if_neg (by omega), if_pos h]
theorem fD_no {c : Int} (h : c ≠ 40) (h1 : c ≠ 41) : fD c = 0 := by unfold fD; rw [if_neg h, if_neg h1]
theorem text_both {T : Int → Int} {n rc : Int} (hT : fT T n rc) : ∀ (d : Nat) (i dep sta : Int), n - i ≤ d → 0 ≤ i → i ≤ n → (0 ≤ dep ∧ dep ≤ 3) → (sta = 0 ∨ sta = 1 ∨ sta = 2) → (sta = 0 → 0 < dep ∨ i = 0) → (sta ≠ 0 → 0 < i) → (sta = 2 → i < n → T i ≠ 120) →
    ∃ pos dp : Int, ((pos = -100005 ∧ fA T rc (n - i).toNat i dep sta) ∨ (0 ≤ pos ∧ pos ≤ n)) ∧ pX T n rc i dep sta pos dp ∧ pM T n rc i dep (if sta = 0 then 0 else 1) pos dp := by
  intro d
  have r0 := hT.2.1
  induction d with
  | zero =>
    intro i dep sta hd i0 i1 hdep hsta s0 s1 s2
    have e : i = n := by omega
    subst e
    have X := pX_end (dep := dep) (sta := sta) hT hdep (by omega)
    have M := pM_end (dep := dep) (fil := if sta = 0 then 0 else 1) hT hdep
    by_cases a : dep = 0 ∧ (sta = 1 ∨ sta = 2)
    · have b : dep = 0 ∧ 0 < i := ⟨a.1, s1 (by omega)⟩
      rw [if_pos a] at X
      rw [if_pos b] at M
      refine ⟨_, _, Or.inl ⟨rfl, ?_⟩, X, M⟩
      rw [show (i - i).toNat = 0 by omega, fA]; exact a
    · have b : ¬ (dep = 0 ∧ 0 < i) := fun y => by
        rcases hsta with z | z | z
        · have := s0 z; omega
        · exact a ⟨y.1, Or.inl z⟩
        · exact a ⟨y.1, Or.inr z⟩
      rw [if_neg a] at X
      rw [if_neg b] at M
      exact ⟨_, _, Or.inr (by omega), X, M⟩
  | succ d ih =>
    intro i dep sta hd i0 i1 hdep hsta s0 s1 s2
    by_cases en : n - i ≤ d
    · exact ih i dep sta en i0 i1 hdep hsta s0 s1 s2
    have il : 0 ≤ i ∧ i < n := by omega
    have hs : 0 ≤ sta ∧ sta ≤ 3 := by omega
    have s3 : sta ≠ 3 := by omega
    have fl : (if sta = 0 then (0 : Int) else 1) = 0 ∨ (if sta = 0 then (0 : Int) else 1) = 1 := by
      by_cases z : sta = 0
      · rw [if_pos z]; exact Or.inl rfl
      · rw [if_neg z]; exact Or.inr rfl
    by_cases c0 : T i = 40
    · by_cases dd : dep < 3
      · obtain ⟨pos, dp, A, X, M⟩ := ih (i + 1) (dep + 1) 0 (by omega) (by omega) (by omega) (by omega) (Or.inl rfl) (fun _ => Or.inl (by omega)) (fun y => absurd rfl y) (fun y => absurd y (by decide))
        have e := fS_op (rc := rc) s3 c0 dd
        have f := fD_op c0
        refine ⟨pos, dp, A.imp (fun y => ⟨y.1, fA_s il.2 e (by decide) (by rw [f]; exact y.2)⟩) id, pX_go hT hdep hs il e (by decide) (by rw [f]; exact X), pM_open hT (by omega) il c0 ?_⟩
        rw [if_pos rfl] at M; exact M
      · have e := fS_opn (rc := rc) s3 c0 dd
        exact ⟨i, dep, Or.inr (by omega), pX_no hT hdep hs il e, pM_no hT hdep il (Or.inl ⟨c0, by omega⟩) fl⟩
    · by_cases c1 : T i = 41
      · by_cases dd : 0 < dep ∧ sta ≠ 0
        · have e := fS_cl (rc := rc) s3 c1 dd
          have f := fD_cl c1
          have ef : (if sta = 0 then (0 : Int) else 1) = 1 := if_neg dd.2
          rw [ef]
          by_cases x1 : i + 1 < n ∧ T (i + 1) = 120
          · have e1 := fS_x (rc := rc) (dep := dep - 1) x1.2
            have f1 := fD_no (c := T (i + 1)) (by omega) (by omega)
            have gX : ∀ pos dp : Int, pX T n rc (i + 1 + 1) (dep - 1) 3 pos dp → pX T n rc i dep sta pos dp := fun pos dp h => pX_go hT hdep hs il e (by decide) (by
              rw [f]
              exact pX_go hT (by omega) (by decide) (by omega) e1 (by decide) (by rw [f1, show dep + -1 + 0 = dep - 1 by omega]; exact h))
            by_cases x2 : i + 2 < n ∧ (50 ≤ T (i + 2) ∧ T (i + 2) ≤ 57)
            · obtain ⟨pos, dp, A, X, M⟩ := ih (i + 3) (dep - 1) 1 (by omega) (by omega) (by omega) (by omega) (Or.inr (Or.inl rfl)) (fun y => absurd y (by decide)) (fun _ => by omega) (fun y => absurd y (by decide))
              rw [if_neg (by decide)] at M
              have i3 : i + 1 + 1 + 1 = i + 3 := by omega
              have i2 : i + 1 + 1 = i + 2 := by omega
              have e2 := fS_3 (rc := rc) (dep := dep - 1) x2.2
              have f2 := fD_no (c := T (i + 2)) (by omega) (by omega)
              refine ⟨pos, dp, A.imp (fun y => ⟨y.1, ?_⟩) id, gX pos dp ?_, pM_sign hT (by omega) (by omega) c1 x1.2 x2.2 M⟩
              · refine fA_s il.2 e (by decide) ?_
                rw [f]
                refine fA_s x1.1 e1 (by decide) ?_
                rw [f1, i2, show dep + -1 + 0 = dep - 1 by omega]
                refine fA_s x2.1 e2 (by decide) ?_
                rw [f2, show i + 2 + 1 = i + 3 by omega, show dep - 1 + 0 = dep - 1 by omega]; exact y.2
              · rw [i2]
                exact pX_go hT (by omega) (by decide) (by omega) e2 (by decide) (by rw [f2, show i + 2 + 1 = i + 3 by omega, show dep - 1 + 0 = dep - 1 by omega]; exact X)
            · refine ⟨i + 2, dep - 1, Or.inr (by omega), gX _ _ ?_, pM_bad hT (by omega) (by omega) c1 x1.2 (fun y z => x2 ⟨y, z⟩)⟩
              rw [show i + 1 + 1 = i + 2 by omega]
              by_cases z : i + 2 < n
              · exact pX_no hT (by omega) (by decide) (by omega) (fS_3n (fun y => x2 ⟨z, y⟩))
              · have X := pX_end (dep := dep - 1) (sta := 3) hT (by omega) (by decide)
                rw [if_neg (by omega)] at X
                rw [show i + 2 = n by omega]; exact X
          · obtain ⟨pos, dp, A, X, M⟩ := ih (i + 1) (dep - 1) 2 (by omega) (by omega) (by omega) (by omega) (Or.inr (Or.inr rfl)) (fun y => absurd y (by decide)) (fun _ => by omega) (fun _ y z => x1 ⟨y, z⟩)
            rw [if_neg (by decide)] at M
            exact ⟨pos, dp, A.imp (fun y => ⟨y.1, fA_s il.2 e (by decide) (by rw [f]; exact y.2)⟩) id, pX_go hT hdep hs il e (by decide) (by rw [f]; exact X), pM_close hT (by omega) il c1 (fun y z => x1 ⟨y, z⟩) M⟩
        · have e := fS_cln (rc := rc) s3 c1 dd
          refine ⟨i, dep, Or.inr (by omega), pX_no hT hdep hs il e, pM_no hT hdep il (Or.inr (Or.inl ⟨c1, ?_⟩)) fl⟩
          by_cases z : sta = 0
          · rw [if_pos z]; exact Or.inr rfl
          · exact Or.inl (by omega)
      · by_cases dd : 0 ≤ T i - 48 ∧ T i - 48 < rc
        · obtain ⟨pos, dp, A, X, M⟩ := ih (i + 1) dep 1 (by omega) (by omega) (by omega) hdep (Or.inr (Or.inl rfl)) (fun y => absurd y (by decide)) (fun _ => by omega) (fun y => absurd y (by decide))
          rw [if_neg (by decide)] at M
          have e := fS_dig (dep := dep) s3 r0.2 dd
          have f := fD_no c0 c1
          exact ⟨pos, dp, A.imp (fun y => ⟨y.1, fA_s il.2 e (by decide) (by rw [f, Int.add_zero]; exact y.2)⟩) id, pX_go hT hdep hs il e (by decide) (by rw [f, Int.add_zero]; exact X), pM_digit hT hdep il dd M⟩
        · have e := fS_no (dep := dep) s3 c0 c1 dd (fun y => s2 y il.2)
          exact ⟨i, dep, Or.inr (by omega), pX_no hT hdep hs il e, pM_no hT hdep il (Or.inr (Or.inr ⟨c0, c1, dd⟩)) fl⟩
theorem op_text {G : rc_G} {x : Nat} {I : rc_M} (t : tI G x I) : ∃ pos dp : Int, ((pos = -100005 ∧ fA (I (x + 96)) (I (x + 89) 0) (I (x + 88) 8).toNat 0 0 0) ∨ (0 ≤ pos ∧ pos ≤ 60)) ∧
    (∀ post : Int → rc_M → Prop, (∀ J : rc_M, (∀ a : Nat, a ≠ x + 84 → J a = I a) → J (x + 84) 2 = I (x + 88) 8 → J (x + 84) 0 = dp → post pos J) → wX1_findFault G (x + 84) (I (x + 1 + 1) 0) I post) ∧
    (∀ (J : rc_M) (post : Int → rc_M → Prop), (∀ a : Nat, x + 88 ≤ a → J a = I a) → (∀ K : rc_M, (∀ a : Nat, a ≠ x + 88 → a ≠ x + 97 → K a = J a) → K (x + 88) 8 = I (x + 88) 8 → K (x + 88) 10 = dp → (pos ≠ -100005 → K (x + 88) 9 = pos) → post (if pos = -100005 then 1 else 0) K) → wX8_isText G (x + 88) J post) := by
  obtain ⟨t0, t1, t2, E, V, ⟨T1, T2, T3⟩, t6, t7⟩ := t
  have s0 := V.1.1
  have e0 : I (x + 1 + 1) 0 = I (x + 89) 0 := E.1.1
  have hT : fT (I (x + 96)) (I (x + 88) 8) (I (x + 89) 0) := ⟨T2, s0, fun k k0 k1 => (T3 k k0 k1).2⟩
  obtain ⟨pos, dp, A, X, M⟩ := text_both hT (I (x + 88) 8).toNat 0 0 0 (by omega) (by omega) (by omega) (by omega) (Or.inl rfl) (fun _ => Or.inr rfl) (fun y => absurd rfl y) (fun y => absurd y (by decide))
  rw [show (I (x + 88) 8 - 0).toNat = (I (x + 88) 8).toNat by omega] at A
  refine ⟨pos, dp, A.imp id (fun y => by omega), fun post H => ?_, fun J post jo H => ?_⟩
  · rw [e0]
    unfold wX1_findFault
    intro I1 e1 I2 e2
    rw [e1] at e2
    rw [e2]
    refine X G (x + 84) post _ (by rw [qs_s, rc_u_n _ _ (by decide), qs_s, rc_u_s]) (by rw [qs_s, rc_u_s]) (by rw [qs_s, rc_u_n _ _ (by decide), qs_s, rc_u_n _ _ (by decide)]; exact T1) (fun k k0 k1 => by rw [qs_n _ _ _ (by omega), qs_n _ _ _ (by omega)]; exact (T3 k k0 k1).1) (fun J a b c => H J (fun y hy => by rw [a y hy, qs_n _ _ _ hy, qs_n _ _ _ hy]) b c)
  · unfold wX8_isText
    intro I1 e1 I2 e2
    rw [e1] at e2
    rw [e2]
    have j88 : J (x + 88) = I (x + 88) := jo _ (by omega)
    rw [if_pos rfl] at M
    refine M G (x + 88) post _ (by rw [qs_s, rc_u_n _ _ (by decide), qs_s, rc_u_s]) (by rw [qs_s, rc_u_s]) (fun y => absurd y (by decide)) (by rw [qs_s, rc_u_n _ _ (by decide), qs_s, rc_u_n _ _ (by decide), j88]) (fun k k0 k1 => by rw [qs_n _ _ _ (by omega), qs_n _ _ _ (by omega), jo _ (by omega)]) (by rw [qs_n _ _ _ (by omega), qs_n _ _ _ (by omega), jo _ (by omega)]) (fun K a b c d => H K (fun y y1 y2 => by rw [a y y1 y2, qs_n _ _ _ y1, qs_n _ _ _ y1]) b c d)
theorem tI_fault {G : rc_G} {x : Nat} {I K : rc_M} (t : tI G x I) (h : ∀ a : Nat, (a < x + 84 ∨ x + 88 < a) → a ≠ x + 97 → a ≠ x + 98 → a ≠ x + 99 → a ≠ x + 100 → K a = I a) (h86 : K (x + 86) = I (x + 86)) (h2 : K (x + 84) 2 = I (x + 88) 8) (h4 : K (x + 88) 8 = I (x + 88) 8) : tI G x K := by
  refine tI_text t (fun a a1 _ a3 a4 a5 a6 => h a a1 a3 a4 a5 a6) ?_
  obtain ⟨T1, T2, T3⟩ := t.2.2.2.2.2.1
  have e96 : K (x + 96) = I (x + 96) := h _ (by omega) (by omega) (by omega) (by omega) (by omega)
  refine ⟨by rw [h2, h4], by rw [h4]; exact T2, ?_⟩
  rw [h4, h86, e96]; exact T3
theorem op_faultPosition {G : rc_G} {x : Nat} {I : rc_M} {k : rc_M → Prop} (t : tI G x I) (hk : ∀ J : rc_M, tI G x J → k J) : wX7_faultPosition G x I (fun r1 I1 => wX8_faultPosition G (x + 88) I1 (fun r2 I2 => r1 = r2 ∧ k I2)) := by
  obtain ⟨pos, dp, A, X, M⟩ := op_text t
  unfold wX7_faultPosition
  refine X _ (fun J j1 j2 j3 => ?_)
  unfold wX8_faultPosition
  refine M J _ (fun a ha => j1 a (by omega)) (fun K k1 k2 k3 k4 => ?_)
  have tk := hk K (tI_fault t (fun a a1 a2 _ _ _ => (k1 a (by omega) a2).trans (j1 a (by omega))) ((k1 _ (by omega) (by omega)).trans (j1 _ (by omega))) (by rw [k1 _ (by omega) (by omega)]; exact j2) k2)
  by_cases c : pos = -100005
  · rw [if_pos c]
    exact ⟨by unfold rc_R; omega, fun y => absurd y (by decide), fun _ => ⟨c, tk⟩⟩
  · rw [if_neg c]
    exact ⟨rc_R0, fun _ => ⟨(k4 c).symm, tk⟩, fun y => absurd rfl y⟩
theorem op_faultDepth {G : rc_G} {x : Nat} {I : rc_M} {k : rc_M → Prop} (t : tI G x I) (hk : ∀ J : rc_M, tI G x J → k J) : wX7_faultDepth G x I (fun r1 I1 => wX8_faultDepth G (x + 88) I1 (fun r2 I2 => r1 = r2 ∧ k I2)) := by
  obtain ⟨pos, dp, A, X, M⟩ := op_text t
  unfold wX7_faultDepth
  refine X _ (fun J j1 j2 j3 => ⟨by unfold rc_R; omega, fun c => ?_, fun c => ?_⟩)
  · unfold wX8_faultDepth
    refine M J _ (fun a ha => j1 a (by omega)) (fun K k1 k2 k3 k4 => ?_)
    have tk := hk K (tI_fault t (fun a a1 a2 _ _ _ => (k1 a (by omega) a2).trans (j1 a (by omega))) ((k1 _ (by omega) (by omega)).trans (j1 _ (by omega))) (by rw [k1 _ (by omega) (by omega)]; exact j2) k2)
    rw [if_neg c, j3]
    exact ⟨rc_R0, fun _ => ⟨k3.symm, tk⟩, fun y => absurd rfl y⟩
  · unfold wX8_faultDepth
    refine M J _ (fun a ha => j1 a (by omega)) (fun K k1 k2 k3 k4 => ?_)
    have tk := hk K (tI_fault t (fun a a1 a2 _ _ _ => (k1 a (by omega) a2).trans (j1 a (by omega))) ((k1 _ (by omega) (by omega)).trans (j1 _ (by omega))) (by rw [k1 _ (by omega) (by omega)]; exact j2) k2)
    rw [if_pos c]
    exact ⟨by unfold rc_R; omega, fun y => absurd y (by decide), fun _ => ⟨rfl, tk⟩⟩
