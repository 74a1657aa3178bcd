/-! ===== pure part: where a text has its fault ===== -/
/-- what stands behind a letter, or -100005 -/
def fS (rc dep sta c : Int) : Int :=
  if sta = 3 then (if 50 ≤ c ∧ c ≤ 57 then 1 else -100005)
  else if 48 ≤ c ∧ c ≤ 57 then (if c - 48 < rc then 1 else -100005)
  else if c = 40 then (if dep < 3 then 0 else -100005)
  else if c = 41 then (if 0 < dep ∧ sta ≠ 0 then 2 else -100005)
  else if c = 120 then (if sta = 2 then 3 else -100005) else -100005
def fD (c : Int) : Int := if c = 40 then 1 else if c = 41 then -1 else 0
theorem fS_R (rc dep sta c : Int) : fS rc dep sta c = -100005 ∨ (0 ≤ fS rc dep sta c ∧ fS rc dep sta c ≤ 3) := by
  unfold fS
  split
  · split <;> omega
  · split
    · split <;> omega
    · split
      · split <;> omega
      · split
        · split <;> omega
        · split
          · split <;> omega
          · omega
theorem x_stand {G : rc_G} {q : Nat} {I : rc_M} {rc dep sta c s : Int} {post : Int → rc_M → Prop} (h0 : I q 0 = dep) (h3 : I q 3 = sta) (hd : 0 ≤ dep ∧ dep ≤ 3) (hs : 0 ≤ sta ∧ sta ≤ 3) (hc : 0 ≤ c ∧ c ≤ 127) (hr : 0 ≤ rc ∧ rc ≤ 10) (e : fS rc dep sta c = s) (h : post s I) : wX1_standingBehind G q c rc I post := by
  rw [← e] at h
  unfold fS at h
  unfold wX1_standingBehind wX1_standingBehind_54
  simp only [h0, h3]
  by_cases s3 : sta = 3
  · rw [if_pos s3] at h
    refine ⟨by unfold rc_R; omega, fun y => absurd s3 y, fun _ => ⟨by unfold rc_R; omega, fun a => ?_, fun a => ⟨by unfold rc_R; omega, fun b => ?_, fun b => ?_⟩⟩⟩
    · rw [if_neg (by omega)] at h; exact h
    · rw [if_neg (by omega)] at h; exact h
    · rw [if_pos (by omega)] at h; exact h
  · rw [if_neg s3] at h
    have P : ¬ (48 ≤ c ∧ c ≤ 57) → rc_R c ∧ ((c = 40 → rc_R dep ∧ ((3 ≤ dep → post (-100005) I) ∧ (¬ 3 ≤ dep → post 0 I))) ∧ (c = 41 → rc_R dep ∧ ((dep ≤ 0 → post (-100005) I) ∧ (¬ dep ≤ 0 → rc_R sta ∧ ((sta = 0 → post (-100005) I) ∧ (¬ sta = 0 → post 2 I))))) ∧ (c = 120 → rc_R sta ∧ ((¬ sta = 2 → post (-100005) I) ∧ (sta = 2 → post 3 I))) ∧ (¬ c = 40 → ¬ c = 41 → ¬ c = 120 → post (-100005) I)) := by
      intro hn
      rw [if_neg hn] at h
      refine ⟨by unfold rc_R; omega, fun a => ⟨by unfold rc_R; omega, fun b => ?_, fun b => ?_⟩, fun a => ⟨by unfold rc_R; omega, fun b => ?_, fun b => ⟨by unfold rc_R; omega, fun d => ?_, fun d => ?_⟩⟩, fun a => ⟨by unfold rc_R; omega, fun b => ?_, fun b => ?_⟩, fun a b d => ?_⟩
      · rw [if_pos a, if_neg (by omega)] at h; exact h
      · rw [if_pos a, if_pos (by omega)] at h; exact h
      · rw [if_neg (by omega), if_pos a, if_neg (by omega)] at h; exact h
      · rw [if_neg (by omega), if_pos a, if_neg (by omega)] at h; exact h
      · rw [if_neg (by omega), if_pos a, if_pos (by omega)] at h; exact h
      · rw [if_neg (by omega), if_neg (by omega), if_pos a, if_neg b] at h; exact h
      · rw [if_neg (by omega), if_neg (by omega), if_pos a, if_pos b] at h; exact h
      · rw [if_neg a, if_neg b, if_neg d] at h; exact h
    refine ⟨by unfold rc_R; omega, fun _ => ⟨by unfold rc_R; omega, fun a => P (by omega), fun a => ⟨by unfold rc_R; omega, fun b => P (by omega), fun b => ⟨by unfold rc_R; omega, by unfold rc_R; omega, fun d => ?_, fun d => ?_⟩⟩⟩, fun y => absurd y s3⟩
    · rw [if_pos (by omega), if_neg (by omega)] at h; exact h
    · rw [if_pos (by omega), if_pos (by omega)] at h; exact h
theorem x_depth {G : rc_G} {I : rc_M} {c : Int} {post : Int → rc_M → Prop} (hc : 0 ≤ c ∧ c ≤ 127) (h : post (fD c) I) : wX1_depthChange G c I post := by
  unfold fD at h
  unfold wX1_depthChange
  refine ⟨by unfold rc_R; omega, fun a => ⟨by unfold rc_R; omega, fun b => ?_, fun b => ?_⟩, fun a => ?_⟩
  · rw [if_neg a, if_neg b] at h; exact h
  · rw [if_neg a, if_pos b] at h; exact h
  · rw [if_pos a] at h; exact h
def fT (T : Int → Int) (n rc : Int) : Prop := (0 ≤ n ∧ n ≤ 60) ∧ (0 ≤ rc ∧ rc ≤ 10) ∧ ∀ k : Int, 0 ≤ k → k < n → 0 ≤ T k ∧ T k ≤ 127
/-- the program's search comes from here to this position and depth -/
def pX (T : Int → Int) (n rc i dep sta pos dp : Int) : Prop := ∀ (G : rc_G) (q : Nat) (post : Int → rc_M → Prop) (I : rc_M), I q 0 = dep → I q 3 = sta → I q 2 = n → (∀ k : Int, 0 ≤ k → k < n → I (q + 2) k = T k) →
  (∀ J : rc_M, (∀ a : Nat, a ≠ q → J a = I a) → J q 2 = n → J q 0 = dp → post pos J) → ∃ nn, rX1_findFault_12 G post q rc nn i I
theorem pX_end {T : Int → Int} {n rc dep sta : Int} (hT : fT T n rc) (hd : 0 ≤ dep ∧ dep ≤ 3) (hs : 0 ≤ sta ∧ sta ≤ 3) : pX T n rc n dep sta (if dep = 0 ∧ (sta = 1 ∨ sta = 2) then -100005 else n) dep := by
  intro G q post I h0 h3 h2 hL H
  have n0 := hT.1
  have A := H I (fun _ _ => rfl) h2 h0
  refine ⟨1, ?_⟩
  show wX1_findFault_12 G post q rc (rX1_findFault_12 G post q rc 0) n I
  unfold wX1_findFault_12 wX1_findFault_75 wX1_findFault_98 wX1_findFault_102 wX1_findFault_103
  rw [h2, h0, h3]
  refine ⟨by unfold rc_R; omega, by unfold rc_R; omega, fun _ => ⟨by unfold rc_R; omega, fun a => ⟨by unfold rc_R; omega, fun _ => ?_, fun y => absurd rfl y⟩, fun a => ⟨by unfold rc_R; omega, fun b => ⟨by unfold rc_R; omega, fun y => absurd y (by decide), fun _ => ?_⟩, fun b => ⟨by unfold rc_R; omega, fun d => ⟨by unfold rc_R; omega, fun _ => ?_, fun y => absurd rfl y⟩, fun d => ⟨by unfold rc_R; omega, fun y => absurd y (by decide), fun _ => ?_⟩⟩⟩⟩, fun y => absurd (Int.le_refl n) y⟩
  · rw [if_neg (fun y => a y.1)] at A; exact A
  · rw [if_pos ⟨a, Or.inl b⟩] at A; exact A
  · rw [if_neg (fun y => y.2.elim b d)] at A; exact A
  · rw [if_pos ⟨a, Or.inr d⟩] at A; exact A
theorem pX_no {T : Int → Int} {n rc i dep sta : Int} (hT : fT T n rc) (hd : 0 ≤ dep ∧ dep ≤ 3) (hs : 0 ≤ sta ∧ sta ≤ 3) (hi : 0 ≤ i ∧ i < n) (e : fS rc dep sta (T i) = -100005) : pX T n rc i dep sta i dep := by
  intro G q post I h0 h3 h2 hL H
  have n0 := hT.1
  have A := H I (fun _ _ => rfl) h2 h0
  refine ⟨1, ?_⟩
  show wX1_findFault_12 G post q rc (rX1_findFault_12 G post q rc 0) i I
  unfold wX1_findFault_12
  rw [h2, hL i hi.1 hi.2]
  exact ⟨by unfold rc_R; omega, by unfold rc_R; omega, fun y => absurd y (by omega), fun _ => ⟨by unfold rc_R; omega, fun y => absurd y (by omega), fun _ => ⟨by omega, x_stand h0 h3 hd hs (hT.2.2 i hi.1 hi.2) hT.2.1 e ⟨by unfold rc_R; omega, fun y => absurd rfl y, fun _ => A⟩⟩⟩⟩
theorem pX_go {T : Int → Int} {n rc i dep sta s pos dp : Int} (hT : fT T n rc) (hd : 0 ≤ dep ∧ dep ≤ 3) (hs : 0 ≤ sta ∧ sta ≤ 3) (hi : 0 ≤ i ∧ i < n) (e : fS rc dep sta (T i) = s) (ne : s ≠ -100005) (h : pX T n rc (i + 1) (dep + fD (T i)) s pos dp) : pX T n rc i dep sta pos dp := by
  intro G q post I h0 h3 h2 hL H
  have n0 := hT.1
  have R := fS_R rc dep sta (T i)
  rw [e] at R
  obtain ⟨nn, hn⟩ := h G q post (rc_s (rc_s I q 3 s) q 0 (dep + fD (T i))) (by rw [qs_s, rc_u_s]) (by rw [qs_s, rc_u_n _ _ (by decide), qs_s, rc_u_s]) (by rw [qs_s, rc_u_n _ _ (by decide), qs_s, rc_u_n _ _ (by decide)]; exact h2) (fun k k0 k1 => by rw [qs_n _ _ _ (by omega), qs_n _ _ _ (by omega)]; exact hL k k0 k1) (fun J a b c => H J (fun x hx => by rw [a x hx, qs_n _ _ _ hx, qs_n _ _ _ hx]) b c)
  refine ⟨nn + 1, ?_⟩
  show wX1_findFault_12 G post q rc (rX1_findFault_12 G post q rc nn) i I
  unfold wX1_findFault_12
  rw [h2, hL i hi.1 hi.2]
  refine ⟨by unfold rc_R; omega, by unfold rc_R; omega, fun y => absurd y (by omega), fun _ => ⟨by unfold rc_R; omega, fun y => absurd y (by omega), fun _ => ⟨by omega, x_stand h0 h3 hd hs (hT.2.2 i hi.1 hi.2) hT.2.1 e ⟨by unfold rc_R; omega, fun _ I21 e21 => ⟨by omega, ?_⟩, fun y => absurd y ne⟩⟩⟩⟩
  have g : I21 (q + 2) i = T i := by rw [e21, qs_n _ _ _ (by omega)]; exact hL i hi.1 hi.2
  rw [g]
  refine x_depth (hT.2.2 i hi.1 hi.2) (fun I25 e25 => ?_)
  have g0 : I21 q 0 = dep := by rw [e21, qs_s, rc_u_n _ _ (by decide)]; exact h0
  rw [g0, e21] at e25
  rw [e25]; exact hn
