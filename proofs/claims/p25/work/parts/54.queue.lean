/-! ===== pure part: the operator's tasks ===== -/
theorem wS_lo {v u : rv} (h : ∀ j : Int, 0 ≤ j → j < 162 → u j = v j) (s : wS v) : wS u := by
  obtain ⟨a, b, c, d, f⟩ := s
  have u0 := h 0 (by omega) (by omega)
  have u149 := h 149 (by omega) (by omega)
  refine ⟨by rw [u0]; exact a, by rw [u149]; exact b, fun k k0 k1 => ?_, ?_, fun i i0 i1 => ?_⟩
  · rw [u149] at k1; rw [h (150 + k) (by omega) (by omega), u0]; exact c k k0 k1
  · rw [h 141 (by omega) (by omega), h 142 (by omega) (by omega), h 143 (by omega) (by omega), h 144 (by omega) (by omega), h 145 (by omega) (by omega), h 146 (by omega) (by omega), h 147 (by omega) (by omega), h 148 (by omega) (by omega)]; exact d
  · rw [u0] at i1; exact wL_lo (by omega) (fun j j0 j1 => h j j0 (by omega)) (f i i0 i1)
theorem wS_str {v : rv} {i k x : Int} (s : wS v) (hi : 0 ≤ i ∧ i < v 0) (hk : 0 ≤ k ∧ k < v (2 + 14 * i)) (hx : 0 ≤ x ∧ x ≤ 9) : wS (rc_u v (4 + 14 * i + 2 * k) x) := by
  obtain ⟨a, b, c, d, f⟩ := s
  have wi := (f i hi.1 hi.2).2.1
  have hz : 4 ≤ 4 + 14 * i + 2 * k ∧ 4 + 14 * i + 2 * k < 141 := by omega
  have n : ∀ j : Int, j ≠ 4 + 14 * i + 2 * k → rc_u v (4 + 14 * i + 2 * k) x j = v j := fun j hj => rc_u_n _ _ hj
  refine ⟨by rw [n 0 (by omega)]; exact a, by rw [n 149 (by omega)]; exact b, fun q k0 k1 => ?_, ?_, fun q i0 i1 => ?_⟩
  · rw [n 149 (by omega)] at k1; rw [n (150 + q) (by omega), n 0 (by omega)]; exact c q k0 k1
  · rw [n 141 (by omega), n 142 (by omega), n 143 (by omega), n 144 (by omega), n 145 (by omega), n 146 (by omega), n 147 (by omega), n 148 (by omega)]; exact d
  · rw [n 0 (by omega)] at i1
    obtain ⟨w1, w2, w3, w4⟩ := f q i0 i1
    have n1 := n (1 + 14 * q) (by omega)
    have n2 := n (2 + 14 * q) (by omega)
    refine ⟨by rw [n1]; exact w1, by rw [n2]; exact w2, fun r r0 r1 => ?_, fun r1 r2 q1 q2 q3 => ?_⟩
    · rw [n2] at r1
      have z := w3 r r0 r1
      rw [n1, n (3 + 14 * q + 2 * r) (by omega)]
      refine ⟨z.1, ?_⟩
      by_cases e : 4 + 14 * q + 2 * r = 4 + 14 * i + 2 * k
      · rw [e, rc_u_s]; exact hx
      · rw [n _ e]; exact z.2
    · rw [n2] at q3
      rw [n (3 + 14 * q + 2 * r1) (by omega), n (3 + 14 * q + 2 * r2) (by omega)]; exact w4 r1 r2 q1 q2 q3
theorem wE_0 (v : rv) : wE v 0 = v 172 := rfl
theorem wE_n (v : rv) {j : Int} (h : j ≠ 0) : wE v j = v (174 + j) := by unfold wE; rw [if_neg h]
theorem wE_1 (v : rv) {k : Int} (h : 0 ≤ k) : wE v (k + 1) = v (175 + k) := by rw [wE_n v (by omega), show (174 : Int) + (k + 1) = 175 + k by omega]
def tO (v : rv) (c : Int) : Nat → Int
  | 0 => 0
  | n + 1 => tO v c n + (if wE v (n : Int) = c then 1 else 0)
theorem tO_sum {v : rv} (n : Nat) (h : ∀ j : Int, 0 ≤ j → j < n → -1 ≤ wE v j ∧ wE v j ≤ 5) : tO v (-1) n + tO v 0 n + tO v 1 n + tO v 2 n + tO v 3 n + tO v 4 n + tO v 5 n = n := by
  induction n with
  | zero => rfl
  | succ n ih =>
    have a := ih (fun j j0 j1 => h j j0 (by omega))
    have b := h n (by omega) (by omega)
    simp only [tO]
    rcases (show wE v n = -1 ∨ wE v n = 0 ∨ wE v n = 1 ∨ wE v n = 2 ∨ wE v n = 3 ∨ wE v n = 4 ∨ wE v n = 5 by omega) with e | e | e | e | e | e | e <;> rw [e] <;> simp <;> omega
theorem tO_one {v : rv} (c : Int) (n : Nat) (h : ∀ i j : Int, 0 ≤ i → i < j → j < n → wE v i ≠ wE v j) : 0 ≤ tO v c n ∧ tO v c n ≤ 1 ∧ (tO v c n = 1 → ∃ j : Int, 0 ≤ j ∧ j < n ∧ wE v j = c) := by
  induction n with
  | zero => exact ⟨by simp [tO], by simp [tO], fun q => by simp [tO] at q⟩
  | succ n ih =>
    obtain ⟨a0, a, b⟩ := ih (fun i j i0 i1 j1 => h i j i0 i1 (by omega))
    simp only [tO]
    by_cases e : wE v n = c
    · rw [if_pos e]
      have z : tO v c n = 0 := by
        rcases Int.lt_or_eq_of_le a with q | q
        · omega
        · obtain ⟨j, j0, j1, j2⟩ := b q
          exact absurd (j2.trans e.symm) (h j n j0 j1 (by omega))
      exact ⟨by omega, by omega, fun _ => ⟨n, by omega, by omega, e⟩⟩
    · rw [if_neg e]
      refine ⟨by omega, by omega, fun q => ?_⟩
      obtain ⟨j, j0, j1, j2⟩ := b (by omega)
      exact ⟨j, j0, by omega, j2⟩
theorem wE_six {v : rv} (h0 : 0 ≤ v 174) (hd : ∀ i j : Int, 0 ≤ i → i < j → j ≤ v 174 → wE v i ≠ wE v j) (h : ∀ j : Int, 0 ≤ j → j ≤ v 174 → -1 ≤ wE v j ∧ wE v j ≤ 5) : v 174 ≤ 6 := by
  have n : ((v 174).toNat : Int) = v 174 := by omega
  have a := tO_sum (v := v) ((v 174).toNat + 1) (fun j j0 j1 => h j j0 (by omega))
  have b := fun c => tO_one (v := v) c ((v 174).toNat + 1) (fun i j i0 i1 j1 => hd i j i0 i1 (by omega))
  have b1 := b (-1)
  have c0 := b 0
  have c1 := b 1
  have c2 := b 2
  have c3 := b 3
  have c4 := b 4
  have c5 := b 5
  omega
theorem tCnt_c {u v : rv} (n : Nat) (h : ∀ k : Int, 0 ≤ k → k < n → u (175 + k) = v (175 + k)) : tCnt u n = tCnt v n := by
  induction n with
  | zero => rfl
  | succ n ih => rw [tCnt, tCnt, ih (fun k k0 k1 => h k k0 (by omega)), h n (by omega) (by omega)]
theorem tCnt_sh {u v : rv} (n : Nat) (h : ∀ k : Int, 0 ≤ k → k < n → u (175 + k) = v (176 + k)) : tCnt v (n + 1) = tCnt u n + (if v 175 % 3 = 1 then 1 else 0) := by
  induction n with
  | zero => simp [tCnt]
  | succ n ih =>
    rw [tCnt, ih (fun k k0 k1 => h k k0 (by omega)), tCnt, h n (by omega) (by omega), show (175 : Int) + ((n + 1 : Nat) : Int) = 176 + n by omega]
    omega
/-- the work is done -/
theorem wQ_fin {u v : rv} (hh : wH v) (q : wQ v) (h1 : 0 ≤ v 172) (h2 : u 172 = -1) (h3 : u 174 = v 174) (h4 : ∀ k : Int, 0 ≤ k → k < v 174 → u (175 + k) = v (175 + k))
    (h5 : ∀ p : Int, p = 0 ∨ p = 1 → p ≠ v 172 / 3 → u (191 + 4 * p) = v (191 + 4 * p)) (h6 : v 172 % 3 = 0 → u (191 + 4 * (v 172 / 3)) = 0) (h7 : u 170 = v 170 + (if v 172 % 3 = 1 then 1 else 0)) (h8 : u 149 = v 149) : wQ u := by
  obtain ⟨_, _, _, _, q172, _, q174, qrow, _, _⟩ := hh
  obtain ⟨d, o, t⟩ := q
  have eq : ∀ j : Int, 0 < j → j ≤ v 174 → wE u j = wE v j := fun j j0 j1 => by
    rw [wE_n u (by omega), wE_n v (by omega), show (174 : Int) + j = 175 + (j - 1) by omega]; exact h4 _ (by omega) (by omega)
  have e0 : wE u 0 = -1 := h2
  have c0 : wE v 0 = v 172 := rfl
  refine ⟨fun i j i0 i1 j1 => ?_, fun j p j0 j1 hp => ?_, ?_⟩
  · rw [h3] at j1
    rw [eq j (by omega) j1]
    rcases Int.lt_or_eq_of_le i0 with c | c
    · rw [eq i c (by omega)]; exact d i j i0 i1 j1
    · rw [← c, e0]
      have := qrow (j - 1) (by omega) (by omega)
      rw [wE_n v (by omega), show (174 : Int) + j = 175 + (j - 1) by omega]; omega
  · rw [h3] at j1
    rcases Int.lt_or_eq_of_le j0 with c | c
    · have o0 := o 0 p (by omega) (by omega) hp
      have oj := o j p j0 j1 hp
      have dj := d 0 j (by omega) c j1
      rw [eq j c j1]
      rw [c0] at o0 dj
      by_cases e : p = v 172 / 3
      · subst e
        rcases (show v 172 = 3 * (v 172 / 3) ∨ v 172 = 3 * (v 172 / 3) + 1 ∨ v 172 = 3 * (v 172 / 3) + 2 by omega) with r | r | r
        · have x := o0.1 r
          refine ⟨fun y => absurd (r.trans y.symm) dj, fun y => absurd (oj.2.1 y) (by omega), fun y => Or.inl (h6 (by omega))⟩
        · have x := o0.2.2 r
          have x0 : v (191 + 4 * (v 172 / 3)) = 0 := by
            rcases x with x | ⟨_, i, i0, i1, _⟩
            · exact x
            · omega
          refine ⟨fun y => absurd (oj.1 y) (by omega), fun y => absurd (oj.2.1 y) (by omega), fun y => absurd (r.trans y.symm) dj⟩
        · have x := o0.2.1 r
          refine ⟨fun y => absurd (oj.1 y) (by omega), fun y => absurd (r.trans y.symm) dj, fun y => ?_⟩
          rcases oj.2.2 y with z | z
          · omega
          · omega
      · rw [h5 p hp e]
        refine ⟨oj.1, oj.2.1, fun y => ?_⟩
        rcases oj.2.2 y with z | ⟨z, i, i0, i1, i2⟩
        · exact Or.inl z
        · refine Or.inr ⟨z, i, i0, i1, ?_⟩
          have : 0 < i := by
            rcases Int.lt_or_eq_of_le i0 with r | r
            · exact r
            · rw [← r, c0] at i2; omega
          rw [eq i this (by omega)]; exact i2
    · rw [← c, e0]
      refine ⟨fun y => ?_, fun y => ?_, fun y => ?_⟩ <;> omega
  · have ec : tCnt u (v 174).toNat = tCnt v (v 174).toNat := tCnt_c _ (fun k k0 k1 => h4 k k0 (by omega))
    unfold tThr at t ⊢
    rw [h2, h3, ec, h7, h8, if_neg (by omega)]
    by_cases c : v 172 % 3 = 1
    · rw [if_pos c]; rw [if_pos ⟨h1, c⟩] at t; omega
    · rw [if_neg c]; rw [if_neg (fun q => c q.2)] at t; omega
/-- the first task is taken up -/
theorem wQ_up {u v : rv} (q174 : 0 < v 174 ∧ v 174 ≤ 6) (qrow : ∀ k : Int, 0 ≤ k → k < v 174 → 0 ≤ v (175 + k) ∧ v (175 + k) ≤ 5) (q : wQ v) (h1 : v 172 = -1) (h2 : u 172 = v 175) (h3 : u 174 = v 174 - 1) (h4 : ∀ k : Int, 0 ≤ k → k < v 174 - 1 → u (175 + k) = v (176 + k))
    (h5 : ∀ p : Int, p = 0 ∨ p = 1 → u (191 + 4 * p) = v (191 + 4 * p)) (h7 : u 170 = v 170) (h8 : u 149 = v 149) : wQ u := by
  obtain ⟨d, o, t⟩ := q
  have eq : ∀ j : Int, 0 ≤ j → j ≤ v 174 - 1 → wE u j = wE v (j + 1) := fun j j0 j1 => by
    rcases Int.lt_or_eq_of_le j0 with c | c
    · rw [wE_n u (by omega), wE_n v (by omega), show (174 : Int) + j = 175 + (j - 1) by omega, h4 _ (by omega) (by omega), show (176 : Int) + (j - 1) = 174 + (j + 1) by omega]
    · rw [← c, wE_0, h2, wE_n v (by omega)]; rfl
  refine ⟨fun i j i0 i1 j1 => ?_, fun j p j0 j1 hp => ?_, ?_⟩
  · rw [h3] at j1
    rw [eq j (by omega) j1, eq i i0 (by omega)]; exact d _ _ (by omega) (by omega) (by omega)
  · rw [h3] at j1
    rw [eq j j0 j1, h5 p hp]
    have oj := o (j + 1) p (by omega) (by omega) hp
    refine ⟨oj.1, oj.2.1, fun y => ?_⟩
    rcases oj.2.2 y with z | ⟨z, i, i0, i1, i2⟩
    · exact Or.inl z
    · have : 0 < i := by
        rcases Int.lt_or_eq_of_le i0 with r | r
        · exact r
        · rw [← r, wE_0, h1] at i2; omega
      exact Or.inr ⟨z, i - 1, by omega, by omega, by rw [eq (i - 1) (by omega) (by omega), show i - 1 + 1 = i by omega]; exact i2⟩
  · have ec := tCnt_sh (u := u) (v := v) (v 174 - 1).toNat (fun k k0 k1 => h4 k k0 (by omega))
    rw [show (v 174 - 1).toNat + 1 = (v 174).toNat by omega] at ec
    have r0 := qrow 0 (by omega) (by omega)
    rw [show (175 : Int) + 0 = 175 by omega] at r0
    unfold tThr at t ⊢
    rw [h2, h3, h7, h8]
    rw [if_neg (by omega), ec] at t
    by_cases c : v 175 % 3 = 1
    · rw [if_pos ⟨r0.1, c⟩]; rw [if_pos c] at t; omega
    · rw [if_neg (fun q => c q.2)]; rw [if_neg c] at t; omega
/-- a repair goes ahead of the row -/
theorem wQ_ins {u v : rv} {f : Int} (hf : f = 0 ∨ f = 1) (q174 : 0 ≤ v 174) (q : wQ v) (h1 : v (191 + 4 * f) = 3) (h2 : u 172 = v 172) (h3 : u 174 = v 174 + 1) (h4 : ∀ k : Int, 0 ≤ k → k < v 174 → u (176 + k) = v (175 + k)) (h4' : u 175 = 3 * f + 2)
    (h5 : u (191 + 4 * f) = 5) (h6 : u (191 + 4 * (1 - f)) = v (191 + 4 * (1 - f)) ∨ v (191 + 4 * (1 - f)) = 2 ∨ v (191 + 4 * (1 - f)) = 3) (h7 : u 170 = v 170) (h8 : u 149 = v 149) : wQ u := by
  obtain ⟨d, o, t⟩ := q
  have e0 : wE u 0 = wE v 0 := h2
  have e1 : wE u 1 = 3 * f + 2 := h4'
  have eq : ∀ j : Int, 2 ≤ j → j ≤ v 174 + 1 → wE u j = wE v (j - 1) := fun j j0 j1 => by
    rw [wE_n u (by omega), wE_n v (by omega), show (174 : Int) + j = 176 + (j - 2) by omega, h4 _ (by omega) (by omega), show (175 : Int) + (j - 2) = 174 + (j - 1) by omega]
  have nf : ∀ j : Int, 0 ≤ j → j ≤ v 174 → wE v j ≠ 3 * f ∧ wE v j ≠ 3 * f + 1 ∧ wE v j ≠ 3 * f + 2 := fun j j0 j1 => by
    have x := o j f j0 j1 hf
    refine ⟨fun y => absurd (x.1 y) (by omega), fun y => ?_, fun y => absurd (x.2.1 y) (by omega)⟩
    rcases x.2.2 y with z | z
    · omega
    · omega
  -- each old task stands at one place of the new row
  have old : ∀ j : Int, 0 ≤ j → j ≤ v 174 + 1 → j = 1 ∨ ∃ k : Int, 0 ≤ k ∧ k ≤ v 174 ∧ wE u j = wE v k ∧ (j = 0 ∧ k = 0 ∨ 2 ≤ j ∧ k = j - 1) := fun j j0 j1 => by
    rcases (show j = 0 ∨ j = 1 ∨ 2 ≤ j by omega) with c | c | c
    · exact Or.inr ⟨0, by omega, by omega, by rw [c]; exact e0, Or.inl ⟨c, rfl⟩⟩
    · exact Or.inl c
    · exact Or.inr ⟨j - 1, by omega, by omega, eq j c j1, Or.inr ⟨c, rfl⟩⟩
  refine ⟨fun i j i0 i1 j1 => ?_, fun j p j0 j1 hp => ?_, ?_⟩
  · rw [h3] at j1
    rcases old i i0 (by omega) with ci | ⟨a, a0, a1, a2, a3⟩
    · rcases old j (by omega) j1 with cj | ⟨b, b0, b1, b2, b3⟩
      · omega
      · rw [ci, e1, b2]; exact fun y => (nf b b0 b1).2.2 y.symm
    · rcases old j (by omega) j1 with cj | ⟨b, b0, b1, b2, b3⟩
      · rw [cj, e1, a2]; exact (nf a a0 a1).2.2
      · rw [a2, b2]; exact d a b a0 (by omega) b1
  · rw [h3] at j1
    rcases old j j0 j1 with cj | ⟨b, b0, b1, b2, b3⟩
    · rw [cj, e1]
      refine ⟨fun y => by omega, fun y => ?_, fun y => by omega⟩
      have : p = f := by omega
      rw [this]; exact h5
    · rw [b2]
      have n := nf b b0 b1
      have cpp : ¬ p = f → p = 1 - f := fun c => by omega
      have ob := o b p b0 b1 hp
      by_cases c : p = f
      · subst c
        exact ⟨fun y => absurd y n.1, fun y => absurd y n.2.2, fun y => absurd y n.2.1⟩
      · have cp : p = 1 - f := cpp c
        subst cp
        have hs : (wE v b = 3 * (1 - f) ∨ wE v b = 3 * (1 - f) + 1 ∨ wE v b = 3 * (1 - f) + 2) → u (191 + 4 * (1 - f)) = v (191 + 4 * (1 - f)) := fun y => by
          rcases h6 with x | x
          · exact x
          · exfalso
            rcases y with y | y | y
            · have := ob.1 y; omega
            · rcases ob.2.2 y with z | ⟨z, _⟩
              · omega
              · omega
            · have := ob.2.1 y; omega
        refine ⟨fun y => by rw [hs (Or.inl y)]; exact ob.1 y, fun y => by rw [hs (Or.inr (Or.inr y))]; exact ob.2.1 y, fun y => ?_⟩
        rw [hs (Or.inr (Or.inl y))]
        rcases ob.2.2 y with z | ⟨z, i, i0, i1, i2⟩
        · exact Or.inl z
        · refine Or.inr ⟨z, if i = 0 then 0 else i + 1, ?_⟩
          by_cases ci : i = 0
          · rw [if_pos ci]; clear ob; exact ⟨by omega, by omega, by rw [e0, ← ci]; exact i2⟩
          · rw [if_neg ci]; clear ob; exact ⟨by omega, by omega, by rw [eq (i + 1) (by omega) (by omega), show i + 1 - 1 = i by omega]; exact i2⟩
  · have ec := tCnt_sh (u := v) (v := u) (v 174).toNat (fun k k0 k1 => (h4 k k0 (by omega)).symm)
    rw [show (v 174).toNat + 1 = (v 174 + 1).toNat by omega, h4', if_neg (by omega)] at ec
    unfold tThr at t ⊢
    rw [h2, h3, h7, h8, ec]; omega
/-- a task comes last -/
theorem wQ_add {u v : rv} {c f : Int} (hf : f = 0 ∨ f = 1) (q174 : 0 ≤ v 174) (d : ∀ i j : Int, 0 ≤ i → i < j → j ≤ v 174 → wE v i ≠ wE v j)
    (hn : ∀ j : Int, 0 ≤ j → j ≤ v 174 → wE v j ≠ c) (h2 : u 172 = v 172) (h3 : u 174 = v 174 + 1) (h4 : ∀ k : Int, 0 ≤ k → k < v 174 → u (175 + k) = v (175 + k)) (h4' : u (175 + v 174) = c) :
    (∀ i j : Int, 0 ≤ i → i < j → j ≤ u 174 → wE u i ≠ wE u j) ∧ (∀ j : Int, 0 ≤ j → j ≤ v 174 → wE u j = wE v j) ∧ wE u (v 174 + 1) = c ∧ tThr u = tThr v + (if c % 3 = 1 then 1 else 0) := by
  have eq : ∀ j : Int, 0 ≤ j → j ≤ v 174 → wE u j = wE v j := fun j j0 j1 => by
    rcases Int.lt_or_eq_of_le j0 with r | r
    · rw [wE_n u (by omega), wE_n v (by omega), show (174 : Int) + j = 175 + (j - 1) by omega]; exact h4 _ (by omega) (by omega)
    · rw [← r]; exact h2
  have en : wE u (v 174 + 1) = c := by rw [wE_1 u q174]; exact h4'
  refine ⟨fun i j i0 i1 j1 => ?_, eq, en, ?_⟩
  · rw [h3] at j1
    rw [eq i i0 (by omega)]
    rcases Int.lt_or_eq_of_le j1 with r | r
    · rw [eq j (by omega) (by omega)]; exact d i j i0 i1 (by omega)
    · rw [r, en]; exact hn i i0 (by omega)
  · unfold tThr
    have et : (v 174 + 1).toNat = (v 174).toNat + 1 := by omega
    have e2 : (((v 174).toNat : Nat) : Int) = v 174 := by omega
    rw [h2, h3, et, tCnt, tCnt_c (u := u) (v := v) (v 174).toNat (fun k k0 k1 => h4 k k0 (by omega)), e2, h4']
    omega
