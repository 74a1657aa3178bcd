/-! ===== pure part: the state as one row, its steps, what holds of it ===== -/
abbrev rv : Type := Int → Int
theorem rc_ue (f : Int → Int) (k x j : Int) : rc_u f k x j = if j = k then x else f j := rfl
theorem pS (I : rc_M) (a : Nat) (f : Int → Int) (k x : Int) : rc_s (rc_w I a f) a k x = rc_w I a (rc_u f k x) := by
  rw [rc_s, rc_w_s, rc_w_w]
/-- the number of the splice at a frame, or -1 -/
noncomputable def tK (v : rv) (i fr : Int) : Int :=
  @dite Int (∃ k : Int, (0 ≤ k ∧ k < v (2 + 14 * i)) ∧ v (3 + 14 * i + 2 * k) = fr) (Classical.propDecidable _) (fun h => Classical.choose h) (fun _ => -1)
def wL (v : rv) (i : Int) : Prop :=
  (100 ≤ v (1 + 14 * i) ∧ v (1 + 14 * i) ≤ 3000) ∧ (0 ≤ v (2 + 14 * i) ∧ v (2 + 14 * i) ≤ 6) ∧
  (∀ k : Int, 0 ≤ k → k < v (2 + 14 * i) → (1 ≤ v (3 + 14 * i + 2 * k) ∧ v (3 + 14 * i + 2 * k) < v (1 + 14 * i)) ∧ (0 ≤ v (4 + 14 * i + 2 * k) ∧ v (4 + 14 * i + 2 * k) ≤ 9)) ∧
  (∀ j k : Int, 0 ≤ j → j < k → k < v (2 + 14 * i) → v (3 + 14 * i + 2 * j) < v (3 + 14 * i + 2 * k))
theorem tK_spec (v : rv) (i fr : Int) : (0 ≤ tK v i fr ∧ tK v i fr < v (2 + 14 * i) ∧ v (3 + 14 * i + 2 * tK v i fr) = fr) ∨ (tK v i fr = -1 ∧ ∀ k : Int, 0 ≤ k → k < v (2 + 14 * i) → v (3 + 14 * i + 2 * k) ≠ fr) := by
  by_cases h : ∃ k : Int, (0 ≤ k ∧ k < v (2 + 14 * i)) ∧ v (3 + 14 * i + 2 * k) = fr
  · left
    have e : tK v i fr = Classical.choose h := by unfold tK; rw [dif_pos h]
    have s := Classical.choose_spec h
    rw [e]; exact ⟨s.1.1, s.1.2, s.2⟩
  · right
    refine ⟨by unfold tK; rw [dif_neg h], fun k h0 h1 e => h ⟨k, ⟨h0, h1⟩, e⟩⟩
theorem tK_eq {v : rv} {i fr k : Int} (w : wL v i) (h0 : 0 ≤ k) (h1 : k < v (2 + 14 * i)) (e : v (3 + 14 * i + 2 * k) = fr) : tK v i fr = k := by
  rcases tK_spec v i fr with ⟨a, b, c⟩ | ⟨_, b⟩
  · rcases Int.lt_trichotomy (tK v i fr) k with h | h | h
    · have := w.2.2.2 _ _ a h h1; omega
    · exact h
    · have := w.2.2.2 _ _ h0 h b; omega
  · exact absurd e (b k h0 h1)
theorem tK_no {v : rv} {i fr : Int} (h : ∀ k : Int, 0 ≤ k → k < v (2 + 14 * i) → v (3 + 14 * i + 2 * k) ≠ fr) : tK v i fr = -1 := by
  rcases tK_spec v i fr with ⟨a, b, c⟩ | ⟨a, _⟩
  · exact absurd c (h _ a b)
  · exact a
def tR (v : rv) (p : Int) : Int := v (150 + v (192 + 4 * p))
def tLen (v : rv) (p : Int) : Int := v (1 + 14 * tR v p)
def tComes (v : rv) (p : Int) : rv := rc_u (rc_u (rc_u v (191 + 4 * p) 1) (192 + 4 * p) (v 170)) 170 (v 170 + 1)
noncomputable def tMark (w : rv) (i fr x : Int) : rv := if 0 ≤ tK w i fr then rc_u w (4 + 14 * i + 2 * tK w i fr) x else w
def tRep (v : rv) (p : Int) : rv := rc_u (rc_u v (191 + 4 * p) 3) (193 + 4 * p) (min (v (194 + 4 * p) + v 148) (tLen v p))
noncomputable def tFin (v : rv) (c : Int) : rv :=
  if c % 3 = 0 then rc_u v (191 + 4 * (c / 3)) 0 else if c % 3 = 1 then tComes v (c / 3) else tMark (tRep v (c / 3)) (tR v (c / 3)) (v (194 + 4 * (c / 3))) 9
def tTicks (v : rv) (c : Int) : Int := if c % 3 = 1 then v 146 else if c % 3 = 2 then v 147 else v 144 + (tLen v (c / 3) + v 145 - 1) / v 145
def tShift (w : rv) : rv := fun j => if 175 ≤ j ∧ j < 175 + w 174 then w (j + 1) else w j
def tUp (v : rv) : rv := tShift (rc_u (rc_u v 172 (v 175)) 174 (v 174 - 1))
noncomputable def tWork (v : rv) : rv :=
  if v 172 < 0 then (if v 174 ≤ 0 then v else rc_u (tUp v) 173 (tTicks (tUp v) (v 175)))
  else if v 173 - 1 = 0 then rc_u (tFin (rc_u v 173 (v 173 - 1)) (v 172)) 172 (-1) else rc_u v 173 (v 173 - 1)
def tStart1 (v : rv) (f : Int) : rv :=
  if v (191 + 4 * (1 - f)) = 1 ∧ (v 171 = 1 ∨ (v (191 + 4 * f) = 3 ∧ v 171 = 0 ∧ tLen v f - v 142 ≤ v (193 + 4 * f))) then
    rc_u (rc_u (rc_u v (191 + 4 * (1 - f)) 2) (193 + 4 * (1 - f)) (-(v 141))) 168 (v 168 + (if v 171 = 1 ∨ tLen v f - v 142 < v (193 + 4 * f) then 1 else 0))
  else v
def tStart (v : rv) : rv := tStart1 v (v 165)
def tGo1 (v : rv) (p : Int) : rv := if v (191 + 4 * p) = 2 ∨ v (191 + 4 * p) = 3 then rc_u v (193 + 4 * p) (v (193 + 4 * p) + 1) else v
def tGo (v : rv) : rv := tGo1 (tGo1 v 0) 1
def tIns (w : rv) : rv := fun j => if 175 < j ∧ j ≤ 175 + w 174 then w (j - 1) else w j
def tBrk (w : rv) (f : Int) : rv := rc_u (rc_u (rc_u w (191 + 4 * f) 5) (194 + 4 * f) (w (193 + 4 * f))) 169 (w 169 + 1)
def tBrk2 (w : rv) (f : Int) : rv := rc_u (rc_u (tIns w) 175 (3 * f + 2)) 174 (w 174 + 1)
def tBrk3 (w : rv) (f : Int) : rv := if w (191 + 4 * (1 - f)) = 2 then rc_u w (191 + 4 * (1 - f)) 1 else w
def tBreak (w : rv) (f : Int) : rv := tBrk3 (tBrk2 (tBrk w f) f) f
noncomputable def tWear1 (v : rv) (f : Int) : rv :=
  if v (191 + 4 * f) = 3 ∧ 0 ≤ tK v (tR v f) (v (193 + 4 * f)) then
    (if v (4 + 14 * tR v f + 2 * tK v (tR v f) (v (193 + 4 * f))) ≤ 1 then tBreak (rc_u v (4 + 14 * tR v f + 2 * tK v (tR v f) (v (193 + 4 * f))) 0) f
     else rc_u v (4 + 14 * tR v f + 2 * tK v (tR v f) (v (193 + 4 * f))) (v (4 + 14 * tR v f + 2 * tK v (tR v f) (v (193 + 4 * f))) - 1))
  else v
noncomputable def tWear (v : rv) : rv := tWear1 v (v 165)
def tCnt (v : rv) : Nat → Int
  | 0 => 0
  | n + 1 => tCnt v n + (if v (175 + (n : Int)) % 3 = 1 then 1 else 0)
def tThr (v : rv) : Int := (if 0 ≤ v 172 ∧ v 172 % 3 = 1 then 1 else 0) + tCnt v (v 174).toNat
def tAdd (v : rv) (c : Int) : rv := rc_u (rc_u v (175 + v 174) c) 174 (v 174 + 1)
def tOrd (w : rv) (f : Int) : rv := if w 149 - w 170 ≤ tThr (tAdd w (3 * f)) then tAdd w (3 * f) else tAdd (tAdd w (3 * f)) (3 * f + 1)
def tRun1 (v : rv) (f : Int) : rv :=
  if v (191 + 4 * f) = 3 ∧ v 171 = 0 ∧ tLen v f - (if v (192 + 4 * f) = v 149 - 1 then 0 else v 143) ≤ v (193 + 4 * f) then
    (if v (192 + 4 * f) = v 149 - 1 then rc_u (rc_u (rc_u v (191 + 4 * f) 4) 171 1) 163 1 else tOrd (rc_u (rc_u v (191 + 4 * f) 4) 171 1) f)
  else v
def tRun (v : rv) : rv := tRun1 v (v 165)
def tChange1 (v : rv) (b : Int) : rv :=
  if v 171 = 1 ∧ v 163 = 0 ∧ v (191 + 4 * b) = 2 ∧ 0 ≤ v (193 + 4 * b) then rc_u (rc_u (rc_u (rc_u v (191 + 4 * b) 3) 165 b) 171 0) 167 (v 167 + v (193 + 4 * b)) else v
def tChange (v : rv) : rv := tChange1 v (1 - v 165)
def tEnd (v : rv) : rv := rc_u (rc_u v 164 (v 164 + 1)) 166 (v 166 + (if v 163 = 0 ∧ (v (191 + 4 * v 165) ≠ 3 ∨ v 171 = 1) then 1 else 0))
noncomputable def tTick (v : rv) : rv := tEnd (tChange (tRun (tWear (tGo (tStart (tWork v))))))
noncomputable def tPass : Nat → rv → rv
  | 0, v => v
  | n + 1, v => if v 163 = 0 then tPass n (tTick v) else v
noncomputable def tPassN : Nat → rv → Int
  | 0, _ => 0
  | n + 1, v => if v 163 = 0 then 1 + tPassN n (tTick v) else 0
/-- reels, settings, program -/
def wS (v : rv) : Prop :=
  (0 ≤ v 0 ∧ v 0 ≤ 10) ∧ (0 ≤ v 149 ∧ v 149 ≤ 12) ∧ (∀ k : Int, 0 ≤ k → k < v 149 → 0 ≤ v (150 + k) ∧ v (150 + k) < v 0) ∧
  ((1 ≤ v 141 ∧ v 141 ≤ 90) ∧ (1 ≤ v 142 ∧ v 142 ≤ 99) ∧ (0 ≤ v 143 ∧ v 143 ≤ 50) ∧ (1 ≤ v 144 ∧ v 144 ≤ 200) ∧ (1 ≤ v 145 ∧ v 145 ≤ 50) ∧ (1 ≤ v 146 ∧ v 146 ≤ 200) ∧ (1 ≤ v 147 ∧ v 147 ≤ 500) ∧ (0 ≤ v 148 ∧ v 148 ≤ 20)) ∧
  (∀ i : Int, 0 ≤ i → i < v 0 → wL v i)
/-- the show, always -/
def wH (v : rv) : Prop :=
  (v 162 = 0 ∨ v 162 = 1) ∧ (v 163 = 0 ∨ v 163 = 1) ∧ (v 165 = 0 ∨ v 165 = 1) ∧ (v 171 = 0 ∨ v 171 = 1) ∧ (-1 ≤ v 172 ∧ v 172 ≤ 5) ∧ (0 ≤ v 172 → 1 ≤ v 173 ∧ v 173 ≤ 4000) ∧
  (0 ≤ v 174 ∧ v 174 ≤ 6) ∧ (∀ k : Int, 0 ≤ k → k < v 174 → 0 ≤ v (175 + k) ∧ v (175 + k) ≤ 5) ∧ (0 ≤ v 191 ∧ v 191 ≤ 5) ∧ (0 ≤ v 195 ∧ v 195 ≤ 5)
def wE (v : rv) (k : Int) : Int := v (if k = 0 then 172 else 174 + k)
/-- the operator's tasks while a show runs -/
def wQ (v : rv) : Prop :=
  (∀ i j : Int, 0 ≤ i → i < j → j ≤ v 174 → wE v i ≠ wE v j) ∧
  (∀ j p : Int, 0 ≤ j → j ≤ v 174 → (p = 0 ∨ p = 1) → (wE v j = 3 * p → v (191 + 4 * p) = 4) ∧ (wE v j = 3 * p + 2 → v (191 + 4 * p) = 5) ∧
    (wE v j = 3 * p + 1 → v (191 + 4 * p) = 0 ∨ (v (191 + 4 * p) = 4 ∧ ∃ i : Int, 0 ≤ i ∧ i < j ∧ wE v i = 3 * p))) ∧
  tThr v + v 170 ≤ v 149
def wP (g : Int) (v : rv) (p : Int) : Prop :=
  ((v (191 + 4 * p) ≠ 0 ∨ v 165 = p) → 0 ≤ v (192 + 4 * p) ∧ v (192 + 4 * p) < v 149) ∧
  (v (191 + 4 * p) = 3 ∨ v (191 + 4 * p) = 5 → v 165 = p ∧ v 171 = 0) ∧
  (v (191 + 4 * p) = 3 → 0 ≤ v (193 + 4 * p) ∧ v (193 + 4 * p) ≤ 3000 + g) ∧
  (v (191 + 4 * p) = 5 → 0 ≤ v (194 + 4 * p) ∧ v (194 + 4 * p) ≤ 3001 ∧ v (194 + 4 * p) = v (193 + 4 * p)) ∧
  (v (191 + 4 * p) = 2 → v 165 = 1 - p ∧ -90 ≤ v (193 + 4 * p) ∧ (v 171 = 0 → v (191 + 4 * (1 - p)) = 3 ∧ v (193 + 4 * p) < v (193 + 4 * (1 - p))) ∧
    (v 171 = 1 → (g = 0 → v (193 + 4 * p) < 0) ∧ v (193 + 4 * p) ≤ 3000))
/-- while a show runs -/
def wK (g : Int) (v : rv) : Prop := (1 ≤ v 170 ∧ v 170 ≤ v 149 ∧ v 162 = 1) ∧ wP g v 0 ∧ wP g v 1 ∧ wQ v
