/-! ===== pure part: the trial room, slots ===== -/
theorem qw_i {I : rc_M} {a : Nat} {f : Int → Int} (h : I a = f) : rc_w I a f = I := by rw [← h]; exact rc_w_id _ _
def tCp (a b : rv) (x : Int) : rv := fun j => if 0 ≤ j ∧ j < x then a j else b j
theorem tCp_u (a b : rv) {x : Int} (h : 0 ≤ x) : rc_u (tCp a b x) x (a x) = tCp a b (x + 1) := by
  funext j
  unfold rc_u tCp
  by_cases e : j = x
  · subst e; rw [if_pos rfl, if_pos (by omega)]
  · rw [if_neg e]
    by_cases c : 0 ≤ j ∧ j < x
    · rw [if_pos c, if_pos (by omega)]
    · rw [if_neg c, if_neg (by omega)]
theorem tCp_0 (a b : rv) : tCp a b 0 = b := by funext j; unfold tCp; rw [if_neg (by omega)]
theorem m_keeps {G : rc_G} {m : Nat} {I : rc_M} {v w : rv} {post : rc_M → Prop} (hv : I (m + 1) = v) (hw : I (m + 2) = w) (h : post (rc_w I (m + 2) (tCp v w 199))) : wX8_keeps G m I post := by
  have L : ∀ (d : Nat) (x : Int), 0 ≤ x → 199 - x = d → ∃ n, rX8_keeps_2 G post m n x (rc_w I (m + 2) (tCp v w x)) := by
    intro d
    induction d with
    | zero =>
      intro x x0 hd
      refine ⟨1, ?_⟩
      show wX8_keeps_2 G post m _ x _
      unfold wX8_keeps_2
      have e : x = 199 := by omega
      subst e
      exact ⟨by unfold rc_R; omega, fun _ => h, fun q => absurd q (by omega)⟩
    | succ d ih =>
      intro x x0 hd
      obtain ⟨n, hn⟩ := ih (x + 1) (by omega) (by omega)
      refine ⟨n + 1, ?_⟩
      show wX8_keeps_2 G post m (rX8_keeps_2 G post m n) x _
      unfold wX8_keeps_2
      refine ⟨by unfold rc_R; omega, fun q => absurd q (by omega), fun _ => ⟨by omega, by omega, fun J e => ?_⟩⟩
      rw [rc_w_n _ _ (by omega), hv, pS, tCp_u v w x0] at e
      rw [e]; exact hn
  obtain ⟨n, hn⟩ := L 199 0 (by omega) (by omega)
  have e : rc_w I (m + 2) (tCp v w 0) = I := by rw [tCp_0, ← hw]; exact rc_w_id _ _
  rw [e] at hn
  exact ⟨n, hn⟩
theorem m_comesBack {G : rc_G} {m : Nat} {I : rc_M} {v w : rv} {post : rc_M → Prop} (hv : I (m + 1) = v) (hw : I (m + 2) = w) (h : post (rc_w I (m + 1) (tCp w v 199))) : wX8_comesBack G m I post := by
  have L : ∀ (d : Nat) (x : Int), 0 ≤ x → 199 - x = d → ∃ n, rX8_comesBack_2 G post m n x (rc_w I (m + 1) (tCp w v x)) := by
    intro d
    induction d with
    | zero =>
      intro x x0 hd
      refine ⟨1, ?_⟩
      show wX8_comesBack_2 G post m _ x _
      unfold wX8_comesBack_2
      have e : x = 199 := by omega
      subst e
      exact ⟨by unfold rc_R; omega, fun _ => h, fun q => absurd q (by omega)⟩
    | succ d ih =>
      intro x x0 hd
      obtain ⟨n, hn⟩ := ih (x + 1) (by omega) (by omega)
      refine ⟨n + 1, ?_⟩
      show wX8_comesBack_2 G post m (rX8_comesBack_2 G post m n) x _
      unfold wX8_comesBack_2
      refine ⟨by unfold rc_R; omega, fun q => absurd q (by omega), fun _ => ⟨by omega, by omega, fun J e => ?_⟩⟩
      rw [rc_w_n _ _ (by omega), hw, pS, tCp_u w v x0] at e
      rw [e]; exact hn
  obtain ⟨n, hn⟩ := L 199 0 (by omega) (by omega)
  have e : rc_w I (m + 1) (tCp w v 0) = I := by rw [tCp_0, ← hv]; exact rc_w_id _ _
  rw [e] at hn
  exact ⟨n, hn⟩
/-- what a show on trial has come to -/
def tFore (v : rv) (a : Int) : Int := if v 163 = 0 then -100005 else if a = 0 then v 164 else v (165 + a)
theorem x_foretold {G : rc_G} {x : Nat} {J : rc_M} {u : rv} {a : Int} {post : Int → rc_M → Prop} (E : eA J (x + 42) u) (hh : wH u) (h162 : u 163 = 0 → u 162 = 1) (ha : 0 ≤ a ∧ a ≤ 4) (h : post (tFore u a) J) : wX7_foretold G x a J post := by
  obtain ⟨c0, c1, c2, c3, c4, c5, c7, c8, c9⟩ := E.2.1
  unfold wX7_foretold
  rw [c0, c1, c2, c3, c4, c5]
  unfold tFore at h
  by_cases z : u 163 = 0
  · rw [if_pos z] at h
    rw [if_pos ⟨h162 z, z⟩]
    exact ⟨by unfold rc_R; omega, fun q => absurd q (by decide), fun _ => h⟩
  · rw [if_neg z] at h
    rw [if_neg (fun q => z q.2)]
    refine ⟨rc_R0, fun _ => ⟨by unfold rc_R; omega, fun c => ?_, fun c => ?_, fun c => ?_, fun c => ?_, fun c => ?_⟩, fun q => absurd rfl q⟩
    · subst c; simpa using h
    · subst c; simpa using h
    · subst c; simpa using h
    · subst c; simpa using h
    · have : a = 4 := by omega
      subst this; simpa using h
theorem m_fore {G : rc_G} {m : Nat} {I : rc_M} {v : rv} {a : Int} {post : Int → rc_M → Prop} (hv : I (m + 1) = v) (s : wS v) (hh : wH v) (k : v 163 = 0 → wK 0 v) (ha : 0 ≤ a ∧ a ≤ 4)
    (h : ∀ J : rc_M, (∀ b : Nat, b ≠ m + 1 → b ≠ m + 2 → J b = I b) → (∀ j : Int, 0 ≤ j → j < 199 → J (m + 1) j = v j) → post (tFore (tPass 20000 v) a) J) : wX8_forecastNow G m a I post := by
  have P := inv_pass 20000 s hh k
  unfold wX8_forecastNow
  refine m_keeps hv rfl ?_
  have e1 : rc_w (rc_w I (m + 2) (tCp v (I (m + 2)) 199)) (m + 1) v = rc_w I (m + 2) (tCp v (I (m + 2)) 199) := by
    exact qw_i (by rw [rc_w_n _ _ (by omega)]; exact hv)
  rw [← e1]
  refine m_passes (by omega) s hh k ?_
  rw [show (20000 : Int).toNat = 20000 from rfl]
  generalize tPass 20000 v = u at *
  have fin : ∀ y0 : Int, y0 = tFore u a → wX8_forecastNow_55 G post m a y0 (rc_w (rc_w I (m + 2) (tCp v (I (m + 2)) 199)) (m + 1) u) := by
    intro y0 hy
    unfold wX8_forecastNow_55
    refine m_comesBack (v := u) (w := tCp v (I (m + 2)) 199) (rc_w_s _ _ _) (by rw [rc_w_n _ _ (by omega), rc_w_s]) ?_
    rw [hy]
    refine h _ (fun b b1 b2 => by rw [rc_w_n _ _ b1, rc_w_n _ _ b1, rc_w_n _ _ b2]) (fun j j0 j1 => ?_)
    rw [rc_w_s]
    unfold tCp
    rw [if_pos ⟨j0, j1⟩, if_pos ⟨j0, j1⟩]
  have q163 := P.2.1.2.1
  simp only [rc_w_s]
  unfold tFore at fin
  refine ⟨by unfold rc_R; omega, fun z => ⟨by unfold rc_R; omega, fun c => ⟨by omega, ?_⟩, fun c => ?_⟩, fun z => ?_⟩
  · exact fin _ (by rw [if_neg z, if_neg c, show (166 + a) - 1 = 165 + a by omega])
  · exact fin _ (by rw [if_neg z, if_pos c])
  · exact fin _ (by rw [if_pos z])
/-- the end of a call that leaves the room as it is -/
theorem tI_same {G : rc_G} {x : Nat} {I J : rc_M} (t : tI G x I) (h : ∀ a : Nat, (x + 1 ≤ a ∧ a ≤ x + 41) ∨ (x + 83 ≤ a ∧ a ≠ x + 89 ∧ a ≠ x + 90) → J a = I a) (hv : ∀ j : Int, 0 ≤ j → j < 199 → J (x + 89) j = I (x + 89) j) : tI G x J := by
  have V := t.2.2.2.2.1
  have E := t.2.2.2.1
  refine tI_std t ?_ (tV_c hv V) (fun a a0 a1 a2 => h a (Or.inr ⟨a0, a1, a2⟩))
  exact eA_cv V.1 V.2.1.2.2.2.2.2.2.1.2 hv (eA_far V.1 (fun a a0 a1 => h a (Or.inl ⟨by omega, by omega⟩)) E)
theorem op_forecast {G : rc_G} {x : Nat} {I : rc_M} {a : Int} {k : rc_M → Prop} (t : tI G x I) (ha : rc_R a) (hk : ∀ J : rc_M, tI G x J → k J) : wX7_forecast G x a I (fun r1 I1 => wX8_forecast G (x + 88) a I1 (fun r2 I2 => r1 = r2 ∧ k I2)) := by
  obtain ⟨t0, t1, t2, E, V, t5, t6, t7⟩ := id t
  obtain ⟨v, ev⟩ : ∃ v, v = I (x + 89) := ⟨_, rfl⟩
  rw [← ev] at E V
  have hv : I (x + 88 + 1) = v := ev.symm
  have c0 := E.2.1.1
  unfold wX7_forecast
  refine x_within ha (by unfold rc_R; omega) (by unfold rc_R; omega) ?_
  by_cases c : 0 ≤ a ∧ a ≤ 4
  · rw [if_pos c, c0]
    refine ⟨by unfold rc_R; omega, fun _ => ?_, fun q => absurd q (by decide)⟩
    by_cases z : v 162 = 1 ∧ v 163 = 0
    · rw [if_pos z]
      have K := V.2.2 z.1 z.2
      refine ⟨by unfold rc_R; omega, fun _ => ?_, fun q => absurd q (by decide)⟩
      refine x_copy (r := x + 42) (r0 := x + 1) (by omega) V.1 V.2.1 E (fun J EJ FJ => ?_)
      refine x_run t1.2.2.1 (by omega) V.1 V.2.1 (fun _ => K) EJ (fun L EL FL => ?_)
      have P := inv_pass 20000 V.1 V.2.1 (fun _ => K)
      rw [show (20000 : Int).toNat = 20000 from rfl] at EL
      refine x_foretold EL P.2.1 (fun q => wK_162 (P.2.2 q)) c ?_
      have lo : ∀ b : Nat, (b < x + 42 ∨ x + 82 < b) → L b = I b := fun b hb => by rw [FL b (by omega), FJ b (by omega)]
      have hv2 : L (x + 88 + 1) = v := by rw [lo _ (by omega)]; exact hv
      unfold wX8_forecast
      refine m_in ha (by unfold rc_R; omega) (by unfold rc_R; omega) ?_
      rw [if_pos c]
      refine ⟨by unfold rc_R; omega, fun _ => ?_, fun q => absurd q (by decide)⟩
      have e : rc_w L (x + 88 + 1) v = L := by rw [← hv2]; exact rc_w_id _ _
      rw [← e]
      refine m_running V.2.1 ?_
      rw [if_pos z, e]
      refine ⟨by unfold rc_R; omega, fun q => absurd q (by decide), fun _ => m_fore hv2 V.1 V.2.1 (fun _ => K) c (fun M f1 f2 => ⟨rfl, hk M (tI_same t (fun b hb => ?_) (fun j j0 j1 => ?_))⟩)⟩
      · rw [f1 b (by omega) (by omega)]; exact lo b (by omega)
      · rw [← ev]; exact f2 j j0 j1
    · rw [if_neg z]
      refine ⟨rc_R0, fun q => absurd rfl q, fun _ => ?_⟩
      unfold wX8_forecast
      refine m_in ha (by unfold rc_R; omega) (by unfold rc_R; omega) ?_
      rw [if_pos c]
      refine ⟨by unfold rc_R; omega, fun _ => ?_, fun q => absurd q (by decide)⟩
      have e : rc_w I (x + 88 + 1) v = I := by rw [← hv]; exact rc_w_id _ _
      rw [← e]
      refine m_running V.2.1 ?_
      rw [if_neg z, e]
      exact ⟨rc_R0, fun _ => ⟨rfl, hk I t⟩, fun q => absurd rfl q⟩
  · rw [if_neg c]
    refine ⟨rc_R0, fun q => absurd rfl q, fun _ => ?_⟩
    unfold wX8_forecast
    refine m_in ha (by unfold rc_R; omega) (by unfold rc_R; omega) ?_
    rw [if_neg c]
    exact ⟨rc_R0, fun q => absurd rfl q, fun _ => ⟨rfl, hk I t⟩⟩
