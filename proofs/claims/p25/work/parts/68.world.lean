/-! ===== pure part: what holds between two calls ===== -/
def tV (v : rv) : Prop := wS v ∧ wH v ∧ (v 162 = 1 → v 163 = 0 → wK 0 v)
def tT (I : rc_M) (x : Nat) : Prop := I (x + 84) 2 = I (x + 88) 8 ∧ (0 ≤ I (x + 88) 8 ∧ I (x + 88) 8 ≤ 60) ∧ ∀ k : Int, 0 ≤ k → k < I (x + 88) 8 → I (x + 86) k = I (x + 96) k ∧ 0 ≤ I (x + 96) k ∧ I (x + 96) k ≤ 127
def tD (I : rc_M) (x : Nat) : Prop := ∀ j : Int, 0 ≤ j → j < 8 → I (x + 93) j = rc_lo j ∧ I (x + 94) j = rc_hi j
def tW (I : rc_M) (x : Nat) (n : Int) : rv := fun k => I (x + 91) (199 * n + k)
def tZ1 (G : rc_G) (I : rc_M) (x : Nat) (n : Int) : Prop :=
  (I (x + 83) n ≤ 0 ∧ I (x + 92) n = 0) ∨ (0 < I (x + 83) n ∧ I (x + 92) n = 1 ∧ x + 101 ≤ (I (x + 83) n).toNat ∧ kX4 G (I (x + 83) n).toNat ∧ eA I (I (x + 83) n).toNat (tW I x n) ∧ tV (tW I x n))
def tZ (G : rc_G) (I : rc_M) (x : Nat) : Prop := tZ1 G I x 0 ∧ tZ1 G I x 1 ∧ (0 < I (x + 83) 0 → 0 < I (x + 83) 1 → (I (x + 83) 0).toNat + 40 < (I (x + 83) 1).toNat ∨ (I (x + 83) 1).toNat + 40 < (I (x + 83) 0).toNat)
theorem eA_far {I J : rc_M} {r : Nat} {v : rv} (s : wS v) (h : ∀ a : Nat, r ≤ a → a ≤ r + 40 → J a = I a) (E : eA I r v) : eA J r v := by
  obtain ⟨R, C, O, P⟩ := E
  exact ⟨eR_c s (fun a a0 a1 => h a (by omega) (by omega)) (fun _ _ _ => rfl) R, eC_c (h _ (by omega) (by omega)) (fun _ _ _ => rfl) C, eO_c ⟨h _ (by omega) (by omega), h _ (by omega) (by omega), h _ (by omega) (by omega)⟩ rfl rfl rfl (fun _ _ _ => rfl) O, fun p hp => eP_c (h _ (by omega) (by omega)) rfl rfl rfl (fun q => q) (P p hp)⟩
theorem eA_cv {I : rc_M} {r : Nat} {u v : rv} (s : wS v) (n6 : v 174 ≤ 6) (h : ∀ j : Int, 0 ≤ j → j < 199 → u j = v j) (E : eA I r v) : eA I r u := by
  obtain ⟨R, C, O, P⟩ := E
  exact ⟨eR_c s (fun _ _ _ => rfl) (fun j j0 j1 => h j j0 (by omega)) R, eC_c rfl (fun j _ _ => h j (by omega) (by omega)) C, eO_c ⟨rfl, rfl, rfl⟩ (h _ (by decide) (by decide)) (h _ (by decide) (by decide)) (h _ (by decide) (by decide)) (fun k k0 k1 => h _ (by omega) (by omega)) O, fun p hp => eP_c rfl (h _ (by omega) (by omega)) (h _ (by omega) (by omega)) (h _ (by omega) (by omega)) (fun q => by rw [h 162 (by decide) (by decide), h 163 (by decide) (by decide), h 165 (by decide) (by decide)] at q; exact q) (P p hp)⟩
theorem wQ_c {u v : rv} (q174 : 0 ≤ v 174 ∧ v 174 ≤ 6) (h : ∀ j : Int, 149 ≤ j → j < 199 → u j = v j) (q : wQ v) : wQ u :=
  wQ_st q174.1 q (h _ (by decide) (by decide)) (h _ (by decide) (by decide)) (fun k k0 k1 => h _ (by omega) (by omega)) (h _ (by decide) (by decide)) (h _ (by decide) (by decide)) (fun p hp => Or.inl (h _ (by omega) (by omega)))
theorem wP_c2 {g : Int} {u v : rv} {p : Int} (hp : p = 0 ∨ p = 1) (h : ∀ j : Int, 149 ≤ j → j < 199 → u j = v j) (w : wP g v p) : wP g u p := by
  unfold wP at *
  rw [h 149 (by decide) (by decide), h 165 (by decide) (by decide), h 171 (by decide) (by decide), h (191 + 4 * p) (by omega) (by omega), h (192 + 4 * p) (by omega) (by omega), h (193 + 4 * p) (by omega) (by omega), h (194 + 4 * p) (by omega) (by omega), h (191 + 4 * (1 - p)) (by omega) (by omega), h (193 + 4 * (1 - p)) (by omega) (by omega)]
  exact w
theorem wK_c {g : Int} {u v : rv} (q174 : 0 ≤ v 174 ∧ v 174 ≤ 6) (h : ∀ j : Int, 149 ≤ j → j < 199 → u j = v j) (k : wK g v) : wK g u :=
  ⟨by rw [h 170 (by decide) (by decide), h 149 (by decide) (by decide), h 162 (by decide) (by decide)]; exact k.1, wP_c2 (Or.inl rfl) h k.2.1, wP_c2 (Or.inr rfl) h k.2.2.1, wQ_c q174 h k.2.2.2⟩
theorem wH_c2 {u v : rv} (h : ∀ j : Int, 162 ≤ j → j < 199 → u j = v j) (hh : wH v) : wH u := by
  have hh' := hh
  obtain ⟨q162, q163, q165, q171, q172, q173, q174, qrow, q191, q195⟩ := hh'
  exact wH_c hh (h _ (by decide) (by decide)) (by rw [h 163 (by decide) (by decide)]; exact q163) (by rw [h 165 (by decide) (by decide)]; exact q165) (by rw [h 171 (by decide) (by decide)]; exact q171) (h _ (by decide) (by decide)) (h _ (by decide) (by decide)) (h _ (by decide) (by decide)) (fun k k0 k1 => h _ (by omega) (by omega)) (by rw [h 191 (by decide) (by decide)]; exact q191) (by rw [h 195 (by decide) (by decide)]; exact q195)
theorem tV_c {u v : rv} (h : ∀ j : Int, 0 ≤ j → j < 199 → u j = v j) (t : tV v) : tV u :=
  ⟨wS_lo (fun j j0 j1 => h j j0 (by omega)) t.1, wH_c2 (fun j j0 j1 => h j (by omega) j1) t.2.1, fun a b => wK_c t.2.1.2.2.2.2.2.2.1 (fun j j0 j1 => h j (by omega) j1) (t.2.2 (by rw [← h 162 (by decide) (by decide)]; exact a) (by rw [← h 163 (by decide) (by decide)]; exact b))⟩
theorem tZ1_c {G : rc_G} {I J : rc_M} {x : Nat} {n : Int} (h83 : J (x + 83) = I (x + 83)) (h91 : J (x + 91) = I (x + 91)) (h92 : J (x + 92) = I (x + 92)) (h : ∀ a : Nat, x + 101 ≤ a → J a = I a) (z : tZ1 G I x n) : tZ1 G J x n := by
  have e : tW J x n = tW I x n := by unfold tW; rw [h91]
  unfold tZ1
  rw [h83, h92, e]
  rcases z with z | ⟨z1, z2, z3, z4, z5, z6⟩
  · exact Or.inl z
  · exact Or.inr ⟨z1, z2, z3, z4, eA_far z6.1 (fun a a0 _ => h a (by omega)) z5, z6⟩
theorem tZ_c {G : rc_G} {I J : rc_M} {x : Nat} (h83 : J (x + 83) = I (x + 83)) (h91 : J (x + 91) = I (x + 91)) (h92 : J (x + 92) = I (x + 92)) (h : ∀ a : Nat, x + 101 ≤ a → J a = I a) (z : tZ G I x) : tZ G J x := by
  refine ⟨tZ1_c h83 h91 h92 h z.1, tZ1_c h83 h91 h92 h z.2.1, ?_⟩
  rw [h83]; exact z.2.2
theorem tT_c {I J : rc_M} {x : Nat} (h84 : J (x + 84) 2 = I (x + 84) 2) (h86 : J (x + 86) = I (x + 86)) (h88 : J (x + 88) 8 = I (x + 88) 8) (h96 : J (x + 96) = I (x + 96)) (t : tT I x) : tT J x := by
  unfold tT
  rw [h84, h86, h88, h96]; exact t
theorem tI_id {G : rc_G} {x : Nat} {I : rc_M} : rc_w I (x + 88 + 1) (I (x + 89)) = I := rc_w_id I (x + 89)
theorem x_within {G : rc_G} {a b c : Int} {I : rc_M} {post : Int → rc_M → Prop} (ha : rc_R a) (hb : rc_R b) (hc : rc_R c) (h : post (if b ≤ a ∧ a ≤ c then 1 else 0) I) : wX7_isWithin G a b c I post := by
  unfold wX7_isWithin
  refine ⟨ha, hb, fun q => ?_, fun q => ⟨ha, hc, fun q2 => ?_, fun q2 => ?_⟩⟩
  · rw [if_neg (by omega)] at h; exact h
  · rw [if_neg (by omega)] at h; exact h
  · rw [if_pos (by omega)] at h; exact h
