/-! ===== the class alone: what its calls answer, what they change ===== -/
def cF (x : Nat) (I J : rc_M) : Prop := ∀ b : Nat, (b < x + 1 ∨ x + 82 < b) → J b = I b
theorem cF_r (x : Nat) (I : rc_M) : cF x I I := fun _ _ => rfl
theorem cF_t {x : Nat} {I J K : rc_M} (h : cF x I J) (g : cF x J K) : cF x I K := fun b hb => (g b hb).trans (h b hb)
theorem cF_e {x : Nat} {I J : rc_M} (h : eF (x + 1) I J) : cF x I J := fun b hb => h b (by omega)
theorem c_tell {G : rc_G} {x : Nat} {I : rc_M} {v : rv} {a : Int} {post : Int → rc_M → Prop} (E : eA I (x + 1) v) (ha : rc_R a) (h : post (if 0 ≤ a ∧ a ≤ 9 then tTell v a else -100001) I) : wX7_tell G x a I post := by
  unfold wX7_tell
  exact x_count E.2 ha h
theorem c_pass {G : rc_G} {x : Nat} {I : rc_M} {v : rv} {a : Int} {post : Int → rc_M → Prop} (t1 : kX7 G x) (E : eA I (x + 1) v) (V : tV v) (ha : rc_R a)
    (h1 : 1 ≤ a ∧ a ≤ 2000 → v 162 = 1 → v 163 = 0 → ∀ J : rc_M, eA J (x + 1) (tPass a.toNat v) → tV (tPass a.toNat v) → cF x I J → post (tPassN a.toNat v) J)
    (h2 : 1 ≤ a ∧ a ≤ 2000 → ¬ (v 162 = 1 ∧ v 163 = 0) → post (-100003) I) (h3 : ¬ (1 ≤ a ∧ a ≤ 2000) → post (-100002) I) : wX7_pass G x a I post := by
  have c0 := E.2.1.1
  unfold wX7_pass
  refine x_within ha (by unfold rc_R; omega) (by unfold rc_R; omega) ?_
  by_cases c : 1 ≤ a ∧ a ≤ 2000
  · rw [if_pos c, c0]
    refine ⟨by unfold rc_R; omega, fun _ => ?_, fun q => absurd q (by decide)⟩
    by_cases z : v 162 = 1 ∧ v 163 = 0
    · rw [if_pos z]
      have K := V.2.2 z.1 z.2
      refine ⟨by unfold rc_R; omega, fun _ => ?_, fun q => absurd q (by decide)⟩
      refine x_run t1.2.1 (by omega) V.1 V.2.1 (fun _ => K) E (fun J EJ FJ => ?_)
      have P := inv_pass a.toNat V.1 V.2.1 (fun _ => K)
      exact h1 c z.1 z.2 J EJ ⟨P.1, P.2.1, fun _ y => P.2.2 y⟩ (cF_e FJ)
    · rw [if_neg z]
      exact ⟨rc_R0, fun q => absurd rfl q, fun _ => h2 c z⟩
  · rw [if_neg c]
    exact ⟨rc_R0, fun q => absurd rfl q, fun _ => h3 c⟩
theorem c_fore {G : rc_G} {x : Nat} {I : rc_M} {v : rv} {a : Int} {post : Int → rc_M → Prop} (t1 : kX7 G x) (E : eA I (x + 1) v) (V : tV v) (ha : rc_R a)
    (h1 : 0 ≤ a ∧ a ≤ 4 → v 162 = 1 → v 163 = 0 → ∀ L : rc_M, eA L (x + 1) v → cF x I L → post (tFore (tPass 20000 v) a) L)
    (h2 : 0 ≤ a ∧ a ≤ 4 → ¬ (v 162 = 1 ∧ v 163 = 0) → post (-100003) I) (h3 : ¬ (0 ≤ a ∧ a ≤ 4) → post (-100001) I) : wX7_forecast G x a I post := by
  have c0 := E.2.1.1
  unfold wX7_forecast
  refine x_within ha (by unfold rc_R; omega) (by unfold rc_R; omega) ?_
  by_cases c : 0 ≤ a ∧ a ≤ 4
  · rw [if_pos c, c0]
    refine ⟨by unfold rc_R; omega, fun _ => ?_, fun q => absurd q (by decide)⟩
    by_cases z : v 162 = 1 ∧ v 163 = 0
    · rw [if_pos z]
      have K := V.2.2 z.1 z.2
      refine ⟨by unfold rc_R; omega, fun _ => ?_, fun q => absurd q (by decide)⟩
      refine x_copy (r := x + 42) (r0 := x + 1) (by omega) V.1 V.2.1 E (fun J EJ FJ => ?_)
      refine x_run t1.2.2.1 (by omega) V.1 V.2.1 (fun _ => K) EJ (fun L EL FL => ?_)
      have P := inv_pass 20000 V.1 V.2.1 (fun _ => K)
      rw [show (20000 : Int).toNat = 20000 from rfl] at EL
      refine x_foretold EL P.2.1 (fun q => wK_162 (P.2.2 q)) c ?_
      have lo : ∀ b : Nat, (b < x + 42 ∨ x + 82 < b) → L b = I b := fun b hb => by rw [FL b (by omega), FJ b (by omega)]
      exact h1 c z.1 z.2 L (eA_far V.1 (fun a a0 a1 => lo a (by omega)) E) (fun b hb => lo b (by omega))
    · rw [if_neg z]
      exact ⟨rc_R0, fun q => absurd rfl q, fun _ => h2 c z⟩
  · rw [if_neg c]
    exact ⟨rc_R0, fun q => absurd rfl q, fun _ => h3 c⟩
/-- the checksum of a row -/
noncomputable def hSum (v : rv) : Int64 := if v 162 = 1 ∧ v 163 = 0 then (31 * ((31 * hShow v (hStock v 139)) + (rc_o (tFore (tPass 20000 v) 0)).toInt64)) + (rc_o (tFore (tPass 20000 v) 1)).toInt64 else hShow v (hStock v 139)
theorem c_sum {G : rc_G} {x : Nat} {I : rc_M} {v : rv} {post : Int64 → rc_M → Prop} (t1 : kX7 G x) (E : eA I (x + 1) v) (V : tV v) (h : ∀ L : rc_M, eA L (x + 1) v → cF x I L → post (hSum v) L) : wX7_checksum G x I post := by
  have c0 : I (x + 1 + 35) 0 = _ := E.2.1.1
  unfold wX7_checksum wX7_mix
  refine x_sumStock t1 E V.1 (x_sumShow t1 E V.2.1 ?_)
  show rc_R (I (x + 1 + 35) 0) ∧ _
  rw [c0]
  unfold hSum at h
  by_cases z : v 162 = 1 ∧ v 163 = 0
  · rw [if_pos z] at h ⊢
    have K := V.2.2 z.1 z.2
    refine ⟨by unfold rc_R; omega, fun _ => ?_, fun q => absurd q (by decide)⟩
    refine x_copy (r := x + 42) (r0 := x + 1) (by omega) V.1 V.2.1 E (fun J EJ FJ => ?_)
    refine x_run t1.2.2.1 (by omega) V.1 V.2.1 (fun _ => K) EJ (fun L EL FL => ?_)
    have P := inv_pass 20000 V.1 V.2.1 (fun _ => K)
    rw [show (20000 : Int).toNat = 20000 from rfl] at EL
    refine x_foretold EL P.2.1 (fun q => wK_162 (P.2.2 q)) (by decide) (x_foretold EL P.2.1 (fun q => wK_162 (P.2.2 q)) (by decide) ?_)
    have lo : ∀ b : Nat, (b < x + 42 ∨ x + 82 < b) → L b = I b := fun b hb => by rw [FL b (by omega), FJ b (by omega)]
    exact h L (eA_far V.1 (fun a a0 a1 => lo a (by omega)) E) (fun b hb => lo b (by omega))
  · rw [if_neg z] at h ⊢
    exact ⟨rc_R0, fun q => absurd rfl q, fun _ => h I E (cF_r x I)⟩
theorem c_save {G : rc_G} {x : Nat} {I : rc_M} {v : rv} {n : Int} {post : Int → rc_G → rc_M → Prop} (E : eA I (x + 1) v) (V : tV v) (hn : n = 0 ∨ n = 1) (hx : x + 89 ∈ rc_L G)
    (hs : I (x + 83) n ≤ 0 ∨ (0 < I (x + 83) n ∧ x + 90 ≤ (I (x + 83) n).toNat ∧ kX4 G (I (x + 83) n).toNat))
    (H : ∀ (G1 : rc_G) (J : rc_M) (z : Nat), rs_le G G1 → kX4 G1 z → x + 90 ≤ z → J (x + 83) n = (z : Int) → (∀ j : Int, j ≠ n → J (x + 83) j = I (x + 83) j) → (∀ b : Nat, b < x + 90 → b ≠ x + 83 → J b = I b) → eA J z v → post (v 0) G1 J) : wX7_save G x n I post := by
  unfold wX7_save
  refine x_within (by unfold rc_R; omega) (by unfold rc_R; omega) (by unfold rc_R; omega) ?_
  rw [if_pos (by omega)]
  refine ⟨by unfold rc_R; omega, fun _ => ⟨by omega, fun d z z0 zf I2 e2 => ?_, fun d => ?_⟩, fun q => absurd q (by decide)⟩
  · have m89 : x + 89 < z := zf _ hx
    have i2 : ∀ b : Nat, b < z → b ≠ x + 83 → I2 b = I b := fun b hb h2 => by rw [e2, qs_n _ _ _ h2]; exact rs_in hb
    have i83 : ∀ j : Int, j ≠ n → I2 (x + 83) j = I (x + 83) j := fun j hj => by rw [e2, qs_s, rc_u_n _ _ hj, rs_in (by omega)]
    have E0 : eA I2 (x + 1) v := eA_far V.1 (fun a a0 a1 => i2 a (by omega) (by omega)) E
    refine x_copy (by omega) V.1 V.2.1 E0 (fun J EJ FJ => ?_)
    have a0 : J (x + 1 + 1) 0 = v 0 := by rw [FJ _ (by omega)]; exact E0.1.1
    rw [a0]
    refine H (rs_room G z) J z (rs_ext_le zf) (rs_kR G z) (by omega) ?_ (fun j hj => ?_) (fun b hb h83 => ?_) EJ
    · rw [FJ _ (by omega), e2, qs_s, rc_u_s]
    · rw [FJ _ (by omega)]; exact i83 j hj
    · rw [FJ b (by omega)]; exact i2 b (by omega) h83
  · rcases hs with y | ⟨z1, z2, z3⟩
    · omega
    · refine ⟨z3, x_copy (by omega) V.1 V.2.1 E (fun J EJ FJ => ?_)⟩
      have a0 : J (x + 1 + 1) 0 = v 0 := by rw [FJ _ (by omega)]; exact E.1.1
      rw [a0]
      exact H G J _ (rs_le.rf G) z3 z2 (by rw [FJ _ (by omega)]; omega) (fun j hj => by rw [FJ _ (by omega)]) (fun b hb h83 => FJ b (by omega)) EJ
theorem c_restore {G : rc_G} {x : Nat} {I : rc_M} {w : rv} {n : Int} {post : Int → rc_M → Prop} (hn : n = 0 ∨ n = 1) (hz : 0 < I (x + 83) n) (z3 : x + 90 ≤ (I (x + 83) n).toNat) (z4 : kX4 G (I (x + 83) n).toNat) (W : tV w) (E : eA I (I (x + 83) n).toNat w)
    (H : ∀ J : rc_M, eA J (x + 1) w → cF x I J → post (w 0) J) : wX7_restore G x n I post := by
  unfold wX7_restore
  refine x_within (by unfold rc_R; omega) (by unfold rc_R; omega) (by unfold rc_R; omega) ?_
  rw [if_pos (by omega)]
  refine ⟨by unfold rc_R; omega, fun _ => ⟨by omega, fun d => absurd d (by omega), fun d => ⟨z4, x_copy (r := x + 1) (r0 := (I (x + 83) n).toNat) (by omega) W.1 W.2.1 E (fun J EJ FJ => ?_)⟩⟩, fun q => absurd q (by decide)⟩
  have a1 : J (x + 1 + 1) 0 = w 0 := EJ.1.1
  rw [a1]
  exact H J EJ (cF_e FJ)
theorem c_restore0 {G : rc_G} {x : Nat} {I : rc_M} {n : Int} {post : Int → rc_M → Prop} (hn : n = 0 ∨ n = 1) (hz : I (x + 83) n ≤ 0) (h : post (-100003) I) : wX7_restore G x n I post := by
  unfold wX7_restore
  refine x_within (by unfold rc_R; omega) (by unfold rc_R; omega) (by unfold rc_R; omega) ?_
  rw [if_pos (by omega)]
  exact ⟨by unfold rc_R; omega, fun _ => ⟨by omega, fun _ => h, fun d => absurd d (by omega)⟩, fun q => absurd q (by decide)⟩
theorem c_restoreE {G : rc_G} {x : Nat} {I : rc_M} {n : Int} {post : Int → rc_M → Prop} (hn : rc_R n) (hz : ¬ (0 ≤ n ∧ n ≤ 1)) (h : post (-100001) I) : wX7_restore G x n I post := by
  unfold wX7_restore
  refine x_within hn (by unfold rc_R; omega) (by unfold rc_R; omega) ?_
  rw [if_neg hz]
  exact ⟨rc_R0, fun q => absurd rfl q, fun _ => h⟩
theorem c_saveE {G : rc_G} {x : Nat} {I : rc_M} {n : Int} {post : Int → rc_M → Prop} (hn : rc_R n) (hz : ¬ (0 ≤ n ∧ n ≤ 1)) (h : post (-100001) I) : wX7_saveB G x n I post := by
  unfold wX7_saveB
  refine x_within hn (by unfold rc_R; omega) (by unfold rc_R; omega) ?_
  rw [if_neg hz]
  exact ⟨rc_R0, rfl, h⟩
theorem c_begin {G : rc_G} {x : Nat} {I : rc_M} {v : rv} {post : Int → rc_M → Prop} (E : eA I (x + 1) v) (V : tV v)
    (h1 : v 149 ≠ 0 → ∀ J : rc_M, eA J (x + 1) (tOpen v) → tV (tOpen v) → cF x I J → post (v 149) J) (h0 : v 149 = 0 → post (-100003) I) : wX7_begin G x I post := by
  have s1 := V.1.2.1
  have i1 : I (x + 1 + 1) 1 = v 149 := E.1.2.1
  unfold wX7_begin
  rw [i1]
  refine ⟨by unfold rc_R; omega, fun c => ?_, fun c => h0 c⟩
  refine x_open V.1 E.1 (fun J EJ FJ => ?_)
  have j1 : J (x + 1 + 1) 1 = v 149 := by rw [EJ.1.2.1]; exact (tOpen_spec v).1 149 (by decide)
  rw [j1]
  exact h1 c J EJ (tV_open V.1 c) (cF_e FJ)
theorem c_set {G : rc_G} {x : Nat} {I : rc_M} {v : rv} {n z : Int} {post : Int → rc_M → Prop} (E : eA I (x + 1) v) (V : tV v) (hn : rc_R n) (hz : rc_R z)
    (h1 : okS n z → ∀ J : rc_M, eA J (x + 1) (rc_u v (141 + n) z) → tV (rc_u v (141 + n) z) → cF x I J → post (v (141 + n)) J) (h2 : (0 ≤ n ∧ n < 8) → ¬ okS n z → post (-100002) I) (h3 : ¬ (0 ≤ n ∧ n < 8) → post (-100001) I) : wX7_set G x n z I post := by
  have n6 := V.2.1.2.2.2.2.2.2.1.2
  unfold wX7_set
  refine x_setErr hn hz (fun c => ⟨rc_R0, fun _ => ?_, fun q => absurd rfl q⟩) (fun c d => ⟨by unfold rc_R; omega, fun q => absurd q (by decide), fun _ => h2 c d⟩) (fun c => ⟨by unfold rc_R; omega, fun q => absurd q (by decide), fun _ => h3 c⟩)
  exact x_changeSet V.1 n6 c hz E (fun J EJ FJ => h1 c J EJ (tV_set V c) (cF_e FJ))
theorem c_darkE {G : rc_G} {x : Nat} {I : rc_M} {n z : Int} {post : Int → rc_M → Prop} (hn : rc_R n) (hz : rc_R z) (ne : ¬ okS n z) (h2 : (0 ≤ n ∧ n < 8) → post (-100002) I) (h3 : ¬ (0 ≤ n ∧ n < 8) → post (-100001) I) : wX7_darkWith G x n z I post := by
  unfold wX7_darkWith
  exact x_setErr hn hz (fun c => absurd c ne) (fun c d => ⟨by unfold rc_R; omega, fun q => absurd q (by decide), fun _ => h2 c⟩) (fun c => ⟨by unfold rc_R; omega, fun q => absurd q (by decide), fun _ => h3 c⟩)
theorem c_reel {G : rc_G} {x : Nat} {I : rc_M} {v : rv} {i w : Int} {post : Int → rc_M → Prop} (t1 : kX7 G x) (E : eA I (x + 1) v) (V : tV v) (hi : rc_R i) (hw : rc_R w)
    (h0 : (0 ≤ i ∧ i < v 0) → w = 0 → post (v (1 + 14 * i)) I) (h1 : (0 ≤ i ∧ i < v 0) → w = 1 → post (v (2 + 14 * i)) I) (h2 : (0 ≤ i ∧ i < v 0) → w = 2 → post (tWk v i (v (2 + 14 * i)).toNat) I) (h3 : (0 ≤ i ∧ i < v 0) → (w < 0 ∨ 2 < w) → post (-100002) I) (h4 : ¬ (0 ≤ i ∧ i < v 0) → post (-100001) I) : wX7_reel G x i w I post := by
  have s0 := V.1.1
  unfold wX7_reel
  refine x_reelNumbered E.1 V.1 hi ?_
  by_cases c : 0 ≤ i ∧ i < v 0
  · rw [if_pos c]
    have wl := V.1.2.2.2.2 i c.1 c.2
    have el := E.1.2.2.2.2 i c.1 c.2
    refine ⟨fun y => (by cases y), fun q y => ?_⟩
    have eq : q = x + 1 + 5 + 3 * i.toNat := by injection y with y; exact y.symm
    rw [← eq] at el
    refine ⟨by rw [eq]; exact k3_of t1.2.1.2.1 (by omega), hw, fun d => ?_, fun d => ?_, fun d => ?_, fun d => h3 c d⟩
    · rw [el.1]; exact h0 c d
    · rw [el.2.1]; exact h1 c d
    · exact x_least el wl (h2 c d)
  · rw [if_neg c]
    exact ⟨fun _ => h4 c, fun q y => (by cases y)⟩
theorem c_spliceE {G : rc_G} {x : Nat} {I : rc_M} {v : rv} {i n b : Int} {post : Int → rc_M → Prop} (t1 : kX7 G x) (E : eA I (x + 1) v) (V : tV v) (hi : 0 ≤ i ∧ i < v 0) (hn : n = -1) (h : post (-100001) I) : wX7_spliceAt G x i n b I post := by
  have s0 := V.1.1
  unfold wX7_spliceAt
  refine x_reelNumbered E.1 V.1 (by unfold rc_R; omega) ?_
  rw [if_pos hi]
  have wl := V.1.2.2.2.2 i hi.1 hi.2
  have el := E.1.2.2.2.2 i hi.1 hi.2
  refine ⟨fun y => (by cases y), fun q y => ?_⟩
  have eq : q = x + 1 + 5 + 3 * i.toNat := by injection y with y; exact y.symm
  rw [← eq] at el
  refine ⟨by rw [eq]; exact k3_of t1.2.1.2.1 (by omega), x_hasSplice el wl (by unfold rc_R; omega) ?_⟩
  rw [if_neg (by omega)]
  exact ⟨rc_R0, fun q => absurd rfl q, fun _ => h⟩
theorem c_program {G : rc_G} {x : Nat} {I : rc_M} {v : rv} {a : Int} {post : Int → rc_M → Prop} (E : eA I (x + 1) v) (V : tV v) (ha : rc_R a) (h : post (if 0 ≤ a ∧ a < v 149 then v (150 + a) else -100001) I) : wX7_program G x a I post := by
  unfold wX7_program
  exact x_numberAt E.1 V.1 ha h
theorem c_appendE {G : rc_G} {x : Nat} {I : rc_M} {a : Int} {post : Int → rc_M → Prop} (ha : rc_R a) (hz : ¬ (0 ≤ a ∧ a ≤ 127)) (h : post (-100002) I) : wX7_append G x a I post := by
  unfold wX7_append
  refine x_within ha (by unfold rc_R; omega) (by unfold rc_R; omega) ?_
  rw [if_neg hz]
  exact ⟨rc_R0, fun q => absurd rfl q, fun _ => h⟩
theorem c_append {G : rc_G} {x : Nat} {I : rc_M} {a n : Int} {post : Int → rc_M → Prop} (ha : 0 ≤ a ∧ a ≤ 127) (hn : I (x + 84) 2 = n) (n0 : 0 ≤ n ∧ n < 60)
    (h : ∀ J : rc_M, (∀ b : Nat, b ≠ x + 84 → b ≠ x + 86 → J b = I b) → J (x + 84) 2 = n + 1 → (∀ j : Int, J (x + 86) j = if j = n then a else I (x + 86) j) → post (n + 1) J) : wX7_append G x a I post := by
  unfold wX7_append
  refine x_within (by unfold rc_R; omega) (by unfold rc_R; omega) (by unfold rc_R; omega) ?_
  rw [if_pos ha]
  refine ⟨by unfold rc_R; omega, fun _ => ?_, fun q => absurd q (by decide)⟩
  unfold wX1_add
  rw [hn]
  refine ⟨by unfold rc_R; omega, fun d => ⟨by omega, fun I4 e4 I5 e5 => ?_⟩, fun d => absurd n0.2 d⟩
  have f4 : I4 (x + 84) 2 = n := by rw [e4, qs_n _ _ _ (by omega)]; exact hn
  rw [f4] at e5
  have a5 : I5 (x + 84) 2 = n + 1 := by rw [e5, qs_s, rc_u_s]
  have o5 : ∀ b : Nat, b ≠ x + 84 → b ≠ x + 84 + 2 → I5 b = I b := fun b h1 h2 => by rw [e5, qs_n _ _ _ h1, e4, qs_n _ _ _ h2]
  have r5 : ∀ j : Int, I5 (x + 86) j = if j = n then a else I (x + 86) j := fun j => by rw [e5, qs_n _ _ _ (by omega), e4]; exact (by rw [qs_s, rc_ue] : rc_s I (x + 84 + 2) n a (x + 84 + 2) j = _)
  rw [a5]
  exact h I5 (fun b h1 h2 => o5 b h1 (by omega)) a5 r5
