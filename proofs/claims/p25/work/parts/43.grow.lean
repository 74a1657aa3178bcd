/-! ===== worlds that grow ===== -/
def rs_adr (z n : Nat) : List Nat := (List.range n).map (fun k => z + k)
def rs_none : (Int → Int) → va_E := fun _ => .inl (0, 0, .inl (fun _ => 0))
def rs_ext (G : rc_G) (z : Nat) (shl : List ((Int → Int) → va_E)) : rc_G := (G.1, G.2.1, rc_L G ++ rs_adr z shl.length, fun q => if q < z then rc_h G q else shl.getD (q - z) rs_none)
def rs_ini (I : rc_M) (z : Nat) (g : Nat → Int → Int) : rc_M := fun q => if q < z then I q else g (q - z)
def rs_eqv (e e' : va_E) : Prop := ∀ (D : va_G) (a : Nat) (H : Heap), va_at D vwCl (a, e) H → va_at D vwCl (a, e') H
theorem rs_rfl (e : va_E) : rs_eqv e e := fun _ _ _ h => h
theorem rs_adr_at {z n k : Nat} (h : k < n) : (rs_adr z n)[k]? = some (z + k) := by
  simp [rs_adr, h]
theorem rs_adr_mem {z n q : Nat} : q ∈ rs_adr z n ↔ z ≤ q ∧ q < z + n := by
  simp only [rs_adr, List.mem_map, List.mem_range]
  constructor
  · rintro ⟨k, h1, h2⟩; omega
  · intro h; exact ⟨q - z, by omega, by omega⟩
theorem rs_adr_nd (z n : Nat) : (rs_adr z n).Nodup := by
  unfold rs_adr
  refine List.Pairwise.map _ (R := (· ≠ ·)) ?_ List.nodup_range
  intro a b h q
  omega
theorem rs_isk {G : rc_G} {z : Nat} {shl : List ((Int → Int) → va_E)} (k : Nat) {s : (Int → Int) → va_E} (h : shl[k]? = some s) : rc_is (rs_ext G z shl) (z + k) s := by
  have hk := (List.getElem?_eq_some_iff.mp h).1
  refine ⟨List.mem_append_right _ (rs_adr_mem.mpr ⟨by omega, by omega⟩), fun d => ?_⟩
  show (if z + k < z then rc_h G (z + k) else shl.getD (z + k - z) rs_none) d = s d
  rw [if_neg (by omega), Nat.add_sub_cancel_left, List.getD_eq_getElem?_getD, h]
  rfl
theorem rs_nd {G : rc_G} {z : Nat} {shl : List ((Int → Int) → va_E)} (hn : (rc_L G).Nodup) (hf : ∀ b, b ∈ rc_L G → b < z) : (rc_L (rs_ext G z shl)).Nodup := by
  show (rc_L G ++ rs_adr z shl.length).Nodup
  refine List.nodup_append.mpr ⟨hn, rs_adr_nd _ _, fun a ha b hb q => ?_⟩
  have h1 := hf a ha
  have h2 := rs_adr_mem.mp hb
  omega
/-- one world in another -/
def rs_le (G G1 : rc_G) : Prop := G1.1 = G.1 ∧ G1.2.1 = G.2.1 ∧ ∀ b s, rc_is G b s → rc_is G1 b s
theorem rs_le.rf (G : rc_G) : rs_le G G := ⟨rfl, rfl, fun _ _ h => h⟩
theorem rs_le.tr {G G1 G2 : rc_G} (h : rs_le G G1) (h2 : rs_le G1 G2) : rs_le G G2 := ⟨h2.1.trans h.1, h2.2.1.trans h.2.1, fun b s q => h2.2.2 b s (h.2.2 b s q)⟩
theorem rs_ext_le {G : rc_G} {z : Nat} {shl : List ((Int → Int) → va_E)} (hf : ∀ b, b ∈ rc_L G → b < z) : rs_le G (rs_ext G z shl) := by
  refine ⟨rfl, rfl, fun b s h => ⟨List.mem_append_left _ h.1, fun d => ?_⟩⟩
  show (if b < z then rc_h G b else shl.getD (b - z) rs_none) d = s d
  rw [if_pos (hf b h.1)]
  exact h.2 d
theorem rs_sI {G G1 : rc_G} (h : rs_le G G1) (n : Nat) : rc_sI G1 n = rc_sI G n := by
  unfold rc_sI rc_cI; rw [h.2.1]
theorem rs_sZ {G G1 : rc_G} (h : rs_le G G1) (n : Nat) : rc_sZ G1 n = rc_sZ G n := by
  unfold rc_sZ rc_cZ; rw [h.2.1]
theorem rs_sE {G G1 : rc_G} (h : rs_le G G1) (n : Nat) : rc_sE G1 n = rc_sE G n := by
  unfold rc_sE rc_cE; rw [h.2.1]
theorem rs_sM {G G1 : rc_G} (h : rs_le G G1) : rc_sM G1 = rc_sM G := by
  unfold rc_sM rc_cM; rw [h.2.1]
theorem rs_iI {G G1 : rc_G} (h : rs_le G G1) {a n : Nat} (q : rc_is G a (rc_sI G n)) : rc_is G1 a (rc_sI G1 n) := by rw [rs_sI h]; exact h.2.2 _ _ q
theorem rs_iZ {G G1 : rc_G} (h : rs_le G G1) {a n : Nat} (q : rc_is G a (rc_sZ G n)) : rc_is G1 a (rc_sZ G1 n) := by rw [rs_sZ h]; exact h.2.2 _ _ q
theorem rs_iE {G G1 : rc_G} (h : rs_le G G1) {a n : Nat} (q : rc_is G a (rc_sE G n)) : rc_is G1 a (rc_sE G1 n) := by rw [rs_sE h]; exact h.2.2 _ _ q
theorem rs_iM {G G1 : rc_G} (h : rs_le G G1) {a : Nat} (q : rc_is G a (rc_sM G)) : rc_is G1 a (rc_sM G1) := by rw [rs_sM h]; exact h.2.2 _ _ q
theorem kX0_le {G G1 : rc_G} (h : rs_le G G1) {a : Nat} (q : kX0 G a) : kX0 G1 a := ⟨h.2.2 _ _ q.1, rs_iI h (q.2.1), rs_iI h (q.2.2)⟩
theorem kX1_le {G G1 : rc_G} (h : rs_le G G1) {a : Nat} (q : kX1 G a) : kX1 G1 a := ⟨h.2.2 _ _ q.1, rs_iI h (q.2.1), rs_iI h (q.2.2.1), rs_iI h (q.2.2.2)⟩
theorem kX2_le {G G1 : rc_G} (h : rs_le G G1) {a : Nat} (q : kX2 G a) : kX2 G1 a := ⟨h.2.2 _ _ q.1, trivial⟩
theorem kX3_le {G G1 : rc_G} (h : rs_le G G1) {a : Nat} (q : kX3 G a) : kX3 G1 a := ⟨h.2.2 _ _ q.1, rs_iI h (q.2.1), rs_iI h (q.2.2)⟩
theorem kX5_le {G G1 : rc_G} (h : rs_le G G1) {a : Nat} (q : kX5 G a) : kX5 G1 a := ⟨h.2.2 _ _ q.1, kX0_le h (q.2.1), kX2_le h (q.2.2.1), kX2_le h (q.2.2.2)⟩
theorem kX6_le {G G1 : rc_G} (h : rs_le G G1) {a : Nat} (q : kX6 G a) : kX6 G1 a := ⟨h.2.2 _ _ q.1, rs_iE h (q.2.1), rs_iI h (q.2.2.1), rs_iI h (q.2.2.2.1), fun i hi => kX3_le h (q.2.2.2.2 i hi)⟩
theorem kX4_le {G G1 : rc_G} (h : rs_le G G1) {a : Nat} (q : kX4 G a) : kX4 G1 a := ⟨h.2.2 _ _ q.1, kX6_le h (q.2.1), kX5_le h (q.2.2)⟩
theorem kX7_le {G G1 : rc_G} (h : rs_le G G1) {a : Nat} (q : kX7 G a) : kX7 G1 a := ⟨h.2.2 _ _ q.1, kX4_le h (q.2.1), kX4_le h (q.2.2.1), rs_iM h (q.2.2.2.1), kX1_le h (q.2.2.2.2)⟩
theorem rs_conv {G : rc_G} {I : rc_M} {H : Heap} {z : Nat} {es : List va_E} {shl : List ((Int → Int) → va_E)} {g : Nat → Int → Int} (hP : rc_P G I H) (hf : ∀ b, b ∈ rc_L G → b < z) (hQ : va_P (rc_D G) vwCl (rk_ce z es) H) (hlen : es.length = shl.length)
    (he : ∀ (k : Nat) (e : va_E) (s : (Int → Int) → va_E), es[k]? = some e → shl[k]? = some s → rs_eqv e (s (g k))) : rc_P (rs_ext G z shl) (rs_ini I z g) H := by
  intro k q hk
  have hk2 : ((rc_L G ++ rs_adr z shl.length).map (fun a => (a, rc_f (rs_ext G z shl) (rs_ini I z g) a)))[k]? = some q := hk
  rw [List.getElem?_map] at hk2
  by_cases hl : k < (rc_L G).length
  · rw [List.getElem?_append_left hl] at hk2
    cases hb : (rc_L G)[k]? with
    | none => rw [hb] at hk2; cases hk2
    | some b =>
      rw [hb] at hk2
      cases hk2
      have hbz := hf b (List.mem_of_getElem? hb)
      have h0 := hP k (b, rc_f G I b) (by show ((rc_L G).map _)[k]? = _; rw [List.getElem?_map, hb]; rfl)
      have e1 : rc_f (rs_ext G z shl) (rs_ini I z g) b = rc_f G I b := by
        show (if b < z then rc_h G b else shl.getD (b - z) rs_none) (if b < z then I b else g (b - z)) = rc_h G b (I b)
        rw [if_pos hbz, if_pos hbz]
      show va_at _ _ (b, rc_f (rs_ext G z shl) (rs_ini I z g) b) H
      rw [e1]
      exact h0
  · rw [List.getElem?_append_right (by omega)] at hk2
    generalize hj : k - (rc_L G).length = j at hk2
    by_cases hjn : j < shl.length
    · rw [rs_adr_at hjn] at hk2
      cases hk2
      obtain ⟨s, hs⟩ : ∃ s, shl[j]? = some s := ⟨_, List.getElem?_eq_getElem hjn⟩
      obtain ⟨e, hee⟩ : ∃ e, es[j]? = some e := ⟨_, List.getElem?_eq_getElem (by omega)⟩
      have h0 := hQ j (z + j, e) (by rw [rk_ce_at, hee]; rfl)
      have e1 : rc_f (rs_ext G z shl) (rs_ini I z g) (z + j) = s (g j) := by
        show (if z + j < z then rc_h G (z + j) else shl.getD (z + j - z) rs_none) (if z + j < z then I (z + j) else g (z + j - z)) = _
        rw [if_neg (by omega), if_neg (by omega), Nat.add_sub_cancel_left, List.getD_eq_getElem?_getD, hs]
        rfl
      show va_at _ _ (z + j, rc_f (rs_ext G z shl) (rs_ini I z g) (z + j)) H
      rw [e1]
      exact he j e s hee hs _ _ _ h0
    · rw [List.getElem?_eq_none (by simp [rs_adr]; omega)] at hk2
      cases hk2
theorem rs_arr {c : ClassId} {n : Nat} {f f' : Nat → Value} (h : ∀ j, j < n → f j = f' j) : arrV c n f = arrV c n f' := by
  have e : (fun j : Fin n => f j.val) = (fun j : Fin n => f' j.val) := funext (fun j => h j.val j.isLt)
  unfold arrV
  rw [e]
theorem rs_eqQ {c : ClassId} {n : Nat} {f f' : Nat → Option Nat} (h : ∀ j, j < n → f j = f' j) : rs_eqv (.inl (c, n, .inr (.inr (.inr (.inr f))))) (.inl (c, n, .inr (.inr (.inr (.inr f'))))) := by
  intro D a H q
  have q1 : H[a]? = some (arrV c n (fun j => va_rf (f j))) := q
  show H[a]? = some (arrV c n (fun j => va_rf (f' j)))
  rw [q1, rs_arr (fun j hj => congrArg va_rf (h j hj))]
theorem rs_eqI {c : ClassId} {n : Nat} {f f' : Nat → Int32} (h : ∀ j, j < n → f j = f' j) : rs_eqv (.inl (c, n, .inl f)) (.inl (c, n, .inl f')) := by
  intro D a H q
  have q1 : H[a]? = some (arrV c n (fun j => .int (f j))) := q
  show H[a]? = some (arrV c n (fun j => .int (f' j)))
  rw [q1, rs_arr (fun j hj => congrArg Value.int (h j hj))]
theorem rs_cons {e : va_E} {s : (Int → Int) → va_E} {g : Nat → Int → Int} {es : List va_E} {shl : List ((Int → Int) → va_E)} (h0 : rs_eqv e (s (g 0))) (h : ∀ (k : Nat) (e : va_E) (s : (Int → Int) → va_E), es[k]? = some e → shl[k]? = some s → rs_eqv e (s (g (k + 1)))) : ∀ (k : Nat) (e2 : va_E) (s2 : (Int → Int) → va_E), (e :: es)[k]? = some e2 → (s :: shl)[k]? = some s2 → rs_eqv e2 (s2 (g k))
  | 0, _, _, h1, h2 => by cases h1; cases h2; exact h0
  | k + 1, _, _, h1, h2 => h k _ _ h1 h2
theorem rs_nil {g : Nat → Int → Int} {shl : List ((Int → Int) → va_E)} : ∀ (k : Nat) (e : va_E) (s : (Int → Int) → va_E), ([] : List va_E)[k]? = some e → shl[k]? = some s → rs_eqv e (s (g k)) := fun k e s h => by simp at h
def rs_shR (G : rc_G) (z : Nat) : List ((Int → Int) → va_E) := [shX4 z, shX6 (z + 1), rc_sE G (z + 2), rc_sI G 8, rc_sI G 12, shX3 (z + 5), rc_sI G 6, rc_sI G 6, shX3 (z + 8), rc_sI G 6, rc_sI G 6, shX3 (z + 11), rc_sI G 6, rc_sI G 6, shX3 (z + 14), rc_sI G 6, rc_sI G 6, shX3 (z + 17), rc_sI G 6, rc_sI G 6, shX3 (z + 20), rc_sI G 6, rc_sI G 6, shX3 (z + 23), rc_sI G 6, rc_sI G 6, shX3 (z + 26), rc_sI G 6, rc_sI G 6, shX3 (z + 29), rc_sI G 6, rc_sI G 6, shX3 (z + 32), rc_sI G 6, rc_sI G 6, shX5 (z + 35), shX0 (z + 36), rc_sI G 8, rc_sI G 8, shX2 (z + 39), shX2 (z + 40)]
def rs_shA (G : rc_G) (z : Nat) : List ((Int → Int) → va_E) := [shX7 z, shX4 (z + 1), shX6 (z + 2), rc_sE G (z + 3), rc_sI G 8, rc_sI G 12, shX3 (z + 6), rc_sI G 6, rc_sI G 6, shX3 (z + 9), rc_sI G 6, rc_sI G 6, shX3 (z + 12), rc_sI G 6, rc_sI G 6, shX3 (z + 15), rc_sI G 6, rc_sI G 6, shX3 (z + 18), rc_sI G 6, rc_sI G 6, shX3 (z + 21), rc_sI G 6, rc_sI G 6, shX3 (z + 24), rc_sI G 6, rc_sI G 6, shX3 (z + 27), rc_sI G 6, rc_sI G 6, shX3 (z + 30), rc_sI G 6, rc_sI G 6, shX3 (z + 33), rc_sI G 6, rc_sI G 6, shX5 (z + 36), shX0 (z + 37), rc_sI G 8, rc_sI G 8, shX2 (z + 40), shX2 (z + 41), shX4 (z + 42), shX6 (z + 43), rc_sE G (z + 44), rc_sI G 8, rc_sI G 12, shX3 (z + 47), rc_sI G 6, rc_sI G 6, shX3 (z + 50), rc_sI G 6, rc_sI G 6, shX3 (z + 53), rc_sI G 6, rc_sI G 6, shX3 (z + 56), rc_sI G 6, rc_sI G 6, shX3 (z + 59), rc_sI G 6, rc_sI G 6, shX3 (z + 62), rc_sI G 6, rc_sI G 6, shX3 (z + 65), rc_sI G 6, rc_sI G 6, shX3 (z + 68), rc_sI G 6, rc_sI G 6, shX3 (z + 71), rc_sI G 6, rc_sI G 6, shX3 (z + 74), rc_sI G 6, rc_sI G 6, shX5 (z + 77), shX0 (z + 78), rc_sI G 8, rc_sI G 8, shX2 (z + 81), shX2 (z + 82), rc_sM G, shX1 (z + 84), rc_sI G 12, rc_sI G 60, rc_sI G 3, rc_sI G 56, rc_sI G 8]
def rs_gR (k : Nat) : Int → Int := if k = 3 then rc_fi else fun _ => 0
set_option maxRecDepth 100000 in
set_option maxHeartbeats 4000000 in
theorem rs_okR (G : rc_G) (z : Nat) : ∀ (k : Nat) (e : va_E) (s : (Int → Int) → va_E), (eX4_init G z)[k]? = some e → (rs_shR G z)[k]? = some s → rs_eqv e (s (rs_gR k)) :=
  rs_cons (rs_rfl _) (rs_cons (rs_rfl _) (rs_cons (rs_eqQ (fun j hj => by rcases (show j = 0 ∨ j = 1 ∨ j = 2 ∨ j = 3 ∨ j = 4 ∨ j = 5 ∨ j = 6 ∨ j = 7 ∨ j = 8 ∨ j = 9 by omega) with rfl | rfl | rfl | rfl | rfl | rfl | rfl | rfl | rfl | rfl <;> rfl)) (rs_cons (rs_eqI (fun j hj => by rcases (show j = 0 ∨ j = 1 ∨ j = 2 ∨ j = 3 ∨ j = 4 ∨ j = 5 ∨ j = 6 ∨ j = 7 by omega) with rfl | rfl | rfl | rfl | rfl | rfl | rfl | rfl <;> rfl)) (rs_cons (rs_rfl _) (rs_cons (rs_rfl _) (rs_cons (rs_rfl _) (rs_cons (rs_rfl _) (rs_cons (rs_rfl _) (rs_cons (rs_rfl _) (rs_cons (rs_rfl _) (rs_cons (rs_rfl _) (rs_cons (rs_rfl _) (rs_cons (rs_rfl _) (rs_cons (rs_rfl _) (rs_cons (rs_rfl _) (rs_cons (rs_rfl _) (rs_cons (rs_rfl _) (rs_cons (rs_rfl _) (rs_cons (rs_rfl _) (rs_cons (rs_rfl _) (rs_cons (rs_rfl _) (rs_cons (rs_rfl _) (rs_cons (rs_rfl _) (rs_cons (rs_rfl _) (rs_cons (rs_rfl _) (rs_cons (rs_rfl _) (rs_cons (rs_rfl _) (rs_cons (rs_rfl _) (rs_cons (rs_rfl _) (rs_cons (rs_rfl _) (rs_cons (rs_rfl _) (rs_cons (rs_rfl _) (rs_cons (rs_rfl _) (rs_cons (rs_rfl _) (rs_cons (rs_rfl _) (rs_cons (rs_rfl _) (rs_cons (rs_rfl _) (rs_cons (rs_rfl _) (rs_cons (rs_rfl _) (rs_cons (rs_rfl _) (rs_nil)))))))))))))))))))))))))))))))))))))))))
set_option maxRecDepth 100000 in
set_option maxHeartbeats 4000000 in
theorem rs_kR (G : rc_G) (z : Nat) : kX4 (rs_ext G z (rs_shR G z)) z := ⟨(rs_isk 0 rfl), ⟨(rs_isk 1 rfl), (rs_isk 2 rfl), (rs_isk 3 rfl), (rs_isk 4 rfl), (fun i hi => by rcases (show i = 0 ∨ i = 1 ∨ i = 2 ∨ i = 3 ∨ i = 4 ∨ i = 5 ∨ i = 6 ∨ i = 7 ∨ i = 8 ∨ i = 9 by omega) with rfl | rfl | rfl | rfl | rfl | rfl | rfl | rfl | rfl | rfl; (· exact ⟨(rs_isk 5 rfl), (rs_isk 6 rfl), (rs_isk 7 rfl)⟩); (· exact ⟨(rs_isk 8 rfl), (rs_isk 9 rfl), (rs_isk 10 rfl)⟩); (· exact ⟨(rs_isk 11 rfl), (rs_isk 12 rfl), (rs_isk 13 rfl)⟩); (· exact ⟨(rs_isk 14 rfl), (rs_isk 15 rfl), (rs_isk 16 rfl)⟩); (· exact ⟨(rs_isk 17 rfl), (rs_isk 18 rfl), (rs_isk 19 rfl)⟩); (· exact ⟨(rs_isk 20 rfl), (rs_isk 21 rfl), (rs_isk 22 rfl)⟩); (· exact ⟨(rs_isk 23 rfl), (rs_isk 24 rfl), (rs_isk 25 rfl)⟩); (· exact ⟨(rs_isk 26 rfl), (rs_isk 27 rfl), (rs_isk 28 rfl)⟩); (· exact ⟨(rs_isk 29 rfl), (rs_isk 30 rfl), (rs_isk 31 rfl)⟩); (· exact ⟨(rs_isk 32 rfl), (rs_isk 33 rfl), (rs_isk 34 rfl)⟩))⟩, ⟨(rs_isk 35 rfl), ⟨(rs_isk 36 rfl), (rs_isk 37 rfl), (rs_isk 38 rfl)⟩, ⟨(rs_isk 39 rfl), trivial⟩, ⟨(rs_isk 40 rfl), trivial⟩⟩⟩
