/-! ===== the law's start: the class's object and the law's own arrays made ===== -/
set_option maxRecDepth 100000 in
set_option maxHeartbeats 4000000 in
theorem rs_okA (G : rc_G) (z : Nat) : ∀ (k : Nat) (e : va_E) (s : (Int → Int) → va_E), ((eX7_init G z ++ [.inl (rc_cI G, 56, .inl (fun _ => 0))]) ++ [.inl (rc_cI G, 8, .inl (fun _ => 0))])[k]? = some e → (rs_shA G z)[k]? = some s → rs_eqv e (s (rs_gA k)) :=
  rs_cons (rs_rfl _) (rs_cons (rs_rfl _) (rs_cons (rs_rfl _) (rs_cons (rs_eqQ (fun j hj => by rcases (show j = 0 ∨ j = 1 ∨ j = 2 ∨ j = 3 ∨ j = 4 ∨ j = 5 ∨ j = 6 ∨ j = 7 ∨ j = 8 ∨ j = 9 by omega) with rfl | rfl | rfl | rfl | rfl | rfl | rfl | rfl | rfl | rfl <;> rfl)) (rs_cons (rs_eqI (fun j hj => by rcases (show j = 0 ∨ j = 1 ∨ j = 2 ∨ j = 3 ∨ j = 4 ∨ j = 5 ∨ j = 6 ∨ j = 7 by omega) with rfl | rfl | rfl | rfl | rfl | rfl | rfl | rfl <;> rfl)) (rs_cons (rs_rfl _) (rs_cons (rs_rfl _) (rs_cons (rs_rfl _) (rs_cons (rs_rfl _) (rs_cons (rs_rfl _) (rs_cons (rs_rfl _) (rs_cons (rs_rfl _) (rs_cons (rs_rfl _) (rs_cons (rs_rfl _) (rs_cons (rs_rfl _) (rs_cons (rs_rfl _) (rs_cons (rs_rfl _) (rs_cons (rs_rfl _) (rs_cons (rs_rfl _) (rs_cons (rs_rfl _) (rs_cons (rs_rfl _) (rs_cons (rs_rfl _) (rs_cons (rs_rfl _) (rs_cons (rs_rfl _) (rs_cons (rs_rfl _) (rs_cons (rs_rfl _) (rs_cons (rs_rfl _) (rs_cons (rs_rfl _) (rs_cons (rs_rfl _) (rs_cons (rs_rfl _) (rs_cons (rs_rfl _) (rs_cons (rs_rfl _) (rs_cons (rs_rfl _) (rs_cons (rs_rfl _) (rs_cons (rs_rfl _) (rs_cons (rs_rfl _) (rs_cons (rs_rfl _) (rs_cons (rs_rfl _) (rs_cons (rs_rfl _) (rs_cons (rs_rfl _) (rs_cons (rs_rfl _) (rs_cons (rs_rfl _) (rs_cons (rs_rfl _) (rs_cons (rs_rfl _) (rs_cons (rs_eqQ (fun j hj => by rcases (show j = 0 ∨ j = 1 ∨ j = 2 ∨ j = 3 ∨ j = 4 ∨ j = 5 ∨ j = 6 ∨ j = 7 ∨ j = 8 ∨ j = 9 by omega) with rfl | rfl | rfl | rfl | rfl | rfl | rfl | rfl | rfl | rfl <;> rfl)) (rs_cons (rs_eqI (fun j hj => by rcases (show j = 0 ∨ j = 1 ∨ j = 2 ∨ j = 3 ∨ j = 4 ∨ j = 5 ∨ j = 6 ∨ j = 7 by omega) with rfl | rfl | rfl | rfl | rfl | rfl | rfl | rfl <;> rfl)) (rs_cons (rs_rfl _) (rs_cons (rs_rfl _) (rs_cons (rs_rfl _) (rs_cons (rs_rfl _) (rs_cons (rs_rfl _) (rs_cons (rs_rfl _) (rs_cons (rs_rfl _) (rs_cons (rs_rfl _) (rs_cons (rs_rfl _) (rs_cons (rs_rfl _) (rs_cons (rs_rfl _) (rs_cons (rs_rfl _) (rs_cons (rs_rfl _) (rs_cons (rs_rfl _) (rs_cons (rs_rfl _) (rs_cons (rs_rfl _) (rs_cons (rs_rfl _) (rs_cons (rs_rfl _) (rs_cons (rs_rfl _) (rs_cons (rs_rfl _) (rs_cons (rs_rfl _) (rs_cons (rs_rfl _) (rs_cons (rs_rfl _) (rs_cons (rs_rfl _) (rs_cons (rs_rfl _) (rs_cons (rs_rfl _) (rs_cons (rs_rfl _) (rs_cons (rs_rfl _) (rs_cons (rs_rfl _) (rs_cons (rs_rfl _) (rs_cons (rs_rfl _) (rs_cons (rs_rfl _) (rs_cons (rs_rfl _) (rs_cons (rs_rfl _) (rs_cons (rs_rfl _) (rs_cons (rs_rfl _) (rs_cons (rs_rfl _) (rs_cons (rs_rfl _) (rs_cons (rs_rfl _) (rs_cons (rs_rfl _) (rs_cons (rs_rfl _) (rs_cons (rs_rfl _) (rs_cons (rs_rfl _) (rs_cons (rs_rfl _) (rs_nil))))))))))))))))))))))))))))))))))))))))))))))))))))))))))))))))))))))))))))))))))))))))))
set_option maxRecDepth 100000 in
set_option maxHeartbeats 4000000 in
theorem rs_kA7 (G : rc_G) (z : Nat) : kX7 (rs_ext G z (rs_shA G z)) z := ⟨(rs_isk 0 rfl), ⟨(rs_isk 1 rfl), ⟨(rs_isk 2 rfl), (rs_isk 3 rfl), (rs_isk 4 rfl), (rs_isk 5 rfl), (fun i hi => by rcases (show i = 0 ∨ i = 1 ∨ i = 2 ∨ i = 3 ∨ i = 4 ∨ i = 5 ∨ i = 6 ∨ i = 7 ∨ i = 8 ∨ i = 9 by omega) with rfl | rfl | rfl | rfl | rfl | rfl | rfl | rfl | rfl | rfl; (· exact ⟨(rs_isk 6 rfl), (rs_isk 7 rfl), (rs_isk 8 rfl)⟩); (· exact ⟨(rs_isk 9 rfl), (rs_isk 10 rfl), (rs_isk 11 rfl)⟩); (· exact ⟨(rs_isk 12 rfl), (rs_isk 13 rfl), (rs_isk 14 rfl)⟩); (· exact ⟨(rs_isk 15 rfl), (rs_isk 16 rfl), (rs_isk 17 rfl)⟩); (· exact ⟨(rs_isk 18 rfl), (rs_isk 19 rfl), (rs_isk 20 rfl)⟩); (· exact ⟨(rs_isk 21 rfl), (rs_isk 22 rfl), (rs_isk 23 rfl)⟩); (· exact ⟨(rs_isk 24 rfl), (rs_isk 25 rfl), (rs_isk 26 rfl)⟩); (· exact ⟨(rs_isk 27 rfl), (rs_isk 28 rfl), (rs_isk 29 rfl)⟩); (· exact ⟨(rs_isk 30 rfl), (rs_isk 31 rfl), (rs_isk 32 rfl)⟩); (· exact ⟨(rs_isk 33 rfl), (rs_isk 34 rfl), (rs_isk 35 rfl)⟩))⟩, ⟨(rs_isk 36 rfl), ⟨(rs_isk 37 rfl), (rs_isk 38 rfl), (rs_isk 39 rfl)⟩, ⟨(rs_isk 40 rfl), trivial⟩, ⟨(rs_isk 41 rfl), trivial⟩⟩⟩, ⟨(rs_isk 42 rfl), ⟨(rs_isk 43 rfl), (rs_isk 44 rfl), (rs_isk 45 rfl), (rs_isk 46 rfl), (fun i hi => by rcases (show i = 0 ∨ i = 1 ∨ i = 2 ∨ i = 3 ∨ i = 4 ∨ i = 5 ∨ i = 6 ∨ i = 7 ∨ i = 8 ∨ i = 9 by omega) with rfl | rfl | rfl | rfl | rfl | rfl | rfl | rfl | rfl | rfl; (· exact ⟨(rs_isk 47 rfl), (rs_isk 48 rfl), (rs_isk 49 rfl)⟩); (· exact ⟨(rs_isk 50 rfl), (rs_isk 51 rfl), (rs_isk 52 rfl)⟩); (· exact ⟨(rs_isk 53 rfl), (rs_isk 54 rfl), (rs_isk 55 rfl)⟩); (· exact ⟨(rs_isk 56 rfl), (rs_isk 57 rfl), (rs_isk 58 rfl)⟩); (· exact ⟨(rs_isk 59 rfl), (rs_isk 60 rfl), (rs_isk 61 rfl)⟩); (· exact ⟨(rs_isk 62 rfl), (rs_isk 63 rfl), (rs_isk 64 rfl)⟩); (· exact ⟨(rs_isk 65 rfl), (rs_isk 66 rfl), (rs_isk 67 rfl)⟩); (· exact ⟨(rs_isk 68 rfl), (rs_isk 69 rfl), (rs_isk 70 rfl)⟩); (· exact ⟨(rs_isk 71 rfl), (rs_isk 72 rfl), (rs_isk 73 rfl)⟩); (· exact ⟨(rs_isk 74 rfl), (rs_isk 75 rfl), (rs_isk 76 rfl)⟩))⟩, ⟨(rs_isk 77 rfl), ⟨(rs_isk 78 rfl), (rs_isk 79 rfl), (rs_isk 80 rfl)⟩, ⟨(rs_isk 81 rfl), trivial⟩, ⟨(rs_isk 82 rfl), trivial⟩⟩⟩, (rs_isk 83 rfl), ⟨(rs_isk 84 rfl), (rs_isk 85 rfl), (rs_isk 86 rfl), (rs_isk 87 rfl)⟩⟩
theorem rl_lo {s : State} {args : Array Value} {A : Nat → Prop} (hs : ∀ c ∈ flatC (Jvm.Cond.and given_1 narrow_1), c.before args s = true) (hts : ∀ w ∈ tables_1, w.before args s = true) (hA : ∀ a : Nat, a < s.heap.size → ¬ A a) : rc_S1 "LEAST_VALUES" rc_lo A s s.heap := by
  obtain ⟨t, ht, hT⟩ := va_Tof (tm := (Term.static "ReelChanger$Stock" "LEAST_VALUES" "[I")) (ty := .int) (N := 8) (f := fun j : Nat => .int (rc_o (rc_lo j))) (A := A) (by decide) (hs (Cond.arrayOf (Term.static "ReelChanger$Stock" "LEAST_VALUES" "[I") .int) (by decide +kernel)) (va_eqt (hs (Cond.eq (.length (Term.static "ReelChanger$Stock" "LEAST_VALUES" "[I")) (.int 8)) (by decide +kernel))) (fun j hj => by
    rcases (show j = 0 ∨ j = 1 ∨ j = 2 ∨ j = 3 ∨ j = 4 ∨ j = 5 ∨ j = 6 ∨ j = 7 by omega) with rfl | rfl | rfl | rfl | rfl | rfl | rfl | rfl
    · exact (va_eqt (hs (Cond.eq (.elem (Term.static "ReelChanger$Stock" "LEAST_VALUES" "[I") (.int 0)) (.int 1)) (by decide +kernel))).trans (congrArg (fun q : Int32 => some (Value.int q)) (by decide +kernel : (1 : Int32) = rc_o (rc_lo ((0 : Nat) : Int))))
    · exact (va_eqt (hs (Cond.eq (.elem (Term.static "ReelChanger$Stock" "LEAST_VALUES" "[I") (.int 1)) (.int 1)) (by decide +kernel))).trans (congrArg (fun q : Int32 => some (Value.int q)) (by decide +kernel : (1 : Int32) = rc_o (rc_lo ((1 : Nat) : Int))))
    · exact (va_eqt (hs (Cond.eq (.elem (Term.static "ReelChanger$Stock" "LEAST_VALUES" "[I") (.int 2)) (.int 0)) (by decide +kernel))).trans (congrArg (fun q : Int32 => some (Value.int q)) (by decide +kernel : (0 : Int32) = rc_o (rc_lo ((2 : Nat) : Int))))
    · exact (va_eqt (hs (Cond.eq (.elem (Term.static "ReelChanger$Stock" "LEAST_VALUES" "[I") (.int 3)) (.int 1)) (by decide +kernel))).trans (congrArg (fun q : Int32 => some (Value.int q)) (by decide +kernel : (1 : Int32) = rc_o (rc_lo ((3 : Nat) : Int))))
    · exact (va_eqt (hs (Cond.eq (.elem (Term.static "ReelChanger$Stock" "LEAST_VALUES" "[I") (.int 4)) (.int 1)) (by decide +kernel))).trans (congrArg (fun q : Int32 => some (Value.int q)) (by decide +kernel : (1 : Int32) = rc_o (rc_lo ((4 : Nat) : Int))))
    · exact (va_eqt (hs (Cond.eq (.elem (Term.static "ReelChanger$Stock" "LEAST_VALUES" "[I") (.int 5)) (.int 1)) (by decide +kernel))).trans (congrArg (fun q : Int32 => some (Value.int q)) (by decide +kernel : (1 : Int32) = rc_o (rc_lo ((5 : Nat) : Int))))
    · exact (va_eqt (hs (Cond.eq (.elem (Term.static "ReelChanger$Stock" "LEAST_VALUES" "[I") (.int 6)) (.int 1)) (by decide +kernel))).trans (congrArg (fun q : Int32 => some (Value.int q)) (by decide +kernel : (1 : Int32) = rc_o (rc_lo ((6 : Nat) : Int))))
    · exact (va_eqt (hs (Cond.eq (.elem (Term.static "ReelChanger$Stock" "LEAST_VALUES" "[I") (.int 7)) (.int 0)) (by decide +kernel))).trans (congrArg (fun q : Int32 => some (Value.int q)) (by decide +kernel : (0 : Int32) = rc_o (rc_lo ((7 : Nat) : Int))))) hA
  exact ⟨t, va_Zref (hts (.laysStatic "ReelChanger$Stock" "LEAST_VALUES" "[I") (by decide +kernel)) (hts (.initialized "ReelChanger$Stock") (by decide +kernel)) ht hA, hT⟩
theorem rl_hi {s : State} {args : Array Value} {A : Nat → Prop} (hs : ∀ c ∈ flatC (Jvm.Cond.and given_1 narrow_1), c.before args s = true) (hts : ∀ w ∈ tables_1, w.before args s = true) (hA : ∀ a : Nat, a < s.heap.size → ¬ A a) : rc_S1 "MOST_VALUES" rc_hi A s s.heap := by
  obtain ⟨t, ht, hT⟩ := va_Tof (tm := (Term.static "ReelChanger$Stock" "MOST_VALUES" "[I")) (ty := .int) (N := 8) (f := fun j : Nat => .int (rc_o (rc_hi j))) (A := A) (by decide) (hs (Cond.arrayOf (Term.static "ReelChanger$Stock" "MOST_VALUES" "[I") .int) (by decide +kernel)) (va_eqt (hs (Cond.eq (.length (Term.static "ReelChanger$Stock" "MOST_VALUES" "[I")) (.int 8)) (by decide +kernel))) (fun j hj => by
    rcases (show j = 0 ∨ j = 1 ∨ j = 2 ∨ j = 3 ∨ j = 4 ∨ j = 5 ∨ j = 6 ∨ j = 7 by omega) with rfl | rfl | rfl | rfl | rfl | rfl | rfl | rfl
    · exact (va_eqt (hs (Cond.eq (.elem (Term.static "ReelChanger$Stock" "MOST_VALUES" "[I") (.int 0)) (.int 90)) (by decide +kernel))).trans (congrArg (fun q : Int32 => some (Value.int q)) (by decide +kernel : (90 : Int32) = rc_o (rc_hi ((0 : Nat) : Int))))
    · exact (va_eqt (hs (Cond.eq (.elem (Term.static "ReelChanger$Stock" "MOST_VALUES" "[I") (.int 1)) (.int 99)) (by decide +kernel))).trans (congrArg (fun q : Int32 => some (Value.int q)) (by decide +kernel : (99 : Int32) = rc_o (rc_hi ((1 : Nat) : Int))))
    · exact (va_eqt (hs (Cond.eq (.elem (Term.static "ReelChanger$Stock" "MOST_VALUES" "[I") (.int 2)) (.int 50)) (by decide +kernel))).trans (congrArg (fun q : Int32 => some (Value.int q)) (by decide +kernel : (50 : Int32) = rc_o (rc_hi ((2 : Nat) : Int))))
    · exact (va_eqt (hs (Cond.eq (.elem (Term.static "ReelChanger$Stock" "MOST_VALUES" "[I") (.int 3)) (.int 200)) (by decide +kernel))).trans (congrArg (fun q : Int32 => some (Value.int q)) (by decide +kernel : (200 : Int32) = rc_o (rc_hi ((3 : Nat) : Int))))
    · exact (va_eqt (hs (Cond.eq (.elem (Term.static "ReelChanger$Stock" "MOST_VALUES" "[I") (.int 4)) (.int 50)) (by decide +kernel))).trans (congrArg (fun q : Int32 => some (Value.int q)) (by decide +kernel : (50 : Int32) = rc_o (rc_hi ((4 : Nat) : Int))))
    · exact (va_eqt (hs (Cond.eq (.elem (Term.static "ReelChanger$Stock" "MOST_VALUES" "[I") (.int 5)) (.int 200)) (by decide +kernel))).trans (congrArg (fun q : Int32 => some (Value.int q)) (by decide +kernel : (200 : Int32) = rc_o (rc_hi ((5 : Nat) : Int))))
    · exact (va_eqt (hs (Cond.eq (.elem (Term.static "ReelChanger$Stock" "MOST_VALUES" "[I") (.int 6)) (.int 500)) (by decide +kernel))).trans (congrArg (fun q : Int32 => some (Value.int q)) (by decide +kernel : (500 : Int32) = rc_o (rc_hi ((6 : Nat) : Int))))
    · exact (va_eqt (hs (Cond.eq (.elem (Term.static "ReelChanger$Stock" "MOST_VALUES" "[I") (.int 7)) (.int 20)) (by decide +kernel))).trans (congrArg (fun q : Int32 => some (Value.int q)) (by decide +kernel : (20 : Int32) = rc_o (rc_hi ((7 : Nat) : Int))))) hA
  exact ⟨t, va_Zref (hts (.laysStatic "ReelChanger$Stock" "MOST_VALUES" "[I") (by decide +kernel)) (hts (.initialized "ReelChanger$Stock") (by decide +kernel)) ht hA, hT⟩
theorem rl_fi {s : State} {args : Array Value} {A : Nat → Prop} (hs : ∀ c ∈ flatC (Jvm.Cond.and given_1 narrow_1), c.before args s = true) (hts : ∀ w ∈ tables_1, w.before args s = true) (hA : ∀ a : Nat, a < s.heap.size → ¬ A a) : rc_S1 "FIRST_VALUES" rc_fi A s s.heap := by
  obtain ⟨t, ht, hT⟩ := va_Tof (tm := (Term.static "ReelChanger$Stock" "FIRST_VALUES" "[I")) (ty := .int) (N := 8) (f := fun j : Nat => .int (rc_o (rc_fi j))) (A := A) (by decide) (hs (Cond.arrayOf (Term.static "ReelChanger$Stock" "FIRST_VALUES" "[I") .int) (by decide +kernel)) (va_eqt (hs (Cond.eq (.length (Term.static "ReelChanger$Stock" "FIRST_VALUES" "[I")) (.int 8)) (by decide +kernel))) (fun j hj => by
    rcases (show j = 0 ∨ j = 1 ∨ j = 2 ∨ j = 3 ∨ j = 4 ∨ j = 5 ∨ j = 6 ∨ j = 7 by omega) with rfl | rfl | rfl | rfl | rfl | rfl | rfl | rfl
    · exact (va_eqt (hs (Cond.eq (.elem (Term.static "ReelChanger$Stock" "FIRST_VALUES" "[I") (.int 0)) (.int 40)) (by decide +kernel))).trans (congrArg (fun q : Int32 => some (Value.int q)) (by decide +kernel : (40 : Int32) = rc_o (rc_fi ((0 : Nat) : Int))))
    · exact (va_eqt (hs (Cond.eq (.elem (Term.static "ReelChanger$Stock" "FIRST_VALUES" "[I") (.int 1)) (.int 60)) (by decide +kernel))).trans (congrArg (fun q : Int32 => some (Value.int q)) (by decide +kernel : (60 : Int32) = rc_o (rc_fi ((1 : Nat) : Int))))
    · exact (va_eqt (hs (Cond.eq (.elem (Term.static "ReelChanger$Stock" "FIRST_VALUES" "[I") (.int 2)) (.int 20)) (by decide +kernel))).trans (congrArg (fun q : Int32 => some (Value.int q)) (by decide +kernel : (20 : Int32) = rc_o (rc_fi ((2 : Nat) : Int))))
    · exact (va_eqt (hs (Cond.eq (.elem (Term.static "ReelChanger$Stock" "FIRST_VALUES" "[I") (.int 3)) (.int 20)) (by decide +kernel))).trans (congrArg (fun q : Int32 => some (Value.int q)) (by decide +kernel : (20 : Int32) = rc_o (rc_fi ((3 : Nat) : Int))))
    · exact (va_eqt (hs (Cond.eq (.elem (Term.static "ReelChanger$Stock" "FIRST_VALUES" "[I") (.int 4)) (.int 10)) (by decide +kernel))).trans (congrArg (fun q : Int32 => some (Value.int q)) (by decide +kernel : (10 : Int32) = rc_o (rc_fi ((4 : Nat) : Int))))
    · exact (va_eqt (hs (Cond.eq (.elem (Term.static "ReelChanger$Stock" "FIRST_VALUES" "[I") (.int 5)) (.int 30)) (by decide +kernel))).trans (congrArg (fun q : Int32 => some (Value.int q)) (by decide +kernel : (30 : Int32) = rc_o (rc_fi ((5 : Nat) : Int))))
    · exact (va_eqt (hs (Cond.eq (.elem (Term.static "ReelChanger$Stock" "FIRST_VALUES" "[I") (.int 6)) (.int 100)) (by decide +kernel))).trans (congrArg (fun q : Int32 => some (Value.int q)) (by decide +kernel : (100 : Int32) = rc_o (rc_fi ((6 : Nat) : Int))))
    · exact (va_eqt (hs (Cond.eq (.elem (Term.static "ReelChanger$Stock" "FIRST_VALUES" "[I") (.int 7)) (.int 4)) (by decide +kernel))).trans (congrArg (fun q : Int32 => some (Value.int q)) (by decide +kernel : (4 : Int32) = rc_o (rc_fi ((7 : Nat) : Int))))) hA
  exact ⟨t, va_Zref (hts (.laysStatic "ReelChanger$Stock" "FIRST_VALUES" "[I") (by decide +kernel)) (hts (.initialized "ReelChanger$Stock") (by decide +kernel)) ht hA, hT⟩
set_option maxRecDepth 100000 in
set_option maxHeartbeats 4000000 in
theorem p25_open {p : Program} {e : Env} {s : State} {m : MethodId} {below : List Frame} {meth : Method} {c : Code} (l : Launch) {b L : Nat} {xs : Nat → Int32} (hL : L ≤ 260) (C0 : lw_At p s m meth c b L xs)
    (hpure : ∀ (G : rc_G) (x : Nat), kX7 G x → rc_is G (x + 89) (rc_sI G 8) → wL_law_18 G 0 xs L x (rs_ini (fun _ _ => 0) x rs_gA)) :
    W p l e room_1 s m #[Value.ref b] below meth c s.heap [] 0 0 (lw_Z below #[Value.ref b] s) (entryFrame m ([Value.ref b] : List Value).toArray 10) := by
  obtain ⟨hx, hb, hr, hml, hown, hts0, hX, hbl, hlocks, hgv⟩ := id C0
  have hts : ∀ w ∈ wsL_law, w.before #[Value.ref b] s = true := fun w h => hts0 w (wsL_law_in w h)
  have htab : ∀ w ∈ tables_1, w.before #[Value.ref b] s = true := fun w h => hts0 w (List.mem_append_right _ h)
  have hs := flat_of_before _ hgv
  obtain ⟨c0, i0, k0⟩ := u_known (C := RX0) (T := TX0) (N := 6) (n := 6) hts (fun w h => inlX0 w h) (hts (.instantiable RX0 6) (List.mem_of_getElem? (i := 56) (by decide +kernel)))
  obtain ⟨c1, i1, k1⟩ := u_known (C := RX1) (T := TX1) (N := 6) (n := 6) hts (fun w h => inlX1 w h) (hts (.instantiable RX1 6) (List.mem_of_getElem? (i := 18) (by decide +kernel)))
  obtain ⟨c2, i2, k2⟩ := u_known (C := RX2) (T := TX2) (N := 3) (n := 3) hts (fun w h => inlX2 w h) (hts (.instantiable RX2 3) (List.mem_of_getElem? (i := 60) (by decide +kernel)))
  obtain ⟨c3, i3, k3⟩ := u_known (C := RX3) (T := TX3) (N := 4) (n := 4) hts (fun w h => inlX3 w h) (hts (.instantiable RX3 4) (List.mem_of_getElem? (i := 40) (by decide +kernel)))
  obtain ⟨c4, i4, k4⟩ := u_known (C := RX4) (T := TX4) (N := 2) (n := 2) hts (fun w h => inlX4 w h) (hts (.instantiable RX4 2) (List.mem_of_getElem? (i := 12) (by decide +kernel)))
  obtain ⟨c5, i5, k5⟩ := u_known (C := RX5) (T := TX5) (N := 12) (n := 12) hts (fun w h => inlX5 w h) (hts (.instantiable RX5 12) (List.mem_of_getElem? (i := 29) (by decide +kernel)))
  obtain ⟨c6, i6, k6⟩ := u_known (C := RX6) (T := TX6) (N := 5) (n := 5) hts (fun w h => inlX6 w h) (hts (.instantiable RX6 5) (List.mem_of_getElem? (i := 25) (by decide +kernel)))
  obtain ⟨c7, i7, k7⟩ := u_known (C := RX7) (T := TX7) (N := 4) (n := 4) hts (fun w h => inlX7 w h) (hts (.instantiable RX7 4) (List.mem_of_getElem? (i := 1) (by decide +kernel)))
  obtain ⟨cI, kI, pI, f1, f2, f3⟩ := Cond.arrayClass_spec (hts (.arrayClass .int) (List.mem_of_getElem? (i := 3) (by decide +kernel)))
  have hE0 := htab (.arrayOver (.object "ReelChanger$Reel")) (by decide +kernel)
  have hM0 := htab (.arrayOver (.object "ReelChanger$Room")) (by decide +kernel)
  obtain ⟨pE, cE, kE, e1, -, e3, e4, e5⟩ := Cond.arrayOver_spec hE0
  obtain ⟨pM, cM, kM, m1, -, m3, m4, m5⟩ := Cond.arrayOver_spec hM0
  generalize hG0 : (((fun k => if k = 0 then c0 else if k = 1 then c1 else if k = 2 then c2 else if k = 3 then c3 else if k = 4 then c4 else if k = 5 then c5 else if k = 6 then c6 else c7, fun k => if k = 0 then i0 else if k = 1 then i1 else if k = 2 then i2 else if k = 3 then i3 else if k = 4 then i4 else if k = 5 then i5 else if k = 6 then i6 else i7), (cI, cI, cE, cM), [], fun _ => rs_none) : rc_G) = G0
  have hK : va_K (rc_D G0) vwCl (rc_ty G0) s := by
    subst hG0
    refine ⟨fun k q hq => ?_, fun k q hk => ?_⟩
    · match k, hq with
      | 0, hq => cases hq; exact k0
      | 1, hq => cases hq; exact k1
      | 2, hq => cases hq; exact k2
      | 3, hq => cases hq; exact k3
      | 4, hq => cases hq; exact k4
      | 5, hq => cases hq; exact k5
      | 6, hq => cases hq; exact k6
      | 7, hq => cases hq; exact k7
      | k + 8, hq => simp at hq
    · match k, hk with
      | 0, hk => cases hk; exact ⟨fun n z => ⟨fun k h => (by cases h), kI, f2, pI, f3⟩, f1⟩
      | 1, hk => cases hk; exact ⟨fun n z => ⟨fun k h => (by cases h), kI, f2, pI, f3⟩, f1⟩
      | 2, hk => cases hk; exact ⟨fun n z => ⟨fun k h => (by cases h), kE, e3, pE, e4⟩, kE, pE, e3, e4, e1, e5⟩
      | 3, hk => cases hk; exact ⟨fun n z => ⟨fun k h => (by cases h), kM, m3, pM, m4⟩, kM, pM, m3, m4, m1, m5⟩
      | k + 4, hk => simp [rc_ty] at hk
  have hO : rk_O s := ⟨va_AO.of hE0, va_AO.of hM0, va_Nw.of rfl (htab (.methodLinkNest "ReelChanger" 25 yX1_init "ReelChanger") (by decide +kernel)), va_Nw.of rfl (htab (.methodLinkNest "ReelChanger" 9 yX4_init "ReelChanger") (by decide +kernel)), va_Nw.of rfl (htab (.methodLinkNest "ReelChanger$Room" 18 yX5_init "ReelChanger") (by decide +kernel)), va_Nw.of rfl (htab (.methodLinkNest "ReelChanger$Show" 11 yX0_init "ReelChanger") (by decide +kernel)), va_Nw.of rfl (htab (.methodLinkNest "ReelChanger$Show" 20 yX2_init "ReelChanger") (by decide +kernel)), va_Nw.of rfl (htab (.methodLinkNest "ReelChanger$Stock" 24 yX3_init "ReelChanger") (by decide +kernel))⟩
  have hnA : ∀ a : Nat, a < s.heap.size → ¬ (fun q => s.heap.size ≤ q) a := fun a h q => by
    have q1 : s.heap.size ≤ a := q
    omega
  have X : rk_X p s m #[Value.ref b] meth c cL_law 10 wsL_law RL G0 s.heap.size := ⟨⟨hx, hb, hml, hown, hts⟩, hK, fun q h => h, rl_fi hs htab hnA, hlocks, Or.inr rfl, hO⟩
  have hl := lv_entry [.ref b] (n := 10) (Nat.le_of_ble_eq_true rfl)
  rw [lg_entry_eq]
  generalize (lg_sl [.ref b] ++ List.replicate (10 - (lg_sl [.ref b]).length) Slot.unset).toArray = ls at hl ⊢
  suffices K : rk_g p l e room_1 s m #[Value.ref b] below meth c 0 0 (lw_Z below #[Value.ref b] s) 10 G0 s.heap.size 0 [(0, .ref b)] [] [] from K s.heap [] ls hl (fun k q h => by simp [rk_ce] at h) rfl va_S.rf
  refine rk_new X ([.inr (7, [.null, .null, .null, .null])]) 0 rfl (fun w h => inlX7 w h) tyX7 tyX7_ok (List.mem_of_getElem? (i := 0) (by decide +kernel)) (List.mem_of_getElem? (i := 1) (by decide +kernel)) (List.mem_of_getElem? (i := 2) (by decide +kernel)) rfl (fun j hj => by rcases (show j = 0 ∨ j = 1 ∨ j = 2 ∨ j = 3 by omega) with rfl | rfl | rfl | rfl <;> rfl) rfl (Nat.le_of_ble_eq_true rfl) (Nat.le_of_ble_eq_true rfl) dL_law_0 ?_
  refine rk_dup X dL_law_3 rfl ?_
  refine rk_call X (es0 := []) (eX7_init G0 s.heap.size) 0 rfl (mX7_init l G0 s.heap.size) ggL_law_X7_init rfl ⟨rfl, rfl⟩ dyX7_init.2 rfl (List.mem_of_getElem? (i := 2) (by decide +kernel)) (List.mem_of_getElem? (i := 5) (by decide +kernel)) (List.mem_of_getElem? (i := 6) (by decide +kernel)) ⟨Nat.le_of_ble_eq_true rfl, Nat.le_of_ble_eq_true rfl⟩ (Nat.le_of_ble_eq_true rfl) rfl rfl dL_law_4 ⟨Nat.le_of_ble_eq_true rfl, Nat.le_of_ble_eq_true rfl⟩ ?_
  refine rk_astore_n X [(1, .ref s.heap.size), (0, .ref b)] dL_law_7 rfl (by decide) rfl ?_
  refine rk_bipush X dL_law_8 (rc_b8 _ ⟨by decide, by decide⟩) ?_
  refine rk_newI X 56 (eX7_init G0 s.heap.size ++ [.inl (rc_cI G0, 56, .inl (fun _ => 0))]) 88 rfl (List.mem_of_getElem? (i := 3) (by decide +kernel)) rfl (by decide) rfl (Nat.le_of_ble_eq_true rfl) (Nat.le_of_ble_eq_true rfl) dL_law_10 ?_
  refine rk_astore_n X [(2, .ref (s.heap.size + 88)), (1, .ref s.heap.size), (0, .ref b)] dL_law_12 rfl (by decide) rfl ?_
  refine rk_bipush X dL_law_13 (rc_b8 _ ⟨by decide, by decide⟩) ?_
  refine rk_newI X 8 ((eX7_init G0 s.heap.size ++ [.inl (rc_cI G0, 56, .inl (fun _ => 0))]) ++ [.inl (rc_cI G0, 8, .inl (fun _ => 0))]) 89 rfl (List.mem_of_getElem? (i := 3) (by decide +kernel)) rfl (by decide) rfl (Nat.le_of_ble_eq_true rfl) (Nat.le_of_ble_eq_true rfl) dL_law_15 ?_
  refine rk_astore_n X [(3, .ref (s.heap.size + 89)), (2, .ref (s.heap.size + 88)), (1, .ref s.heap.size), (0, .ref b)] dL_law_17 rfl (by decide) rfl ?_
  intro H locs ls hl hP hz hS
  have hL0 : rc_L G0 = [] := by rw [← hG0]; rfl
  have hno : ∀ q, q ∈ rc_L G0 → q < s.heap.size := fun q h => by rw [hL0] at h; cases h
  have hP0 : rc_P G0 (fun _ _ => 0) H := fun k q h => by
    have h2 : (va_pl (rc_L G0) (rc_f G0 fun _ _ => 0))[k]? = some q := h
    rw [hL0] at h2
    simp [va_pl] at h2
  have hP1 : rc_P (rs_ext G0 s.heap.size (rs_shA G0 s.heap.size)) (rs_ini (fun _ _ => 0) s.heap.size rs_gA) H := rs_conv hP0 hno hP rfl (rs_okA G0 s.heap.size)
  have hn1 : (rc_L (rs_ext G0 s.heap.size (rs_shA G0 s.heap.size))).Nodup := rs_nd (by rw [hL0]; exact List.nodup_nil) hno
  have hA1 : ∀ q, q ∈ rc_L (rs_ext G0 s.heap.size (rs_shA G0 s.heap.size)) → s.heap.size ≤ q ∧ q < s.heap.size + 90 := fun q h => by
    have h2 : q ∈ rc_L G0 ++ rs_adr s.heap.size 90 := h
    rw [hL0] at h2
    exact rs_adr_mem.mp h2
  have X1 : rc_X p s m #[Value.ref b] meth c cL_law 10 wsL_law RL (rs_ext G0 s.heap.size (rs_shA G0 s.heap.size)) (fun q => s.heap.size ≤ q) := ⟨X.1, hK, hn1, fun q h => (hA1 q h).1, ⟨rl_lo hs htab hnA, rl_hi hs htab hnA, rl_fi hs htab hnA⟩, hlocks⟩
  have T1 := rs_kA7 G0 s.heap.size
  have T2 : rc_is (rs_ext G0 s.heap.size (rs_shA G0 s.heap.size)) (s.heap.size + 88) (rc_sI (rs_ext G0 s.heap.size (rs_shA G0 s.heap.size)) 56) := rs_isk 88 rfl
  have T3 : rc_is (rs_ext G0 s.heap.size (rs_shA G0 s.heap.size)) (s.heap.size + 89) (rc_sI (rs_ext G0 s.heap.size (rs_shA G0 s.heap.size)) 8) := rs_isk 89 rfl
  have S : rl_S b L xs (fun q => s.heap.size ≤ q) s := ⟨hX, hbl, hnA b hbl, by omega⟩
  have hend : lw_end p l e s m #[Value.ref b] below meth c (lw_Z below #[Value.ref b] s) (fun q => s.heap.size ≤ q) := by
    intro G I lv cl cells slots X2 hc _ H2 locs2 ls2 hl2 hP2 hS2
    have e1 : rc_o 1 = 1 := by decide +kernel
    rw [e1]
    refine W.widen (k := 660306) (n := 7121330) (Nat.le_trans (show cells ≤ 100000 by omega) (Nat.le_of_ble_eq_true rfl)) (Nat.le_trans (show slots ≤ 100000 by omega) (Nat.le_of_ble_eq_true rfl)) ?_
    exact va_forget (fun q hq => hS2.2.2 q hq) (lw_ret hx hb hr hlocks dL_law_683)
  exact gL_law_18 (cl := 0) X1 S hO (fun q h => h) hend ⟨Nat.zero_le _, Nat.le_of_ble_eq_true rfl, Nat.le_of_ble_eq_true rfl⟩ T1 T2 T3 (hpure _ _ T1 T3) H locs ls (lv_sub hl [3, 2, 1, 0] rfl) hP1 hS
