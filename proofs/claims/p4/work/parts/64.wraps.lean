set_option maxHeartbeats 4000000 in
set_option maxRecDepth 100000 in
theorem wsX8_copy (l : Launch) (D : va_G) (h h0 h0_0 h_0 : Nat) (a_h0_0 a_h_0 : ClassId) (n_h0_0 n_h_0 : Nat) (sz : Nat) (k_n_h0_0 : n_h0_0 ≤ 1000) (k_p_h0_0 : 1 ≤ n_h0_0) (k_n_h_0 : n_h_0 ≤ 1000) (k_p_h_0 : 1 ≤ n_h_0) (cs : List Cl) (hs : ShL [kC h0 (eX8 n_h0_0 h0_0), kC h0_0 (eArr n_h0_0 (-2147483648) 2147483647 a_h0_0), kC h (eX8 n_h_0 h_0), kC h_0 (eArr n_h_0 (-2147483648) 2147483647 a_h_0)] cs) : Met l yX8_copy (Cond.code yX8_copy cX8_copy 2 none :: gG) { frames := 2, cells := 0, slots := 0, locals := 120 } (cPre D [(a_h0_0, .int), (a_h_0, .int)] cs sz [.ref h, .ref h0]) (va_Qv (fun (u : va_W) => (True) ∧ ShL [kC h0 (eX8 n_h0_0 h0_0), kC h0_0 (eArr n_h0_0 (-2147483648) 2147483647 a_h0_0), kC h (eX8 n_h_0 h_0), kC h_0 (eArr n_h_0 (-2147483648) 2147483647 a_h_0)] u) (fun u t => cB D (va_A cs sz) [] u t) (va_A cs sz)) 0 0 (va_A cs sz) := by
  obtain ⟨c0, cs0, rfl, g0, hs0⟩ := ShL.cons hs
  obtain ⟨_, rfl, h0_1, rfl, k0_1_lo, k0_1_hi⟩ := kC.of g0
  obtain ⟨c1, cs1, rfl, g1, hs1⟩ := ShL.cons hs0
  obtain ⟨_, rfl, f_h0_0, rfl, q_f_h0_0⟩ := kC.of g1
  obtain ⟨c2, cs2, rfl, g2, hs2⟩ := ShL.cons hs1
  obtain ⟨_, rfl, h_1, rfl, k2_1_lo, k2_1_hi⟩ := kC.of g2
  obtain ⟨c3, cs3, rfl, g3, hs3⟩ := ShL.cons hs2
  obtain ⟨_, rfl, f_h_0, rfl, q_f_h_0⟩ := kC.of g3
  obtain rfl := ShL.nil hs3
  refine (sX8_copy l D h h0 h0_0 h0_1 n_h0_0 a_h0_0 f_h0_0 h_0 h_1 n_h_0 a_h_0 f_h_0 sz (by omega) (by omega) (by omega) (by omega) (by omega) (by omega) (by omega) (by omega) ).mono (fun _ _ h => h) (fun a st o t _ hq => ?_) (fun _ h => h)
  obtain ⟨⟨⟨jX_F_h_1, jX_C_h_0⟩, ho, hp, hB⟩, hF⟩ := hq
  obtain ⟨p0, p1, p2⟩ := hp
  exact ⟨⟨[(h0, .inr (8, [.ref h0_0, .int h0_1])), (h0_0, .inl (a_h0_0, n_h0_0, .inl f_h0_0)), (h, .inr (8, [.ref h_0, .int jX_F_h_1])), (h_0, .inl (a_h_0, n_h_0, .inl jX_C_h_0))], ho, ⟨trivial, ⟨⟨rfl, (h0_1), rfl, by first | omega | decide, by first | omega | decide | (have : (0 : Int32).toInt = 0 := (by decide); omega)⟩, ⟨rfl, _, rfl, q_f_h0_0⟩, ⟨rfl, (jX_F_h_1), rfl, by first | omega | decide, by first | omega | decide | (have : (0 : Int32).toInt = 0 := (by decide); omega)⟩, ⟨rfl, _, rfl, cr_all _⟩, trivial⟩⟩, hB⟩, hF⟩
set_option maxHeartbeats 4000000 in
set_option maxRecDepth 100000 in
theorem wsX8_statements (l : Launch) (D : va_G) (h h_0 : Nat) (a_h_0 : ClassId) (n_h_0 : Nat) (sz : Nat) (k_n_h_0 : n_h_0 ≤ 1000) (k_p_h_0 : 1 ≤ n_h_0) (cs : List Cl) (hs : ShL [kC h (eX8 n_h_0 h_0), kC h_0 (eArr n_h_0 (-2147483648) 2147483647 a_h_0)] cs) : Met l yX8_statements (Cond.code yX8_statements cX8_statements 3 (some .int) :: gG) { frames := 2, cells := 0, slots := 0, locals := 84 } (cPre D [(a_h_0, .int)] cs sz [.ref h]) (vp_Si (fun r => 0 ≤ r.toInt ∧ r.toInt ≤ 1000)) 0 0 (fun _ => False) := by
  obtain ⟨c0, cs0, rfl, g0, hs0⟩ := ShL.cons hs
  obtain ⟨_, rfl, h_1, rfl, k0_1_lo, k0_1_hi⟩ := kC.of g0
  obtain ⟨c1, cs1, rfl, g1, hs1⟩ := ShL.cons hs0
  obtain ⟨_, rfl, f_h_0, rfl, q_f_h_0⟩ := kC.of g1
  obtain rfl := ShL.nil hs1
  refine (sX8_statements l D h h_0 h_1 n_h_0 a_h_0 f_h_0 sz (by omega) (by omega) (by omega) (by omega) ).mono (fun _ _ h => h) (fun a st o t _ hq => ?_) (fun _ h => h)
  obtain ⟨r, ho, hp, hh⟩ := hq
  exact ⟨r, ho, (by obtain ⟨p0, p1, p2, p3⟩ := hp; exact ⟨by omega, by omega⟩), hh⟩
set_option maxHeartbeats 4000000 in
set_option maxRecDepth 100000 in
theorem wsX8_expressions (l : Launch) (D : va_G) (h h_0 : Nat) (a_h_0 : ClassId) (n_h_0 : Nat) (sz : Nat) (k_n_h_0 : n_h_0 ≤ 1000) (k_p_h_0 : 1 ≤ n_h_0) (cs : List Cl) (hs : ShL [kC h (eX8 n_h_0 h_0), kC h_0 (eArr n_h_0 (-2147483648) 2147483647 a_h_0)] cs) : Met l yX8_expressions (Cond.code yX8_expressions cX8_expressions 3 (some .int) :: gG) { frames := 2, cells := 0, slots := 0, locals := 84 } (cPre D [(a_h_0, .int)] cs sz [.ref h]) (vp_Si (fun r => 0 ≤ r.toInt ∧ r.toInt ≤ 1000)) 0 0 (fun _ => False) := by
  obtain ⟨c0, cs0, rfl, g0, hs0⟩ := ShL.cons hs
  obtain ⟨_, rfl, h_1, rfl, k0_1_lo, k0_1_hi⟩ := kC.of g0
  obtain ⟨c1, cs1, rfl, g1, hs1⟩ := ShL.cons hs0
  obtain ⟨_, rfl, f_h_0, rfl, q_f_h_0⟩ := kC.of g1
  obtain rfl := ShL.nil hs1
  refine (sX8_expressions l D h h_0 h_1 n_h_0 a_h_0 f_h_0 sz (by omega) (by omega) (by omega) (by omega) ).mono (fun _ _ h => h) (fun a st o t _ hq => ?_) (fun _ h => h)
  obtain ⟨r, ho, hp, hh⟩ := hq
  exact ⟨r, ho, (by obtain ⟨p0, p1, p2, p3⟩ := hp; exact ⟨by omega, by omega⟩), hh⟩
set_option maxHeartbeats 4000000 in
set_option maxRecDepth 100000 in
theorem wsX8_cell (l : Launch) (D : va_G) (h h_0 : Nat) (a_h_0 : ClassId) (n_h_0 : Nat) (x0 : Int32) (sz : Nat) (k_n_h_0 : n_h_0 ≤ 1000) (k_p_h_0 : 1 ≤ n_h_0) (cs : List Cl) (hs : ShL [kC h (eX8 n_h_0 h_0), kC h_0 (eArr n_h_0 (-2147483648) 2147483647 a_h_0)] cs) : Met l yX8_cell (Cond.code yX8_cell cX8_cell 2 (some .int) :: gG) { frames := 1, cells := 0, slots := 0, locals := 64 } (cPre D [(a_h_0, .int)] cs sz [.ref h, .int x0]) (vp_Si (fun r => True)) 0 0 (fun _ => False) := by
  obtain ⟨c0, cs0, rfl, g0, hs0⟩ := ShL.cons hs
  obtain ⟨_, rfl, h_1, rfl, k0_1_lo, k0_1_hi⟩ := kC.of g0
  obtain ⟨c1, cs1, rfl, g1, hs1⟩ := ShL.cons hs0
  obtain ⟨_, rfl, f_h_0, rfl, q_f_h_0⟩ := kC.of g1
  obtain rfl := ShL.nil hs1
  refine (sX8_cell l D h x0 h_0 h_1 n_h_0 a_h_0 f_h_0 sz (by omega) (by omega) (by omega) (by omega) ).mono (fun _ _ h => h) (fun a st o t _ hq => ?_) (fun _ h => h)
  obtain ⟨r, ho, hp, hh⟩ := hq
  exact ⟨r, ho, trivial, hh⟩
set_option maxHeartbeats 4000000 in
set_option maxRecDepth 100000 in
theorem wsX8_isTooLarge (l : Launch) (D : va_G) (h h_0 : Nat) (a_h_0 : ClassId) (n_h_0 : Nat) (sz : Nat) (k_n_h_0 : n_h_0 ≤ 1000) (k_p_h_0 : 1 ≤ n_h_0) (cs : List Cl) (hs : ShL [kC h (eX8 n_h_0 h_0), kC h_0 (eArr n_h_0 (-2147483648) 2147483647 a_h_0)] cs) : Met l yX8_isTooLarge (Cond.code yX8_isTooLarge cX8_isTooLarge 1 (some .boolean) :: gG) { frames := 3, cells := 0, slots := 0, locals := 106 } (cPre D [(a_h_0, .int)] cs sz [.ref h]) (vp_Si (fun r => 0 ≤ r.toInt ∧ r.toInt ≤ 1)) 0 0 (fun _ => False) := by
  obtain ⟨c0, cs0, rfl, g0, hs0⟩ := ShL.cons hs
  obtain ⟨_, rfl, h_1, rfl, k0_1_lo, k0_1_hi⟩ := kC.of g0
  obtain ⟨c1, cs1, rfl, g1, hs1⟩ := ShL.cons hs0
  obtain ⟨_, rfl, f_h_0, rfl, q_f_h_0⟩ := kC.of g1
  obtain rfl := ShL.nil hs1
  refine (sX8_isTooLarge l D h h_0 h_1 n_h_0 a_h_0 f_h_0 sz (by omega) (by omega) (by omega) (by omega) ).mono (fun _ _ h => h) (fun a st o t _ hq => ?_) (fun _ h => h)
  obtain ⟨r, ho, hp, hh⟩ := hq
  exact ⟨r, ho, (by obtain ⟨p0, p1, p2, p3⟩ := hp; exact ⟨by omega, by omega⟩), hh⟩
set_option maxHeartbeats 4000000 in
set_option maxRecDepth 100000 in
theorem wsX8_remove (l : Launch) (D : va_G) (h h_0 : Nat) (a_h_0 : ClassId) (n_h_0 : Nat) (x0 x1 : Int32) (sz : Nat) (k_n_h_0 : n_h_0 ≤ 1000) (k_p_h_0 : 1 ≤ n_h_0) (cs : List Cl) (hs : ShL [kC h (eX8 n_h_0 h_0), kC h_0 (eArr n_h_0 (-2147483648) 2147483647 a_h_0)] cs) : Met l yX8_remove (Cond.code yX8_remove cX8_remove 3 none :: gG) { frames := 1, cells := 0, slots := 0, locals := 96 } (cPre D [(a_h_0, .int)] cs sz [.ref h, .int x0, .int x1]) (va_Qv (fun (u : va_W) => (True) ∧ ShL [kC h (eX8 n_h_0 h_0), kC h_0 (eArr n_h_0 (-2147483648) 2147483647 a_h_0)] u) (fun u t => cB D (va_A cs sz) [] u t) (va_A cs sz)) 0 0 (va_A cs sz) := by
  obtain ⟨c0, cs0, rfl, g0, hs0⟩ := ShL.cons hs
  obtain ⟨_, rfl, h_1, rfl, k0_1_lo, k0_1_hi⟩ := kC.of g0
  obtain ⟨c1, cs1, rfl, g1, hs1⟩ := ShL.cons hs0
  obtain ⟨_, rfl, f_h_0, rfl, q_f_h_0⟩ := kC.of g1
  obtain rfl := ShL.nil hs1
  refine (sX8_remove l D h x0 x1 h_0 h_1 n_h_0 a_h_0 f_h_0 sz (by omega) (by omega) (by omega) (by omega) ).mono (fun _ _ h => h) (fun a st o t _ hq => ?_) (fun _ h => h)
  obtain ⟨⟨⟨jX_F_h_1, jX_C_h_0⟩, ho, hp, hB⟩, hF⟩ := hq
  obtain ⟨p0, p1, p2, p3⟩ := hp
  exact ⟨⟨[(h, .inr (8, [.ref h_0, .int jX_F_h_1])), (h_0, .inl (a_h_0, n_h_0, .inl jX_C_h_0))], ho, ⟨trivial, ⟨⟨rfl, (jX_F_h_1), rfl, by first | omega | decide, by first | omega | decide | (have : (0 : Int32).toInt = 0 := (by decide); omega)⟩, ⟨rfl, _, rfl, cr_all _⟩, trivial⟩⟩, hB⟩, hF⟩
set_option maxHeartbeats 4000000 in
set_option maxRecDepth 100000 in
theorem wsX8_statementEnd (l : Launch) (D : va_G) (h h_0 : Nat) (a_h_0 : ClassId) (n_h_0 : Nat) (x0 : Int32) (sz : Nat) (k_n_h_0 : n_h_0 ≤ 1000) (k_p_h_0 : 1 ≤ n_h_0) (cs : List Cl) (hs : ShL [kC h (eX8 n_h_0 h_0), kC h_0 (eArr n_h_0 (-2147483648) 2147483647 a_h_0)] cs) : Met l yX8_statementEnd (Cond.code yX8_statementEnd cX8_statementEnd 3 (some .int) :: gG) { frames := 3, cells := 0, slots := 0, locals := 107 } (cPre D [(a_h_0, .int)] cs sz [.ref h, .int x0]) (vp_Si (fun r => True)) 0 0 (fun _ => False) := by
  obtain ⟨c0, cs0, rfl, g0, hs0⟩ := ShL.cons hs
  obtain ⟨_, rfl, h_1, rfl, k0_1_lo, k0_1_hi⟩ := kC.of g0
  obtain ⟨c1, cs1, rfl, g1, hs1⟩ := ShL.cons hs0
  obtain ⟨_, rfl, f_h_0, rfl, q_f_h_0⟩ := kC.of g1
  obtain rfl := ShL.nil hs1
  refine (sX8_statementEnd l D h x0 h_0 h_1 n_h_0 a_h_0 f_h_0 sz (by omega) (by omega) (by omega) (by omega) ).mono (fun _ _ h => h) (fun a st o t _ hq => ?_) (fun _ h => h)
  obtain ⟨r, ho, hp, hh⟩ := hq
  exact ⟨r, ho, trivial, hh⟩
set_option maxHeartbeats 4000000 in
set_option maxRecDepth 100000 in
theorem wsX1_trace (l : Launch) (D : va_G) (h h0 h_2 h_3 h_4 h_5 h_6 h_7 h_8 h_9 h_10 h_11 h_12 h_13 h0_0 : Nat) (a_h0_0 a_h_13 a_h_12 a_h_2 a_h_3 a_h_9 a_h_4 a_h_5 a_h_8 a_h_6 a_h_7 a_h_11 a_h_10 : ClassId) (n_h0_0 : Nat) (sz : Nat) (k_n_h0_0 : n_h0_0 ≤ 1000) (k_p_h0_0 : 1 ≤ n_h0_0) (cs : List Cl) (hs : ShL [kC h (eX1 PTr h_2 h_3 h_4 h_5 h_6 h_7 h_8 h_9 h_10 h_11 h_12 h_13), kC h0 (eX8 n_h0_0 h0_0), kC h0_0 (eArr n_h0_0 (-2147483648) 2147483647 a_h0_0), kC h_13 (eArr 480 (-2147483648) 2147483647 a_h_13), kC h_12 (eArr 40 (-2147483648) 2147483647 a_h_12), kC h_2 (eArr 40 (-2147483648) 2147483647 a_h_2), kC h_3 (eArr 40 (-2147483648) 2147483647 a_h_3), kC h_9 (eArr 40 (-2147483648) 2147483647 a_h_9), kC h_4 (eArr 40 (0) 2000 a_h_4), kC h_5 (eArr 40 (0) 2000 a_h_5), kC h_8 (eArr 40 (-2147483648) 2147483647 a_h_8), kC h_6 (eArr 40 (-2147483648) 2147483647 a_h_6), kC h_7 (eArr 40 (-2147483648) 2147483647 a_h_7), kC h_11 (eArr 40 (-2147483648) 2147483647 a_h_11), kC h_10 (eArr 40 (-2147483648) 2147483647 a_h_10)] cs) : Met l yX1_trace (Cond.code yX1_trace cX1_trace 2 none :: gG) { frames := 4, cells := 0, slots := 0, locals := 131 } (cPre D [(a_h0_0, .int), (a_h_13, .int), (a_h_12, .int), (a_h_2, .int), (a_h_3, .int), (a_h_9, .int), (a_h_4, .int), (a_h_5, .int), (a_h_8, .int), (a_h_6, .int), (a_h_7, .int), (a_h_11, .int), (a_h_10, .int)] cs sz [.ref h, .ref h0]) (va_Qv (fun (u : va_W) => (True) ∧ ShL [kC h (eX1 (fun v _ => v = .ref h0) h_2 h_3 h_4 h_5 h_6 h_7 h_8 h_9 h_10 h_11 h_12 h_13), kC h0 (eX8 n_h0_0 h0_0), kC h0_0 (eArr n_h0_0 (-2147483648) 2147483647 a_h0_0), kC h_13 (eArr 480 (-2147483648) 2147483647 a_h_13), kC h_12 (eArr 40 (-2147483648) 2147483647 a_h_12), kC h_2 (eArr 40 (-2147483648) 2147483647 a_h_2), kC h_3 (eArr 40 (-2147483648) 2147483647 a_h_3), kC h_9 (eArr 40 (-2147483648) 2147483647 a_h_9), kC h_4 (eArr 40 (0) 2000 a_h_4), kC h_5 (eArr 40 (0) 2000 a_h_5), kC h_8 (eArr 40 (-2147483648) 2147483647 a_h_8), kC h_6 (eArr 40 (-2147483648) 2147483647 a_h_6), kC h_7 (eArr 40 (-2147483648) 2147483647 a_h_7), kC h_11 (eArr 40 (-2147483648) 2147483647 a_h_11), kC h_10 (eArr 40 (-2147483648) 2147483647 a_h_10)] u) (fun u t => cB D (va_A cs sz) [] u t) (va_A cs sz)) 0 0 (va_A cs sz) := by
  obtain ⟨c0, cs0, rfl, g0, hs0⟩ := ShL.cons hs
  obtain ⟨_, rfl, h_0, h_1, rfl, _, k0_1_lo, k0_1_hi⟩ := kC.of g0
  obtain ⟨c1, cs1, rfl, g1, hs1⟩ := ShL.cons hs0
  obtain ⟨_, rfl, h0_1, rfl, k1_1_lo, k1_1_hi⟩ := kC.of g1
  obtain ⟨c2, cs2, rfl, g2, hs2⟩ := ShL.cons hs1
  obtain ⟨_, rfl, f_h0_0, rfl, q_f_h0_0⟩ := kC.of g2
  obtain ⟨c3, cs3, rfl, g3, hs3⟩ := ShL.cons hs2
  obtain ⟨_, rfl, f_h_13, rfl, q_f_h_13⟩ := kC.of g3
  obtain ⟨c4, cs4, rfl, g4, hs4⟩ := ShL.cons hs3
  obtain ⟨_, rfl, f_h_12, rfl, q_f_h_12⟩ := kC.of g4
  obtain ⟨c5, cs5, rfl, g5, hs5⟩ := ShL.cons hs4
  obtain ⟨_, rfl, f_h_2, rfl, q_f_h_2⟩ := kC.of g5
  obtain ⟨c6, cs6, rfl, g6, hs6⟩ := ShL.cons hs5
  obtain ⟨_, rfl, f_h_3, rfl, q_f_h_3⟩ := kC.of g6
  obtain ⟨c7, cs7, rfl, g7, hs7⟩ := ShL.cons hs6
  obtain ⟨_, rfl, f_h_9, rfl, q_f_h_9⟩ := kC.of g7
  obtain ⟨c8, cs8, rfl, g8, hs8⟩ := ShL.cons hs7
  obtain ⟨_, rfl, f_h_4, rfl, q_f_h_4⟩ := kC.of g8
  obtain ⟨c9, cs9, rfl, g9, hs9⟩ := ShL.cons hs8
  obtain ⟨_, rfl, f_h_5, rfl, q_f_h_5⟩ := kC.of g9
  obtain ⟨c10, cs10, rfl, g10, hs10⟩ := ShL.cons hs9
  obtain ⟨_, rfl, f_h_8, rfl, q_f_h_8⟩ := kC.of g10
  obtain ⟨c11, cs11, rfl, g11, hs11⟩ := ShL.cons hs10
  obtain ⟨_, rfl, f_h_6, rfl, q_f_h_6⟩ := kC.of g11
  obtain ⟨c12, cs12, rfl, g12, hs12⟩ := ShL.cons hs11
  obtain ⟨_, rfl, f_h_7, rfl, q_f_h_7⟩ := kC.of g12
  obtain ⟨c13, cs13, rfl, g13, hs13⟩ := ShL.cons hs12
  obtain ⟨_, rfl, f_h_11, rfl, q_f_h_11⟩ := kC.of g13
  obtain ⟨c14, cs14, rfl, g14, hs14⟩ := ShL.cons hs13
  obtain ⟨_, rfl, f_h_10, rfl, q_f_h_10⟩ := kC.of g14
  obtain rfl := ShL.nil hs14
  refine (sX1_trace l D h h0 h_0 h_1 h_2 h_3 h_4 h_5 h_6 h_7 h_8 h_9 h_10 h_11 h_12 h_13 h0_0 h0_1 n_h0_0 a_h0_0 f_h0_0 a_h_13 f_h_13 a_h_12 f_h_12 a_h_2 f_h_2 a_h_3 f_h_3 a_h_9 f_h_9 a_h_4 f_h_4 a_h_5 f_h_5 a_h_8 f_h_8 a_h_6 f_h_6 a_h_7 f_h_7 a_h_11 f_h_11 a_h_10 f_h_10 sz (by omega) (by omega) (by omega) (by omega) (by omega) (by omega) q_f_h_4 q_f_h_5).mono (fun _ _ h => h) (fun a st o t _ hq => ?_) (fun _ h => h)
  obtain ⟨⟨⟨jX_F_h_1, jX_C_h_13, jX_C_h_12, jX_C_h_2, jX_C_h_3, jX_C_h_9, jX_C_h_4, jX_C_h_5, jX_C_h_8, jX_C_h_6, jX_C_h_7, jX_C_h_11, jX_C_h_10⟩, ho, hp, hB⟩, hF⟩ := hq
  obtain ⟨p0, p1, p2, p3, p4, p5⟩ := hp
  exact ⟨⟨[(h, .inr (1, [.ref h0, .int jX_F_h_1, .ref h_2, .ref h_3, .ref h_4, .ref h_5, .ref h_6, .ref h_7, .ref h_8, .ref h_9, .ref h_10, .ref h_11, .ref h_12, .ref h_13])), (h0, .inr (8, [.ref h0_0, .int h0_1])), (h0_0, .inl (a_h0_0, n_h0_0, .inl f_h0_0)), (h_13, .inl (a_h_13, 480, .inl jX_C_h_13)), (h_12, .inl (a_h_12, 40, .inl jX_C_h_12)), (h_2, .inl (a_h_2, 40, .inl jX_C_h_2)), (h_3, .inl (a_h_3, 40, .inl jX_C_h_3)), (h_9, .inl (a_h_9, 40, .inl jX_C_h_9)), (h_4, .inl (a_h_4, 40, .inl jX_C_h_4)), (h_5, .inl (a_h_5, 40, .inl jX_C_h_5)), (h_8, .inl (a_h_8, 40, .inl jX_C_h_8)), (h_6, .inl (a_h_6, 40, .inl jX_C_h_6)), (h_7, .inl (a_h_7, 40, .inl jX_C_h_7)), (h_11, .inl (a_h_11, 40, .inl jX_C_h_11)), (h_10, .inl (a_h_10, 40, .inl jX_C_h_10))], ho, ⟨trivial, ⟨⟨rfl, (.ref h0), (jX_F_h_1), rfl, rfl, by first | omega | decide, by first | omega | decide | (have : (0 : Int32).toInt = 0 := (by decide); omega)⟩, ⟨rfl, (h0_1), rfl, by first | omega | decide, by first | omega | decide | (have : (0 : Int32).toInt = 0 := (by decide); omega)⟩, ⟨rfl, _, rfl, q_f_h0_0⟩, ⟨rfl, _, rfl, cr_all _⟩, ⟨rfl, _, rfl, cr_all _⟩, ⟨rfl, _, rfl, cr_all _⟩, ⟨rfl, _, rfl, cr_all _⟩, ⟨rfl, _, rfl, cr_all _⟩, ⟨rfl, _, rfl, p4⟩, ⟨rfl, _, rfl, p5⟩, ⟨rfl, _, rfl, cr_all _⟩, ⟨rfl, _, rfl, cr_all _⟩, ⟨rfl, _, rfl, cr_all _⟩, ⟨rfl, _, rfl, cr_all _⟩, ⟨rfl, _, rfl, cr_all _⟩, trivial⟩⟩, hB⟩, hF⟩
set_option maxHeartbeats 4000000 in
set_option maxRecDepth 100000 in
theorem wsX1_aheadOf (l : Launch) (D : va_G) (h h_2 h_3 h_4 h_5 h_6 h_7 h_8 h_9 h_10 h_11 h_12 h_13 : Nat) (a_h_10 : ClassId) (x0 : Int32) (sz : Nat) (cs : List Cl) (hs : ShL [kC h (eX1 PTr h_2 h_3 h_4 h_5 h_6 h_7 h_8 h_9 h_10 h_11 h_12 h_13), kC h_10 (eArr 40 (-2147483648) 2147483647 a_h_10)] cs) : Met l yX1_aheadOf (Cond.code yX1_aheadOf cX1_aheadOf 2 (some .int) :: gG) { frames := 2, cells := 0, slots := 0, locals := 85 } (cPre D [(a_h_10, .int)] cs sz [.ref h, .int x0]) (vp_Si (fun r => True)) 0 0 (fun _ => False) := by
  obtain ⟨c0, cs0, rfl, g0, hs0⟩ := ShL.cons hs
  obtain ⟨_, rfl, h_0, h_1, rfl, _, k0_1_lo, k0_1_hi⟩ := kC.of g0
  obtain ⟨c1, cs1, rfl, g1, hs1⟩ := ShL.cons hs0
  obtain ⟨_, rfl, f_h_10, rfl, q_f_h_10⟩ := kC.of g1
  obtain rfl := ShL.nil hs1
  refine (sX1_aheadOf l D h x0 h_0 h_1 h_2 h_3 h_4 h_5 h_6 h_7 h_8 h_9 h_10 h_11 h_12 h_13 a_h_10 f_h_10 sz (by omega) (by omega) ).mono (fun _ _ h => h) (fun a st o t _ hq => ?_) (fun _ h => h)
  obtain ⟨r, ho, hp, hh⟩ := hq
  exact ⟨r, ho, trivial, hh⟩
set_option maxHeartbeats 4000000 in
set_option maxRecDepth 100000 in
theorem wsX3_go (l : Launch) (D : va_G) (h h_0 h_1 h_5 h_6 h_0_2 h_0_3 h_0_4 h_0_5 h_0_6 h_0_7 h_0_8 h_0_9 h_0_10 h_0_11 h_0_12 h_0_13 h_0_0 h_0_0_0 : Nat) (a_h_5 a_h_0_3 a_h_0_4 a_h_0_5 a_h_0_0_0 a_h_6 a_h_1 a_h_0_2 a_h_0_7 a_h_0_6 : ClassId) (n_h_0_0_0 : Nat) (x0 x1 : Int32) (sz : Nat) (k_n_h_0_0_0 : n_h_0_0_0 ≤ 1000) (k_p_h_0_0_0 : 1 ≤ n_h_0_0_0) (cs : List Cl) (hs : ShL [kC h (eX3 h_0 h_1 h_5 h_6), kC h_5 (eArr 6 (-2147483648) 2147483647 a_h_5), kC h_0 (eX1 (fun v _ => v = .ref h_0_0) h_0_2 h_0_3 h_0_4 h_0_5 h_0_6 h_0_7 h_0_8 h_0_9 h_0_10 h_0_11 h_0_12 h_0_13), kC h_0_3 (eArr 40 (-2147483648) 2147483647 a_h_0_3), kC h_0_4 (eArr 40 (0) 2000 a_h_0_4), kC h_0_5 (eArr 40 (0) 2000 a_h_0_5), kC h_0_0 (eX8 n_h_0_0_0 h_0_0_0), kC h_0_0_0 (eArr n_h_0_0_0 (-2147483648) 2147483647 a_h_0_0_0), kC h_6 (eArr 300 (-2147483648) 2147483647 a_h_6), kC h_1 (eArr 100 (-2147483648) 2147483647 a_h_1), kC h_0_2 (eArr 40 (-2147483648) 2147483647 a_h_0_2), kC h_0_7 (eArr 40 (-2147483648) 2147483647 a_h_0_7), kC h_0_6 (eArr 40 (-2147483648) 2147483647 a_h_0_6)] cs) : Met l yX3_go (Cond.code yX3_go cX3_go 4 none :: gG) { frames := 4, cells := 0, slots := 0, locals := 138 } (cPre D [(a_h_5, .int), (a_h_0_3, .int), (a_h_0_4, .int), (a_h_0_5, .int), (a_h_0_0_0, .int), (a_h_6, .int), (a_h_1, .int), (a_h_0_2, .int), (a_h_0_7, .int), (a_h_0_6, .int)] cs sz [.ref h, .int x0, .int x1]) (va_Qv (fun (u : va_W) => (True) ∧ ShL [kC h (eX3 h_0 h_1 h_5 h_6), kC h_5 (eArr 6 (-2147483648) 2147483647 a_h_5), kC h_0 (eX1 (fun v _ => v = .ref h_0_0) h_0_2 h_0_3 h_0_4 h_0_5 h_0_6 h_0_7 h_0_8 h_0_9 h_0_10 h_0_11 h_0_12 h_0_13), kC h_0_3 (eArr 40 (-2147483648) 2147483647 a_h_0_3), kC h_0_4 (eArr 40 (0) 2000 a_h_0_4), kC h_0_5 (eArr 40 (0) 2000 a_h_0_5), kC h_0_0 (eX8 n_h_0_0_0 h_0_0_0), kC h_0_0_0 (eArr n_h_0_0_0 (-2147483648) 2147483647 a_h_0_0_0), kC h_6 (eArr 300 (-2147483648) 2147483647 a_h_6), kC h_1 (eArr 100 (-2147483648) 2147483647 a_h_1), kC h_0_2 (eArr 40 (-2147483648) 2147483647 a_h_0_2), kC h_0_7 (eArr 40 (-2147483648) 2147483647 a_h_0_7), kC h_0_6 (eArr 40 (-2147483648) 2147483647 a_h_0_6)] u) (fun u t => cB D (va_A cs sz) [] u t) (va_A cs sz)) 0 0 (va_A cs sz) := by
  obtain ⟨c0, cs0, rfl, g0, hs0⟩ := ShL.cons hs
  obtain ⟨_, rfl, h_2, h_3, h_4, rfl, k0_2_lo, k0_2_hi⟩ := kC.of g0
  obtain ⟨c1, cs1, rfl, g1, hs1⟩ := ShL.cons hs0
  obtain ⟨_, rfl, f_h_5, rfl, q_f_h_5⟩ := kC.of g1
  obtain ⟨c2, cs2, rfl, g2, hs2⟩ := ShL.cons hs1
  obtain ⟨_, rfl, v0_, h_0_1, rfl, rfl, k2_1_lo, k2_1_hi⟩ := kC.of g2
  obtain ⟨c3, cs3, rfl, g3, hs3⟩ := ShL.cons hs2
  obtain ⟨_, rfl, f_h_0_3, rfl, q_f_h_0_3⟩ := kC.of g3
  obtain ⟨c4, cs4, rfl, g4, hs4⟩ := ShL.cons hs3
  obtain ⟨_, rfl, f_h_0_4, rfl, q_f_h_0_4⟩ := kC.of g4
  obtain ⟨c5, cs5, rfl, g5, hs5⟩ := ShL.cons hs4
  obtain ⟨_, rfl, f_h_0_5, rfl, q_f_h_0_5⟩ := kC.of g5
  obtain ⟨c6, cs6, rfl, g6, hs6⟩ := ShL.cons hs5
  obtain ⟨_, rfl, h_0_0_1, rfl, k6_1_lo, k6_1_hi⟩ := kC.of g6
  obtain ⟨c7, cs7, rfl, g7, hs7⟩ := ShL.cons hs6
  obtain ⟨_, rfl, f_h_0_0_0, rfl, q_f_h_0_0_0⟩ := kC.of g7
  obtain ⟨c8, cs8, rfl, g8, hs8⟩ := ShL.cons hs7
  obtain ⟨_, rfl, f_h_6, rfl, q_f_h_6⟩ := kC.of g8
  obtain ⟨c9, cs9, rfl, g9, hs9⟩ := ShL.cons hs8
  obtain ⟨_, rfl, f_h_1, rfl, q_f_h_1⟩ := kC.of g9
  obtain ⟨c10, cs10, rfl, g10, hs10⟩ := ShL.cons hs9
  obtain ⟨_, rfl, f_h_0_2, rfl, q_f_h_0_2⟩ := kC.of g10
  obtain ⟨c11, cs11, rfl, g11, hs11⟩ := ShL.cons hs10
  obtain ⟨_, rfl, f_h_0_7, rfl, q_f_h_0_7⟩ := kC.of g11
  obtain ⟨c12, cs12, rfl, g12, hs12⟩ := ShL.cons hs11
  obtain ⟨_, rfl, f_h_0_6, rfl, q_f_h_0_6⟩ := kC.of g12
  obtain rfl := ShL.nil hs12
  refine (sX3_go l D h x0 x1 h_0 h_1 h_2 h_3 h_4 h_5 h_6 a_h_5 f_h_5 h_0_0 h_0_1 h_0_2 h_0_3 h_0_4 h_0_5 h_0_6 h_0_7 h_0_8 h_0_9 h_0_10 h_0_11 h_0_12 h_0_13 a_h_0_3 f_h_0_3 a_h_0_4 f_h_0_4 a_h_0_5 f_h_0_5 h_0_0_0 h_0_0_1 n_h_0_0_0 a_h_0_0_0 f_h_0_0_0 a_h_6 f_h_6 a_h_1 f_h_1 a_h_0_2 f_h_0_2 a_h_0_7 f_h_0_7 a_h_0_6 f_h_0_6 sz (by omega) (by omega) (by omega) (by omega) (by omega) (by omega) (by omega) (by omega) q_f_h_0_4 q_f_h_0_5).mono (fun _ _ h => h) (fun a st o t _ hq => ?_) (fun _ h => h)
  obtain ⟨⟨⟨jX_F_h_2, jX_F_h_3, jX_F_h_4, jX_C_h_5, jX_C_h_6, jX_C_h_1⟩, ho, hp, hB⟩, hF⟩ := hq
  obtain ⟨p0, p1, p2, p3, p4, p5, p6⟩ := hp
  exact ⟨⟨[(h, .inr (3, [.ref h_0, .ref h_1, .int jX_F_h_2, .int jX_F_h_3, .int jX_F_h_4, .ref h_5, .ref h_6])), (h_5, .inl (a_h_5, 6, .inl jX_C_h_5)), (h_0, .inr (1, [.ref h_0_0, .int h_0_1, .ref h_0_2, .ref h_0_3, .ref h_0_4, .ref h_0_5, .ref h_0_6, .ref h_0_7, .ref h_0_8, .ref h_0_9, .ref h_0_10, .ref h_0_11, .ref h_0_12, .ref h_0_13])), (h_0_3, .inl (a_h_0_3, 40, .inl f_h_0_3)), (h_0_4, .inl (a_h_0_4, 40, .inl f_h_0_4)), (h_0_5, .inl (a_h_0_5, 40, .inl f_h_0_5)), (h_0_0, .inr (8, [.ref h_0_0_0, .int h_0_0_1])), (h_0_0_0, .inl (a_h_0_0_0, n_h_0_0_0, .inl f_h_0_0_0)), (h_6, .inl (a_h_6, 300, .inl jX_C_h_6)), (h_1, .inl (a_h_1, 100, .inl jX_C_h_1)), (h_0_2, .inl (a_h_0_2, 40, .inl f_h_0_2)), (h_0_7, .inl (a_h_0_7, 40, .inl f_h_0_7)), (h_0_6, .inl (a_h_0_6, 40, .inl f_h_0_6))], ho, ⟨trivial, ⟨⟨rfl, (jX_F_h_2), (jX_F_h_3), (jX_F_h_4), rfl, by first | omega | decide, by first | omega | decide | (have : (0 : Int32).toInt = 0 := (by decide); omega)⟩, ⟨rfl, _, rfl, cr_all _⟩, ⟨rfl, (.ref h_0_0), (h_0_1), rfl, rfl, by first | omega | decide, by first | omega | decide | (have : (0 : Int32).toInt = 0 := (by decide); omega)⟩, ⟨rfl, _, rfl, q_f_h_0_3⟩, ⟨rfl, _, rfl, q_f_h_0_4⟩, ⟨rfl, _, rfl, q_f_h_0_5⟩, ⟨rfl, (h_0_0_1), rfl, by first | omega | decide, by first | omega | decide | (have : (0 : Int32).toInt = 0 := (by decide); omega)⟩, ⟨rfl, _, rfl, q_f_h_0_0_0⟩, ⟨rfl, _, rfl, cr_all _⟩, ⟨rfl, _, rfl, cr_all _⟩, ⟨rfl, _, rfl, q_f_h_0_2⟩, ⟨rfl, _, rfl, q_f_h_0_7⟩, ⟨rfl, _, rfl, q_f_h_0_6⟩, trivial⟩⟩, hB⟩, hF⟩
set_option maxHeartbeats 4000000 in
set_option maxRecDepth 100000 in
theorem wsX3_tell (l : Launch) (D : va_G) (h h_0 h_1 h_5 h_6 : Nat) (a_h_5 a_h_1 : ClassId) (x0 : Int32) (sz : Nat) (cs : List Cl) (hs : ShL [kC h (eX3 h_0 h_1 h_5 h_6), kC h_5 (eArr 6 (-2147483648) 2147483647 a_h_5), kC h_1 (eArr 100 (-2147483648) 2147483647 a_h_1)] cs) : Met l yX3_tell (Cond.code yX3_tell cX3_tell 2 (some .int) :: gG) { frames := 2, cells := 0, slots := 0, locals := 85 } (cPre D [(a_h_5, .int), (a_h_1, .int)] cs sz [.ref h, .int x0]) (vp_Si (fun r => True)) 0 0 (fun _ => False) := by
  obtain ⟨c0, cs0, rfl, g0, hs0⟩ := ShL.cons hs
  obtain ⟨_, rfl, h_2, h_3, h_4, rfl, k0_2_lo, k0_2_hi⟩ := kC.of g0
  obtain ⟨c1, cs1, rfl, g1, hs1⟩ := ShL.cons hs0
  obtain ⟨_, rfl, f_h_5, rfl, q_f_h_5⟩ := kC.of g1
  obtain ⟨c2, cs2, rfl, g2, hs2⟩ := ShL.cons hs1
  obtain ⟨_, rfl, f_h_1, rfl, q_f_h_1⟩ := kC.of g2
  obtain rfl := ShL.nil hs2
  refine (sX3_tell l D h x0 h_0 h_1 h_2 h_3 h_4 h_5 h_6 a_h_5 f_h_5 a_h_1 f_h_1 sz (by omega) (by omega) ).mono (fun _ _ h => h) (fun a st o t _ hq => ?_) (fun _ h => h)
  obtain ⟨r, ho, hp, hh⟩ := hq
  exact ⟨r, ho, trivial, hh⟩
set_option maxHeartbeats 4000000 in
set_option maxRecDepth 100000 in
theorem wsX2_compare (l : Launch) (D : va_G) (h h0 h1 h_4 h_5 h_4_0 h_4_1 h_4_5 h_4_6 h_4_0_2 h_4_0_3 h_4_0_4 h_4_0_5 h_4_0_6 h_4_0_7 h_4_0_8 h_4_0_9 h_4_0_10 h_4_0_11 h_4_0_12 h_4_0_13 h0_0 h_5_0 h_5_1 h_5_5 h_5_6 h_5_0_2 h_5_0_3 h_5_0_4 h_5_0_5 h_5_0_6 h_5_0_7 h_5_0_8 h_5_0_9 h_5_0_10 h_5_0_11 h_5_0_12 h_5_0_13 h1_0 : Nat) (a_h0_0 a_h_4_0_13 a_h_4_0_12 a_h_4_0_2 a_h_4_0_3 a_h_4_0_9 a_h_4_0_4 a_h_4_0_5 a_h_4_0_8 a_h_4_0_6 a_h_4_0_7 a_h_4_0_11 a_h_4_0_10 a_h1_0 a_h_5_0_13 a_h_5_0_12 a_h_5_0_2 a_h_5_0_3 a_h_5_0_9 a_h_5_0_4 a_h_5_0_5 a_h_5_0_8 a_h_5_0_6 a_h_5_0_7 a_h_5_0_11 a_h_5_0_10 a_h_4_5 a_h_4_6 a_h_4_1 a_h_5_5 a_h_5_6 a_h_5_1 : ClassId) (n_h0_0 n_h1_0 : Nat) (x2 : Int32) (sz : Nat) (k_x2_lo : 0 ≤ x2.toInt) (k_x2_hi : x2.toInt ≤ 1) (k_n_h0_0 : n_h0_0 ≤ 1000) (k_p_h0_0 : 1 ≤ n_h0_0) (k_n_h1_0 : n_h1_0 ≤ 1000) (k_p_h1_0 : 1 ≤ n_h1_0) (cs : List Cl) (hs : ShL [kC h (eX2 h_4 h_5), kC h_4 (eX3 h_4_0 h_4_1 h_4_5 h_4_6), kC h_4_0 (eX1 PTr h_4_0_2 h_4_0_3 h_4_0_4 h_4_0_5 h_4_0_6 h_4_0_7 h_4_0_8 h_4_0_9 h_4_0_10 h_4_0_11 h_4_0_12 h_4_0_13), kC h0 (eX8 n_h0_0 h0_0), kC h0_0 (eArr n_h0_0 (-2147483648) 2147483647 a_h0_0), kC h_4_0_13 (eArr 480 (-2147483648) 2147483647 a_h_4_0_13), kC h_4_0_12 (eArr 40 (-2147483648) 2147483647 a_h_4_0_12), kC h_4_0_2 (eArr 40 (-2147483648) 2147483647 a_h_4_0_2), kC h_4_0_3 (eArr 40 (-2147483648) 2147483647 a_h_4_0_3), kC h_4_0_9 (eArr 40 (-2147483648) 2147483647 a_h_4_0_9), kC h_4_0_4 (eArr 40 (0) 2000 a_h_4_0_4), kC h_4_0_5 (eArr 40 (0) 2000 a_h_4_0_5), kC h_4_0_8 (eArr 40 (-2147483648) 2147483647 a_h_4_0_8), kC h_4_0_6 (eArr 40 (-2147483648) 2147483647 a_h_4_0_6), kC h_4_0_7 (eArr 40 (-2147483648) 2147483647 a_h_4_0_7), kC h_4_0_11 (eArr 40 (-2147483648) 2147483647 a_h_4_0_11), kC h_4_0_10 (eArr 40 (-2147483648) 2147483647 a_h_4_0_10), kC h_5 (eX3 h_5_0 h_5_1 h_5_5 h_5_6), kC h_5_0 (eX1 PTr h_5_0_2 h_5_0_3 h_5_0_4 h_5_0_5 h_5_0_6 h_5_0_7 h_5_0_8 h_5_0_9 h_5_0_10 h_5_0_11 h_5_0_12 h_5_0_13), kC h1 (eX8 n_h1_0 h1_0), kC h1_0 (eArr n_h1_0 (-2147483648) 2147483647 a_h1_0), kC h_5_0_13 (eArr 480 (-2147483648) 2147483647 a_h_5_0_13), kC h_5_0_12 (eArr 40 (-2147483648) 2147483647 a_h_5_0_12), kC h_5_0_2 (eArr 40 (-2147483648) 2147483647 a_h_5_0_2), kC h_5_0_3 (eArr 40 (-2147483648) 2147483647 a_h_5_0_3), kC h_5_0_9 (eArr 40 (-2147483648) 2147483647 a_h_5_0_9), kC h_5_0_4 (eArr 40 (0) 2000 a_h_5_0_4), kC h_5_0_5 (eArr 40 (0) 2000 a_h_5_0_5), kC h_5_0_8 (eArr 40 (-2147483648) 2147483647 a_h_5_0_8), kC h_5_0_6 (eArr 40 (-2147483648) 2147483647 a_h_5_0_6), kC h_5_0_7 (eArr 40 (-2147483648) 2147483647 a_h_5_0_7), kC h_5_0_11 (eArr 40 (-2147483648) 2147483647 a_h_5_0_11), kC h_5_0_10 (eArr 40 (-2147483648) 2147483647 a_h_5_0_10), kC h_4_5 (eArr 6 (-2147483648) 2147483647 a_h_4_5), kC h_4_6 (eArr 300 (-2147483648) 2147483647 a_h_4_6), kC h_4_1 (eArr 100 (-2147483648) 2147483647 a_h_4_1), kC h_5_5 (eArr 6 (-2147483648) 2147483647 a_h_5_5), kC h_5_6 (eArr 300 (-2147483648) 2147483647 a_h_5_6), kC h_5_1 (eArr 100 (-2147483648) 2147483647 a_h_5_1)] cs) : Met l yX2_compare (Cond.code yX2_compare cX2_compare 9 (some .boolean) :: gG) { frames := 5, cells := 0, slots := 0, locals := 161 } (cPre D [(a_h0_0, .int), (a_h_4_0_13, .int), (a_h_4_0_12, .int), (a_h_4_0_2, .int), (a_h_4_0_3, .int), (a_h_4_0_9, .int), (a_h_4_0_4, .int), (a_h_4_0_5, .int), (a_h_4_0_8, .int), (a_h_4_0_6, .int), (a_h_4_0_7, .int), (a_h_4_0_11, .int), (a_h_4_0_10, .int), (a_h1_0, .int), (a_h_5_0_13, .int), (a_h_5_0_12, .int), (a_h_5_0_2, .int), (a_h_5_0_3, .int), (a_h_5_0_9, .int), (a_h_5_0_4, .int), (a_h_5_0_5, .int), (a_h_5_0_8, .int), (a_h_5_0_6, .int), (a_h_5_0_7, .int), (a_h_5_0_11, .int), (a_h_5_0_10, .int), (a_h_4_5, .int), (a_h_4_6, .int), (a_h_4_1, .int), (a_h_5_5, .int), (a_h_5_6, .int), (a_h_5_1, .int)] cs sz [.ref h, .ref h0, .ref h1, .int x2]) (va_Qi (fun (r : Int32) (u : va_W) => (0 ≤ r.toInt ∧ r.toInt ≤ 1) ∧ ShL [kC h (eX2 h_4 h_5), kC h_4 (eX3 h_4_0 h_4_1 h_4_5 h_4_6), kC h_4_0 (eX1 (fun v _ => v = .ref h0) h_4_0_2 h_4_0_3 h_4_0_4 h_4_0_5 h_4_0_6 h_4_0_7 h_4_0_8 h_4_0_9 h_4_0_10 h_4_0_11 h_4_0_12 h_4_0_13), kC h0 (eX8 n_h0_0 h0_0), kC h0_0 (eArr n_h0_0 (-2147483648) 2147483647 a_h0_0), kC h_4_0_13 (eArr 480 (-2147483648) 2147483647 a_h_4_0_13), kC h_4_0_12 (eArr 40 (-2147483648) 2147483647 a_h_4_0_12), kC h_4_0_2 (eArr 40 (-2147483648) 2147483647 a_h_4_0_2), kC h_4_0_3 (eArr 40 (-2147483648) 2147483647 a_h_4_0_3), kC h_4_0_9 (eArr 40 (-2147483648) 2147483647 a_h_4_0_9), kC h_4_0_4 (eArr 40 (0) 2000 a_h_4_0_4), kC h_4_0_5 (eArr 40 (0) 2000 a_h_4_0_5), kC h_4_0_8 (eArr 40 (-2147483648) 2147483647 a_h_4_0_8), kC h_4_0_6 (eArr 40 (-2147483648) 2147483647 a_h_4_0_6), kC h_4_0_7 (eArr 40 (-2147483648) 2147483647 a_h_4_0_7), kC h_4_0_11 (eArr 40 (-2147483648) 2147483647 a_h_4_0_11), kC h_4_0_10 (eArr 40 (-2147483648) 2147483647 a_h_4_0_10), kC h_5 (eX3 h_5_0 h_5_1 h_5_5 h_5_6), kC h_5_0 (eX1 (fun v _ => v = .ref h1) h_5_0_2 h_5_0_3 h_5_0_4 h_5_0_5 h_5_0_6 h_5_0_7 h_5_0_8 h_5_0_9 h_5_0_10 h_5_0_11 h_5_0_12 h_5_0_13), kC h1 (eX8 n_h1_0 h1_0), kC h1_0 (eArr n_h1_0 (-2147483648) 2147483647 a_h1_0), kC h_5_0_13 (eArr 480 (-2147483648) 2147483647 a_h_5_0_13), kC h_5_0_12 (eArr 40 (-2147483648) 2147483647 a_h_5_0_12), kC h_5_0_2 (eArr 40 (-2147483648) 2147483647 a_h_5_0_2), kC h_5_0_3 (eArr 40 (-2147483648) 2147483647 a_h_5_0_3), kC h_5_0_9 (eArr 40 (-2147483648) 2147483647 a_h_5_0_9), kC h_5_0_4 (eArr 40 (0) 2000 a_h_5_0_4), kC h_5_0_5 (eArr 40 (0) 2000 a_h_5_0_5), kC h_5_0_8 (eArr 40 (-2147483648) 2147483647 a_h_5_0_8), kC h_5_0_6 (eArr 40 (-2147483648) 2147483647 a_h_5_0_6), kC h_5_0_7 (eArr 40 (-2147483648) 2147483647 a_h_5_0_7), kC h_5_0_11 (eArr 40 (-2147483648) 2147483647 a_h_5_0_11), kC h_5_0_10 (eArr 40 (-2147483648) 2147483647 a_h_5_0_10), kC h_4_5 (eArr 6 (-2147483648) 2147483647 a_h_4_5), kC h_4_6 (eArr 300 (-2147483648) 2147483647 a_h_4_6), kC h_4_1 (eArr 100 (-2147483648) 2147483647 a_h_4_1), kC h_5_5 (eArr 6 (-2147483648) 2147483647 a_h_5_5), kC h_5_6 (eArr 300 (-2147483648) 2147483647 a_h_5_6), kC h_5_1 (eArr 100 (-2147483648) 2147483647 a_h_5_1)] u) (fun u t => cB D (va_A cs sz) [] u t) (va_A cs sz)) 0 0 (va_A cs sz) := by
  obtain ⟨c0, cs0, rfl, g0, hs0⟩ := ShL.cons hs
  obtain ⟨_, rfl, h_0, h_1, h_2, h_3, rfl⟩ := kC.of g0
  obtain ⟨c1, cs1, rfl, g1, hs1⟩ := ShL.cons hs0
  obtain ⟨_, rfl, h_4_2, h_4_3, h_4_4, rfl, k1_2_lo, k1_2_hi⟩ := kC.of g1
  obtain ⟨c2, cs2, rfl, g2, hs2⟩ := ShL.cons hs1
  obtain ⟨_, rfl, h_4_0_0, h_4_0_1, rfl, _, k2_1_lo, k2_1_hi⟩ := kC.of g2
  obtain ⟨c3, cs3, rfl, g3, hs3⟩ := ShL.cons hs2
  obtain ⟨_, rfl, h0_1, rfl, k3_1_lo, k3_1_hi⟩ := kC.of g3
  obtain ⟨c4, cs4, rfl, g4, hs4⟩ := ShL.cons hs3
  obtain ⟨_, rfl, f_h0_0, rfl, q_f_h0_0⟩ := kC.of g4
  obtain ⟨c5, cs5, rfl, g5, hs5⟩ := ShL.cons hs4
  obtain ⟨_, rfl, f_h_4_0_13, rfl, q_f_h_4_0_13⟩ := kC.of g5
  obtain ⟨c6, cs6, rfl, g6, hs6⟩ := ShL.cons hs5
  obtain ⟨_, rfl, f_h_4_0_12, rfl, q_f_h_4_0_12⟩ := kC.of g6
  obtain ⟨c7, cs7, rfl, g7, hs7⟩ := ShL.cons hs6
  obtain ⟨_, rfl, f_h_4_0_2, rfl, q_f_h_4_0_2⟩ := kC.of g7
  obtain ⟨c8, cs8, rfl, g8, hs8⟩ := ShL.cons hs7
  obtain ⟨_, rfl, f_h_4_0_3, rfl, q_f_h_4_0_3⟩ := kC.of g8
  obtain ⟨c9, cs9, rfl, g9, hs9⟩ := ShL.cons hs8
  obtain ⟨_, rfl, f_h_4_0_9, rfl, q_f_h_4_0_9⟩ := kC.of g9
  obtain ⟨c10, cs10, rfl, g10, hs10⟩ := ShL.cons hs9
  obtain ⟨_, rfl, f_h_4_0_4, rfl, q_f_h_4_0_4⟩ := kC.of g10
  obtain ⟨c11, cs11, rfl, g11, hs11⟩ := ShL.cons hs10
  obtain ⟨_, rfl, f_h_4_0_5, rfl, q_f_h_4_0_5⟩ := kC.of g11
  obtain ⟨c12, cs12, rfl, g12, hs12⟩ := ShL.cons hs11
  obtain ⟨_, rfl, f_h_4_0_8, rfl, q_f_h_4_0_8⟩ := kC.of g12
  obtain ⟨c13, cs13, rfl, g13, hs13⟩ := ShL.cons hs12
  obtain ⟨_, rfl, f_h_4_0_6, rfl, q_f_h_4_0_6⟩ := kC.of g13
  obtain ⟨c14, cs14, rfl, g14, hs14⟩ := ShL.cons hs13
  obtain ⟨_, rfl, f_h_4_0_7, rfl, q_f_h_4_0_7⟩ := kC.of g14
  obtain ⟨c15, cs15, rfl, g15, hs15⟩ := ShL.cons hs14
  obtain ⟨_, rfl, f_h_4_0_11, rfl, q_f_h_4_0_11⟩ := kC.of g15
  obtain ⟨c16, cs16, rfl, g16, hs16⟩ := ShL.cons hs15
  obtain ⟨_, rfl, f_h_4_0_10, rfl, q_f_h_4_0_10⟩ := kC.of g16
  obtain ⟨c17, cs17, rfl, g17, hs17⟩ := ShL.cons hs16
  obtain ⟨_, rfl, h_5_2, h_5_3, h_5_4, rfl, k17_2_lo, k17_2_hi⟩ := kC.of g17
  obtain ⟨c18, cs18, rfl, g18, hs18⟩ := ShL.cons hs17
  obtain ⟨_, rfl, h_5_0_0, h_5_0_1, rfl, _, k18_1_lo, k18_1_hi⟩ := kC.of g18
  obtain ⟨c19, cs19, rfl, g19, hs19⟩ := ShL.cons hs18
  obtain ⟨_, rfl, h1_1, rfl, k19_1_lo, k19_1_hi⟩ := kC.of g19
  obtain ⟨c20, cs20, rfl, g20, hs20⟩ := ShL.cons hs19
  obtain ⟨_, rfl, f_h1_0, rfl, q_f_h1_0⟩ := kC.of g20
  obtain ⟨c21, cs21, rfl, g21, hs21⟩ := ShL.cons hs20
  obtain ⟨_, rfl, f_h_5_0_13, rfl, q_f_h_5_0_13⟩ := kC.of g21
  obtain ⟨c22, cs22, rfl, g22, hs22⟩ := ShL.cons hs21
  obtain ⟨_, rfl, f_h_5_0_12, rfl, q_f_h_5_0_12⟩ := kC.of g22
  obtain ⟨c23, cs23, rfl, g23, hs23⟩ := ShL.cons hs22
  obtain ⟨_, rfl, f_h_5_0_2, rfl, q_f_h_5_0_2⟩ := kC.of g23
  obtain ⟨c24, cs24, rfl, g24, hs24⟩ := ShL.cons hs23
  obtain ⟨_, rfl, f_h_5_0_3, rfl, q_f_h_5_0_3⟩ := kC.of g24
  obtain ⟨c25, cs25, rfl, g25, hs25⟩ := ShL.cons hs24
  obtain ⟨_, rfl, f_h_5_0_9, rfl, q_f_h_5_0_9⟩ := kC.of g25
  obtain ⟨c26, cs26, rfl, g26, hs26⟩ := ShL.cons hs25
  obtain ⟨_, rfl, f_h_5_0_4, rfl, q_f_h_5_0_4⟩ := kC.of g26
  obtain ⟨c27, cs27, rfl, g27, hs27⟩ := ShL.cons hs26
  obtain ⟨_, rfl, f_h_5_0_5, rfl, q_f_h_5_0_5⟩ := kC.of g27
  obtain ⟨c28, cs28, rfl, g28, hs28⟩ := ShL.cons hs27
  obtain ⟨_, rfl, f_h_5_0_8, rfl, q_f_h_5_0_8⟩ := kC.of g28
  obtain ⟨c29, cs29, rfl, g29, hs29⟩ := ShL.cons hs28
  obtain ⟨_, rfl, f_h_5_0_6, rfl, q_f_h_5_0_6⟩ := kC.of g29
  obtain ⟨c30, cs30, rfl, g30, hs30⟩ := ShL.cons hs29
  obtain ⟨_, rfl, f_h_5_0_7, rfl, q_f_h_5_0_7⟩ := kC.of g30
  obtain ⟨c31, cs31, rfl, g31, hs31⟩ := ShL.cons hs30
  obtain ⟨_, rfl, f_h_5_0_11, rfl, q_f_h_5_0_11⟩ := kC.of g31
  obtain ⟨c32, cs32, rfl, g32, hs32⟩ := ShL.cons hs31
  obtain ⟨_, rfl, f_h_5_0_10, rfl, q_f_h_5_0_10⟩ := kC.of g32
  obtain ⟨c33, cs33, rfl, g33, hs33⟩ := ShL.cons hs32
  obtain ⟨_, rfl, f_h_4_5, rfl, q_f_h_4_5⟩ := kC.of g33
  obtain ⟨c34, cs34, rfl, g34, hs34⟩ := ShL.cons hs33
  obtain ⟨_, rfl, f_h_4_6, rfl, q_f_h_4_6⟩ := kC.of g34
  obtain ⟨c35, cs35, rfl, g35, hs35⟩ := ShL.cons hs34
  obtain ⟨_, rfl, f_h_4_1, rfl, q_f_h_4_1⟩ := kC.of g35
  obtain ⟨c36, cs36, rfl, g36, hs36⟩ := ShL.cons hs35
  obtain ⟨_, rfl, f_h_5_5, rfl, q_f_h_5_5⟩ := kC.of g36
  obtain ⟨c37, cs37, rfl, g37, hs37⟩ := ShL.cons hs36
  obtain ⟨_, rfl, f_h_5_6, rfl, q_f_h_5_6⟩ := kC.of g37
  obtain ⟨c38, cs38, rfl, g38, hs38⟩ := ShL.cons hs37
  obtain ⟨_, rfl, f_h_5_1, rfl, q_f_h_5_1⟩ := kC.of g38
  obtain rfl := ShL.nil hs38
  refine (sX2_compare l D h h0 h1 x2 h_0 h_1 h_2 h_3 h_4 h_5 h_4_0 h_4_1 h_4_2 h_4_3 h_4_4 h_4_5 h_4_6 h_4_0_0 h_4_0_1 h_4_0_2 h_4_0_3 h_4_0_4 h_4_0_5 h_4_0_6 h_4_0_7 h_4_0_8 h_4_0_9 h_4_0_10 h_4_0_11 h_4_0_12 h_4_0_13 h0_0 h0_1 n_h0_0 a_h0_0 f_h0_0 a_h_4_0_13 f_h_4_0_13 a_h_4_0_12 f_h_4_0_12 a_h_4_0_2 f_h_4_0_2 a_h_4_0_3 f_h_4_0_3 a_h_4_0_9 f_h_4_0_9 a_h_4_0_4 f_h_4_0_4 a_h_4_0_5 f_h_4_0_5 a_h_4_0_8 f_h_4_0_8 a_h_4_0_6 f_h_4_0_6 a_h_4_0_7 f_h_4_0_7 a_h_4_0_11 f_h_4_0_11 a_h_4_0_10 f_h_4_0_10 h_5_0 h_5_1 h_5_2 h_5_3 h_5_4 h_5_5 h_5_6 h_5_0_0 h_5_0_1 h_5_0_2 h_5_0_3 h_5_0_4 h_5_0_5 h_5_0_6 h_5_0_7 h_5_0_8 h_5_0_9 h_5_0_10 h_5_0_11 h_5_0_12 h_5_0_13 h1_0 h1_1 n_h1_0 a_h1_0 f_h1_0 a_h_5_0_13 f_h_5_0_13 a_h_5_0_12 f_h_5_0_12 a_h_5_0_2 f_h_5_0_2 a_h_5_0_3 f_h_5_0_3 a_h_5_0_9 f_h_5_0_9 a_h_5_0_4 f_h_5_0_4 a_h_5_0_5 f_h_5_0_5 a_h_5_0_8 f_h_5_0_8 a_h_5_0_6 f_h_5_0_6 a_h_5_0_7 f_h_5_0_7 a_h_5_0_11 f_h_5_0_11 a_h_5_0_10 f_h_5_0_10 a_h_4_5 f_h_4_5 a_h_4_6 f_h_4_6 a_h_4_1 f_h_4_1 a_h_5_5 f_h_5_5 a_h_5_6 f_h_5_6 a_h_5_1 f_h_5_1 sz (by omega) (by omega) (by omega) (by omega) (by omega) (by omega) (by omega) (by omega) (by omega) (by omega) (by omega) (by omega) (by omega) (by omega) (by omega) (by omega) (by omega) (by omega) q_f_h_4_0_4 q_f_h_4_0_5 q_f_h_5_0_4 q_f_h_5_0_5).mono (fun _ _ h => h) (fun a st o t _ hq => ?_) (fun _ h => h)
  obtain ⟨⟨r, ⟨jX_F_h_0, jX_F_h_1, jX_F_h_2, jX_F_h_3, jX_F_h_4_2, jX_F_h_4_3, jX_F_h_4_4, jX_F_h_4_0_1, jX_C_h_4_0_13, jX_C_h_4_0_12, jX_C_h_4_0_2, jX_C_h_4_0_3, jX_C_h_4_0_9, jX_C_h_4_0_4, jX_C_h_4_0_5, jX_C_h_4_0_8, jX_C_h_4_0_6, jX_C_h_4_0_7, jX_C_h_4_0_11, jX_C_h_4_0_10, jX_F_h_5_2, jX_F_h_5_3, jX_F_h_5_4, jX_F_h_5_0_1, jX_C_h_5_0_13, jX_C_h_5_0_12, jX_C_h_5_0_2, jX_C_h_5_0_3, jX_C_h_5_0_9, jX_C_h_5_0_4, jX_C_h_5_0_5, jX_C_h_5_0_8, jX_C_h_5_0_6, jX_C_h_5_0_7, jX_C_h_5_0_11, jX_C_h_5_0_10, jX_C_h_4_5, jX_C_h_4_6, jX_C_h_4_1, jX_C_h_5_5, jX_C_h_5_6, jX_C_h_5_1⟩, ho, hp, hB⟩, hF⟩ := hq
  obtain ⟨p0, p1, p2, p3, p4, p5, p6, p7, p8, p9, p10, p11, p12, p13, p14, p15, p16, p17, p18, p19⟩ := hp
  exact ⟨⟨r, [(h, .inr (2, [.int jX_F_h_0, .int jX_F_h_1, .int jX_F_h_2, .int jX_F_h_3, .ref h_4, .ref h_5])), (h_4, .inr (3, [.ref h_4_0, .ref h_4_1, .int jX_F_h_4_2, .int jX_F_h_4_3, .int jX_F_h_4_4, .ref h_4_5, .ref h_4_6])), (h_4_0, .inr (1, [.ref h0, .int jX_F_h_4_0_1, .ref h_4_0_2, .ref h_4_0_3, .ref h_4_0_4, .ref h_4_0_5, .ref h_4_0_6, .ref h_4_0_7, .ref h_4_0_8, .ref h_4_0_9, .ref h_4_0_10, .ref h_4_0_11, .ref h_4_0_12, .ref h_4_0_13])), (h0, .inr (8, [.ref h0_0, .int h0_1])), (h0_0, .inl (a_h0_0, n_h0_0, .inl f_h0_0)), (h_4_0_13, .inl (a_h_4_0_13, 480, .inl jX_C_h_4_0_13)), (h_4_0_12, .inl (a_h_4_0_12, 40, .inl jX_C_h_4_0_12)), (h_4_0_2, .inl (a_h_4_0_2, 40, .inl jX_C_h_4_0_2)), (h_4_0_3, .inl (a_h_4_0_3, 40, .inl jX_C_h_4_0_3)), (h_4_0_9, .inl (a_h_4_0_9, 40, .inl jX_C_h_4_0_9)), (h_4_0_4, .inl (a_h_4_0_4, 40, .inl jX_C_h_4_0_4)), (h_4_0_5, .inl (a_h_4_0_5, 40, .inl jX_C_h_4_0_5)), (h_4_0_8, .inl (a_h_4_0_8, 40, .inl jX_C_h_4_0_8)), (h_4_0_6, .inl (a_h_4_0_6, 40, .inl jX_C_h_4_0_6)), (h_4_0_7, .inl (a_h_4_0_7, 40, .inl jX_C_h_4_0_7)), (h_4_0_11, .inl (a_h_4_0_11, 40, .inl jX_C_h_4_0_11)), (h_4_0_10, .inl (a_h_4_0_10, 40, .inl jX_C_h_4_0_10)), (h_5, .inr (3, [.ref h_5_0, .ref h_5_1, .int jX_F_h_5_2, .int jX_F_h_5_3, .int jX_F_h_5_4, .ref h_5_5, .ref h_5_6])), (h_5_0, .inr (1, [.ref h1, .int jX_F_h_5_0_1, .ref h_5_0_2, .ref h_5_0_3, .ref h_5_0_4, .ref h_5_0_5, .ref h_5_0_6, .ref h_5_0_7, .ref h_5_0_8, .ref h_5_0_9, .ref h_5_0_10, .ref h_5_0_11, .ref h_5_0_12, .ref h_5_0_13])), (h1, .inr (8, [.ref h1_0, .int h1_1])), (h1_0, .inl (a_h1_0, n_h1_0, .inl f_h1_0)), (h_5_0_13, .inl (a_h_5_0_13, 480, .inl jX_C_h_5_0_13)), (h_5_0_12, .inl (a_h_5_0_12, 40, .inl jX_C_h_5_0_12)), (h_5_0_2, .inl (a_h_5_0_2, 40, .inl jX_C_h_5_0_2)), (h_5_0_3, .inl (a_h_5_0_3, 40, .inl jX_C_h_5_0_3)), (h_5_0_9, .inl (a_h_5_0_9, 40, .inl jX_C_h_5_0_9)), (h_5_0_4, .inl (a_h_5_0_4, 40, .inl jX_C_h_5_0_4)), (h_5_0_5, .inl (a_h_5_0_5, 40, .inl jX_C_h_5_0_5)), (h_5_0_8, .inl (a_h_5_0_8, 40, .inl jX_C_h_5_0_8)), (h_5_0_6, .inl (a_h_5_0_6, 40, .inl jX_C_h_5_0_6)), (h_5_0_7, .inl (a_h_5_0_7, 40, .inl jX_C_h_5_0_7)), (h_5_0_11, .inl (a_h_5_0_11, 40, .inl jX_C_h_5_0_11)), (h_5_0_10, .inl (a_h_5_0_10, 40, .inl jX_C_h_5_0_10)), (h_4_5, .inl (a_h_4_5, 6, .inl jX_C_h_4_5)), (h_4_6, .inl (a_h_4_6, 300, .inl jX_C_h_4_6)), (h_4_1, .inl (a_h_4_1, 100, .inl jX_C_h_4_1)), (h_5_5, .inl (a_h_5_5, 6, .inl jX_C_h_5_5)), (h_5_6, .inl (a_h_5_6, 300, .inl jX_C_h_5_6)), (h_5_1, .inl (a_h_5_1, 100, .inl jX_C_h_5_1))], ho, ⟨⟨by omega, by omega⟩, ⟨⟨rfl, (jX_F_h_0), (jX_F_h_1), (jX_F_h_2), (jX_F_h_3), rfl⟩, ⟨rfl, (jX_F_h_4_2), (jX_F_h_4_3), (jX_F_h_4_4), rfl, by first | omega | decide, by first | omega | decide | (have : (0 : Int32).toInt = 0 := (by decide); omega)⟩, ⟨rfl, (.ref h0), (jX_F_h_4_0_1), rfl, rfl, by first | omega | decide, by first | omega | decide | (have : (0 : Int32).toInt = 0 := (by decide); omega)⟩, ⟨rfl, (h0_1), rfl, by first | omega | decide, by first | omega | decide | (have : (0 : Int32).toInt = 0 := (by decide); omega)⟩, ⟨rfl, _, rfl, q_f_h0_0⟩, ⟨rfl, _, rfl, cr_all _⟩, ⟨rfl, _, rfl, cr_all _⟩, ⟨rfl, _, rfl, cr_all _⟩, ⟨rfl, _, rfl, cr_all _⟩, ⟨rfl, _, rfl, cr_all _⟩, ⟨rfl, _, rfl, p16⟩, ⟨rfl, _, rfl, p17⟩, ⟨rfl, _, rfl, cr_all _⟩, ⟨rfl, _, rfl, cr_all _⟩, ⟨rfl, _, rfl, cr_all _⟩, ⟨rfl, _, rfl, cr_all _⟩, ⟨rfl, _, rfl, cr_all _⟩, ⟨rfl, (jX_F_h_5_2), (jX_F_h_5_3), (jX_F_h_5_4), rfl, by first | omega | decide, by first | omega | decide | (have : (0 : Int32).toInt = 0 := (by decide); omega)⟩, ⟨rfl, (.ref h1), (jX_F_h_5_0_1), rfl, rfl, by first | omega | decide, by first | omega | decide | (have : (0 : Int32).toInt = 0 := (by decide); omega)⟩, ⟨rfl, (h1_1), rfl, by first | omega | decide, by first | omega | decide | (have : (0 : Int32).toInt = 0 := (by decide); omega)⟩, ⟨rfl, _, rfl, q_f_h1_0⟩, ⟨rfl, _, rfl, cr_all _⟩, ⟨rfl, _, rfl, cr_all _⟩, ⟨rfl, _, rfl, cr_all _⟩, ⟨rfl, _, rfl, cr_all _⟩, ⟨rfl, _, rfl, cr_all _⟩, ⟨rfl, _, rfl, p18⟩, ⟨rfl, _, rfl, p19⟩, ⟨rfl, _, rfl, cr_all _⟩, ⟨rfl, _, rfl, cr_all _⟩, ⟨rfl, _, rfl, cr_all _⟩, ⟨rfl, _, rfl, cr_all _⟩, ⟨rfl, _, rfl, cr_all _⟩, ⟨rfl, _, rfl, cr_all _⟩, ⟨rfl, _, rfl, cr_all _⟩, ⟨rfl, _, rfl, cr_all _⟩, ⟨rfl, _, rfl, cr_all _⟩, ⟨rfl, _, rfl, cr_all _⟩, ⟨rfl, _, rfl, cr_all _⟩, trivial⟩⟩, hB⟩, hF⟩
set_option maxHeartbeats 4000000 in
set_option maxRecDepth 100000 in
theorem wsX2_verdict (l : Launch) (D : va_G) (h h_4 h_5 : Nat) (sz : Nat) (cs : List Cl) (hs : ShL [kC h (eX2 h_4 h_5)] cs) : Met l yX2_verdict (Cond.code yX2_verdict cX2_verdict 1 (some .int) :: gG) { frames := 1, cells := 0, slots := 0, locals := 64 } (cPre D [] cs sz [.ref h]) (vp_Si (fun r => 0 ≤ r.toInt ∧ r.toInt ≤ 2)) 0 0 (fun _ => False) := by
  obtain ⟨c0, cs0, rfl, g0, hs0⟩ := ShL.cons hs
  obtain ⟨_, rfl, h_0, h_1, h_2, h_3, rfl⟩ := kC.of g0
  obtain rfl := ShL.nil hs0
  refine (sX2_verdict l D h h_0 h_1 h_2 h_3 h_4 h_5 sz  ).mono (fun _ _ h => h) (fun a st o t _ hq => ?_) (fun _ h => h)
  obtain ⟨r, ho, hp, hh⟩ := hq
  exact ⟨r, ho, (by obtain ⟨p0, p1⟩ := hp; exact ⟨by omega, by omega⟩), hh⟩
set_option maxHeartbeats 4000000 in
set_option maxRecDepth 100000 in
theorem wsX5_tryAll (l : Launch) (D : va_G) (h h0 h_2 h_3 h_4 h_5 h_6 h0_0 h0_1 h0_3 h0_4 h0_0_0 h0_1_0 : Nat) (a_h_2 a_h0_0_0 a_h_3 a_h0_1_0 : ClassId) (n_h0_0_0 n_h0_1_0 : Nat) (sz : Nat) (k_n_h0_0_0 : n_h0_0_0 ≤ 1000) (k_p_h0_0_0 : 1 ≤ n_h0_0_0) (k_n_h0_1_0 : n_h0_1_0 ≤ 1000) (k_p_h0_1_0 : 1 ≤ n_h0_1_0) (cs : List Cl) (hs : ShL [kC h (eX5 h_2 h_3 h_4 h_5 h_6), kC h0 (eX9 h0_0 h0_1 h0_3 h0_4), kC h_2 (eArr 3 (-2147483648) 2147483647 a_h_2), kC h0_0 (eX8 n_h0_0_0 h0_0_0), kC h0_0_0 (eArr n_h0_0_0 (-2147483648) 2147483647 a_h0_0_0), kC h_3 (eArr 40 (-2147483648) 2147483647 a_h_3), kC h0_1 (eX8 n_h0_1_0 h0_1_0), kC h0_1_0 (eArr n_h0_1_0 (-2147483648) 2147483647 a_h0_1_0)] cs) : Met l yX5_tryAll (Cond.code yX5_tryAll cX5_tryAll 8 none :: gG) { frames := 5, cells := 0, slots := 0, locals := 160 } (cPre D [(a_h_2, .int), (a_h0_0_0, .int), (a_h_3, .int), (a_h0_1_0, .int)] cs sz [.ref h, .ref h0]) (va_Qv (fun (u : va_W) => (True) ∧ ShL [kC h (eX5 h_2 h_3 h_4 h_5 h_6), kC h0 (eX9 h0_0 h0_1 h0_3 h0_4), kC h_2 (eArr 3 (-2147483648) 2147483647 a_h_2), kC h0_0 (eX8 n_h0_0_0 h0_0_0), kC h0_0_0 (eArr n_h0_0_0 (-2147483648) 2147483647 a_h0_0_0), kC h_3 (eArr 40 (-2147483648) 2147483647 a_h_3), kC h0_1 (eX8 n_h0_1_0 h0_1_0), kC h0_1_0 (eArr n_h0_1_0 (-2147483648) 2147483647 a_h0_1_0)] u) (fun u t => cB D (va_A cs sz) [] u t) (va_A cs sz)) 0 0 (va_A cs sz) := by
  obtain ⟨c0, cs0, rfl, g0, hs0⟩ := ShL.cons hs
  obtain ⟨_, rfl, h_0, h_1, rfl⟩ := kC.of g0
  obtain ⟨c1, cs1, rfl, g1, hs1⟩ := ShL.cons hs0
  obtain ⟨_, rfl, h0_2, rfl⟩ := kC.of g1
  obtain ⟨c2, cs2, rfl, g2, hs2⟩ := ShL.cons hs1
  obtain ⟨_, rfl, f_h_2, rfl, q_f_h_2⟩ := kC.of g2
  obtain ⟨c3, cs3, rfl, g3, hs3⟩ := ShL.cons hs2
  obtain ⟨_, rfl, h0_0_1, rfl, k3_1_lo, k3_1_hi⟩ := kC.of g3
  obtain ⟨c4, cs4, rfl, g4, hs4⟩ := ShL.cons hs3
  obtain ⟨_, rfl, f_h0_0_0, rfl, q_f_h0_0_0⟩ := kC.of g4
  obtain ⟨c5, cs5, rfl, g5, hs5⟩ := ShL.cons hs4
  obtain ⟨_, rfl, f_h_3, rfl, q_f_h_3⟩ := kC.of g5
  obtain ⟨c6, cs6, rfl, g6, hs6⟩ := ShL.cons hs5
  obtain ⟨_, rfl, h0_1_1, rfl, k6_1_lo, k6_1_hi⟩ := kC.of g6
  obtain ⟨c7, cs7, rfl, g7, hs7⟩ := ShL.cons hs6
  obtain ⟨_, rfl, f_h0_1_0, rfl, q_f_h0_1_0⟩ := kC.of g7
  obtain rfl := ShL.nil hs7
  refine (sX5_tryAll l D h h0 h_0 h_1 h_2 h_3 h_4 h_5 h_6 h0_0 h0_1 h0_2 h0_3 h0_4 a_h_2 f_h_2 h0_0_0 h0_0_1 n_h0_0_0 a_h0_0_0 f_h0_0_0 a_h_3 f_h_3 h0_1_0 h0_1_1 n_h0_1_0 a_h0_1_0 f_h0_1_0 sz (by omega) (by omega) (by omega) (by omega) (by omega) (by omega) (by omega) (by omega) ).mono (fun _ _ h => h) (fun a st o t _ hq => ?_) (fun _ h => h)
  obtain ⟨⟨⟨jX_F_h_0, jX_F_h_1, jX_C_h_2, jX_C_h_3⟩, ho, hp, hB⟩, hF⟩ := hq
  exact ⟨⟨[(h, .inr (5, [.int jX_F_h_0, .int jX_F_h_1, .ref h_2, .ref h_3, .ref h_4, .ref h_5, .ref h_6])), (h0, .inr (9, [.ref h0_0, .ref h0_1, .int h0_2, .ref h0_3, .ref h0_4])), (h_2, .inl (a_h_2, 3, .inl jX_C_h_2)), (h0_0, .inr (8, [.ref h0_0_0, .int h0_0_1])), (h0_0_0, .inl (a_h0_0_0, n_h0_0_0, .inl f_h0_0_0)), (h_3, .inl (a_h_3, 40, .inl jX_C_h_3)), (h0_1, .inr (8, [.ref h0_1_0, .int h0_1_1])), (h0_1_0, .inl (a_h0_1_0, n_h0_1_0, .inl f_h0_1_0))], ho, ⟨trivial, ⟨⟨rfl, (jX_F_h_0), (jX_F_h_1), rfl⟩, ⟨rfl, (h0_2), rfl⟩, ⟨rfl, _, rfl, cr_all _⟩, ⟨rfl, (h0_0_1), rfl, by first | omega | decide, by first | omega | decide | (have : (0 : Int32).toInt = 0 := (by decide); omega)⟩, ⟨rfl, _, rfl, q_f_h0_0_0⟩, ⟨rfl, _, rfl, cr_all _⟩, ⟨rfl, (h0_1_1), rfl, by first | omega | decide, by first | omega | decide | (have : (0 : Int32).toInt = 0 := (by decide); omega)⟩, ⟨rfl, _, rfl, q_f_h0_1_0⟩, trivial⟩⟩, hB⟩, hF⟩
set_option maxHeartbeats 4000000 in
set_option maxRecDepth 100000 in
theorem wsX5_hasForm (l : Launch) (D : va_G) (h h0 h_2 h_3 h_4 h_5 h_6 h0_0 : Nat) (a_h0_0 a_h_3 : ClassId) (n_h0_0 : Nat) (sz : Nat) (k_n_h0_0 : n_h0_0 ≤ 1000) (k_p_h0_0 : 1 ≤ n_h0_0) (cs : List Cl) (hs : ShL [kC h (eX5 h_2 h_3 h_4 h_5 h_6), kC h0 (eX8 n_h0_0 h0_0), kC h0_0 (eArr n_h0_0 (-2147483648) 2147483647 a_h0_0), kC h_3 (eArr 40 (-2147483648) 2147483647 a_h_3)] cs) : Met l yX5_hasForm (Cond.code yX5_hasForm cX5_hasForm 3 (some .boolean) :: gG) { frames := 3, cells := 0, slots := 0, locals := 112 } (cPre D [(a_h0_0, .int), (a_h_3, .int)] cs sz [.ref h, .ref h0]) (va_Qi (fun (r : Int32) (u : va_W) => (0 ≤ r.toInt ∧ r.toInt ≤ 1) ∧ ShL [kC h (eX5 h_2 h_3 h_4 h_5 h_6), kC h0 (eX8 n_h0_0 h0_0), kC h0_0 (eArr n_h0_0 (-2147483648) 2147483647 a_h0_0), kC h_3 (eArr 40 (-2147483648) 2147483647 a_h_3)] u) (fun u t => cB D (va_A cs sz) [] u t) (va_A cs sz)) 0 0 (va_A cs sz) := by
  obtain ⟨c0, cs0, rfl, g0, hs0⟩ := ShL.cons hs
  obtain ⟨_, rfl, h_0, h_1, rfl⟩ := kC.of g0
  obtain ⟨c1, cs1, rfl, g1, hs1⟩ := ShL.cons hs0
  obtain ⟨_, rfl, h0_1, rfl, k1_1_lo, k1_1_hi⟩ := kC.of g1
  obtain ⟨c2, cs2, rfl, g2, hs2⟩ := ShL.cons hs1
  obtain ⟨_, rfl, f_h0_0, rfl, q_f_h0_0⟩ := kC.of g2
  obtain ⟨c3, cs3, rfl, g3, hs3⟩ := ShL.cons hs2
  obtain ⟨_, rfl, f_h_3, rfl, q_f_h_3⟩ := kC.of g3
  obtain rfl := ShL.nil hs3
  refine (sX5_hasForm l D h h0 h_0 h_1 h_2 h_3 h_4 h_5 h_6 h0_0 h0_1 n_h0_0 a_h0_0 f_h0_0 a_h_3 f_h_3 sz (by omega) (by omega) (by omega) (by omega) ).mono (fun _ _ h => h) (fun a st o t _ hq => ?_) (fun _ h => h)
  obtain ⟨⟨r, jX_C_h_3, ho, hp, hB⟩, hF⟩ := hq
  obtain ⟨p0, p1⟩ := hp
  exact ⟨⟨r, [(h, .inr (5, [.int h_0, .int h_1, .ref h_2, .ref h_3, .ref h_4, .ref h_5, .ref h_6])), (h0, .inr (8, [.ref h0_0, .int h0_1])), (h0_0, .inl (a_h0_0, n_h0_0, .inl f_h0_0)), (h_3, .inl (a_h_3, 40, .inl jX_C_h_3))], ho, ⟨⟨by omega, by omega⟩, ⟨⟨rfl, (h_0), (h_1), rfl⟩, ⟨rfl, (h0_1), rfl, by first | omega | decide, by first | omega | decide | (have : (0 : Int32).toInt = 0 := (by decide); omega)⟩, ⟨rfl, _, rfl, q_f_h0_0⟩, ⟨rfl, _, rfl, cr_all _⟩, trivial⟩⟩, hB⟩, hF⟩
set_option maxHeartbeats 4000000 in
set_option maxRecDepth 100000 in
theorem wsX5_beginForm (l : Launch) (D : va_G) (h h0 : Nat) (a_h0 : ClassId) (n_h0 : Nat) (x1 : Int32) (sz : Nat) (k_n_h0 : n_h0 ≤ 100000) (k_p_h0 : 0 ≤ n_h0) (cs : List Cl) (hs : ShL [kC h0 (eArr n_h0 (-2147483648) 2147483647 a_h0)] cs) : Met l yX5_beginForm (Cond.code yX5_beginForm cX5_beginForm 5 none :: gG) { frames := 2, cells := 0, slots := 0, locals := 84 } (cPre D [(a_h0, .int)] cs sz [.ref h, .ref h0, .int x1]) (va_Qv (fun (u : va_W) => (True) ∧ ShL [kC h0 (eArr n_h0 (-2147483648) 2147483647 a_h0)] u) (fun u t => cB D (va_A cs sz) [] u t) (va_A cs sz)) 0 0 (va_A cs sz) := by
  obtain ⟨c0, cs0, rfl, g0, hs0⟩ := ShL.cons hs
  obtain ⟨_, rfl, f_h0, rfl, q_f_h0⟩ := kC.of g0
  obtain rfl := ShL.nil hs0
  refine (sX5_beginForm l D h h0 x1 n_h0 a_h0 f_h0 sz (by omega) (by omega) ).mono (fun _ _ h => h) (fun a st o t _ hq => ?_) (fun _ h => h)
  obtain ⟨⟨jX_C_h0, ho, hp, hB⟩, hF⟩ := hq
  exact ⟨⟨[(h0, .inl (a_h0, n_h0, .inl jX_C_h0))], ho, ⟨trivial, ⟨⟨rfl, _, rfl, cr_all _⟩, trivial⟩⟩, hB⟩, hF⟩
set_option maxHeartbeats 4000000 in
set_option maxRecDepth 100000 in
theorem wsX5_multiply (l : Launch) (D : va_G) (h h0 h1 h_2 h_3 h_4 h_5 h_6 : Nat) (a_h_6 a_h0 a_h1 : ClassId) (n_h0 n_h1 : Nat) (sz : Nat) (k_n_h0 : n_h0 ≤ 100000) (k_p_h0 : 0 ≤ n_h0) (k_n_h1 : n_h1 ≤ 100000) (k_p_h1 : 0 ≤ n_h1) (cs : List Cl) (hs : ShL [kC h (eX5 h_2 h_3 h_4 h_5 h_6), kC h_6 (eArr 512 (-2147483648) 2147483647 a_h_6), kC h0 (eArr n_h0 (-2147483648) 2147483647 a_h0), kC h1 (eArr n_h1 (-2147483648) 2147483647 a_h1)] cs) : Met l yX5_multiply (Cond.code yX5_multiply cX5_multiply 4 none :: gG) { frames := 2, cells := 0, slots := 0, locals := 96 } (cPre D [(a_h_6, .int), (a_h0, .int), (a_h1, .int)] cs sz [.ref h, .ref h0, .ref h1]) (va_Qv (fun (u : va_W) => (True) ∧ ShL [kC h (eX5 h_2 h_3 h_4 h_5 h_6), kC h_6 (eArr 512 (-2147483648) 2147483647 a_h_6), kC h0 (eArr n_h0 (-2147483648) 2147483647 a_h0), kC h1 (eArr n_h1 (-2147483648) 2147483647 a_h1)] u) (fun u t => cB D (va_A cs sz) [] u t) (va_A cs sz)) 0 0 (va_A cs sz) := by
  obtain ⟨c0, cs0, rfl, g0, hs0⟩ := ShL.cons hs
  obtain ⟨_, rfl, h_0, h_1, rfl⟩ := kC.of g0
  obtain ⟨c1, cs1, rfl, g1, hs1⟩ := ShL.cons hs0
  obtain ⟨_, rfl, f_h_6, rfl, q_f_h_6⟩ := kC.of g1
  obtain ⟨c2, cs2, rfl, g2, hs2⟩ := ShL.cons hs1
  obtain ⟨_, rfl, f_h0, rfl, q_f_h0⟩ := kC.of g2
  obtain ⟨c3, cs3, rfl, g3, hs3⟩ := ShL.cons hs2
  obtain ⟨_, rfl, f_h1, rfl, q_f_h1⟩ := kC.of g3
  obtain rfl := ShL.nil hs3
  refine (sX5_multiply l D h h0 h1 h_0 h_1 h_2 h_3 h_4 h_5 h_6 a_h_6 f_h_6 n_h0 a_h0 f_h0 n_h1 a_h1 f_h1 sz (by omega) (by omega) (by omega) (by omega) ).mono (fun _ _ h => h) (fun a st o t _ hq => ?_) (fun _ h => h)
  obtain ⟨⟨⟨jX_C_h_6, jX_C_h1⟩, ho, hp, hB⟩, hF⟩ := hq
  exact ⟨⟨[(h, .inr (5, [.int h_0, .int h_1, .ref h_2, .ref h_3, .ref h_4, .ref h_5, .ref h_6])), (h_6, .inl (a_h_6, 512, .inl jX_C_h_6)), (h0, .inl (a_h0, n_h0, .inl f_h0)), (h1, .inl (a_h1, n_h1, .inl jX_C_h1))], ho, ⟨trivial, ⟨⟨rfl, (h_0), (h_1), rfl⟩, ⟨rfl, _, rfl, cr_all _⟩, ⟨rfl, _, rfl, q_f_h0⟩, ⟨rfl, _, rfl, cr_all _⟩, trivial⟩⟩, hB⟩, hF⟩
set_option maxHeartbeats 4000000 in
set_option maxRecDepth 100000 in
theorem wsX5_addUp (l : Launch) (D : va_G) (h h0 h1 : Nat) (a_h0 a_h1 : ClassId) (n_h0 n_h1 : Nat) (x2 : Int32) (sz : Nat) (k_n_h0 : n_h0 ≤ 100000) (k_p_h0 : 0 ≤ n_h0) (k_n_h1 : n_h1 ≤ 100000) (k_p_h1 : 0 ≤ n_h1) (cs : List Cl) (hs : ShL [kC h0 (eArr n_h0 (-2147483648) 2147483647 a_h0), kC h1 (eArr n_h1 (-2147483648) 2147483647 a_h1)] cs) : Met l yX5_addUp (Cond.code yX5_addUp cX5_addUp 5 none :: gG) { frames := 2, cells := 0, slots := 0, locals := 87 } (cPre D [(a_h0, .int), (a_h1, .int)] cs sz [.ref h, .ref h0, .ref h1, .int x2]) (va_Qv (fun (u : va_W) => (True) ∧ ShL [kC h0 (eArr n_h0 (-2147483648) 2147483647 a_h0), kC h1 (eArr n_h1 (-2147483648) 2147483647 a_h1)] u) (fun u t => cB D (va_A cs sz) [] u t) (va_A cs sz)) 0 0 (va_A cs sz) := by
  obtain ⟨c0, cs0, rfl, g0, hs0⟩ := ShL.cons hs
  obtain ⟨_, rfl, f_h0, rfl, q_f_h0⟩ := kC.of g0
  obtain ⟨c1, cs1, rfl, g1, hs1⟩ := ShL.cons hs0
  obtain ⟨_, rfl, f_h1, rfl, q_f_h1⟩ := kC.of g1
  obtain rfl := ShL.nil hs1
  refine (sX5_addUp l D h h0 h1 x2 n_h0 a_h0 f_h0 n_h1 a_h1 f_h1 sz (by omega) (by omega) (by omega) (by omega) ).mono (fun _ _ h => h) (fun a st o t _ hq => ?_) (fun _ h => h)
  obtain ⟨⟨jX_C_h1, ho, hp, hB⟩, hF⟩ := hq
  exact ⟨⟨[(h0, .inl (a_h0, n_h0, .inl f_h0)), (h1, .inl (a_h1, n_h1, .inl jX_C_h1))], ho, ⟨trivial, ⟨⟨rfl, _, rfl, q_f_h0⟩, ⟨rfl, _, rfl, cr_all _⟩, trivial⟩⟩, hB⟩, hF⟩
set_option maxHeartbeats 4000000 in
set_option maxRecDepth 100000 in
theorem wsX9_countIn (l : Launch) (D : va_G) (h h0 h0_0 h_0 h_1 h_3 h_4 h_0_0 : Nat) (a_h0_0 a_h_3 a_h_4 a_h_0_0 : ClassId) (n_h0_0 n_h_0_0 : Nat) (sz : Nat) (k_n_h0_0 : n_h0_0 ≤ 1000) (k_p_h0_0 : 1 ≤ n_h0_0) (k_n_h_0_0 : n_h_0_0 ≤ 1000) (k_p_h_0_0 : 1 ≤ n_h_0_0) (cs : List Cl) (hs : ShL [kC h0 (eX8 n_h0_0 h0_0), kC h0_0 (eArr n_h0_0 (-2147483648) 2147483647 a_h0_0), kC h (eX9 h_0 h_1 h_3 h_4), kC h_3 (eArr 3 (-1) 5000 a_h_3), kC h_4 (eArr 3 (-1) 5000 a_h_4), kC h_0 (eX8 n_h_0_0 h_0_0), kC h_0_0 (eArr n_h_0_0 (-2147483648) 2147483647 a_h_0_0)] cs) : Met l yX9_countIn (Cond.code yX9_countIn cX9_countIn 4 (some .int) :: gG) { frames := 4, cells := 0, slots := 0, locals := 139 } (cPre D [(a_h0_0, .int), (a_h_3, .int), (a_h_4, .int), (a_h_0_0, .int)] cs sz [.ref h, .ref h0]) (va_Qi (fun (r : Int32) (u : va_W) => (0 ≤ r.toInt ∧ r.toInt ≤ 1000) ∧ ShL [kC h0 (eX8 n_h0_0 h0_0), kC h0_0 (eArr n_h0_0 (-2147483648) 2147483647 a_h0_0), kC h (eX9 h_0 h_1 h_3 h_4), kC h_3 (eArr 3 (-1) 5000 a_h_3), kC h_4 (eArr 3 (-1) 5000 a_h_4), kC h_0 (eX8 n_h_0_0 h_0_0), kC h_0_0 (eArr n_h_0_0 (-2147483648) 2147483647 a_h_0_0)] u) (fun u t => cB D (va_A cs sz) [] u t) (va_A cs sz)) 0 0 (va_A cs sz) := by
  obtain ⟨c0, cs0, rfl, g0, hs0⟩ := ShL.cons hs
  obtain ⟨_, rfl, h0_1, rfl, k0_1_lo, k0_1_hi⟩ := kC.of g0
  obtain ⟨c1, cs1, rfl, g1, hs1⟩ := ShL.cons hs0
  obtain ⟨_, rfl, f_h0_0, rfl, q_f_h0_0⟩ := kC.of g1
  obtain ⟨c2, cs2, rfl, g2, hs2⟩ := ShL.cons hs1
  obtain ⟨_, rfl, h_2, rfl⟩ := kC.of g2
  obtain ⟨c3, cs3, rfl, g3, hs3⟩ := ShL.cons hs2
  obtain ⟨_, rfl, f_h_3, rfl, q_f_h_3⟩ := kC.of g3
  obtain ⟨c4, cs4, rfl, g4, hs4⟩ := ShL.cons hs3
  obtain ⟨_, rfl, f_h_4, rfl, q_f_h_4⟩ := kC.of g4
  obtain ⟨c5, cs5, rfl, g5, hs5⟩ := ShL.cons hs4
  obtain ⟨_, rfl, h_0_1, rfl, k5_1_lo, k5_1_hi⟩ := kC.of g5
  obtain ⟨c6, cs6, rfl, g6, hs6⟩ := ShL.cons hs5
  obtain ⟨_, rfl, f_h_0_0, rfl, q_f_h_0_0⟩ := kC.of g6
  obtain rfl := ShL.nil hs6
  refine (sX9_countIn l D h h0 h0_0 h0_1 n_h0_0 a_h0_0 f_h0_0 h_0 h_1 h_2 h_3 h_4 a_h_3 f_h_3 a_h_4 f_h_4 h_0_0 h_0_1 n_h_0_0 a_h_0_0 f_h_0_0 sz (by omega) (by omega) (by omega) (by omega) (by omega) (by omega) (by omega) (by omega) q_f_h_3 q_f_h_4).mono (fun _ _ h => h) (fun a st o t _ hq => ?_) (fun _ h => h)
  obtain ⟨⟨r, ⟨jX_C_h_3, jX_C_h_4⟩, ho, hp, hB⟩, hF⟩ := hq
  obtain ⟨p0, p1, p2, p3, p4, p5⟩ := hp
  exact ⟨⟨r, [(h0, .inr (8, [.ref h0_0, .int h0_1])), (h0_0, .inl (a_h0_0, n_h0_0, .inl f_h0_0)), (h, .inr (9, [.ref h_0, .ref h_1, .int h_2, .ref h_3, .ref h_4])), (h_3, .inl (a_h_3, 3, .inl jX_C_h_3)), (h_4, .inl (a_h_4, 3, .inl jX_C_h_4)), (h_0, .inr (8, [.ref h_0_0, .int h_0_1])), (h_0_0, .inl (a_h_0_0, n_h_0_0, .inl f_h_0_0))], ho, ⟨⟨by omega, by omega⟩, ⟨⟨rfl, (h0_1), rfl, by first | omega | decide, by first | omega | decide | (have : (0 : Int32).toInt = 0 := (by decide); omega)⟩, ⟨rfl, _, rfl, q_f_h0_0⟩, ⟨rfl, (h_2), rfl⟩, ⟨rfl, _, rfl, p4⟩, ⟨rfl, _, rfl, p5⟩, ⟨rfl, (h_0_1), rfl, by first | omega | decide, by first | omega | decide | (have : (0 : Int32).toInt = 0 := (by decide); omega)⟩, ⟨rfl, _, rfl, q_f_h_0_0⟩, trivial⟩⟩, hB⟩, hF⟩
set_option maxHeartbeats 4000000 in
set_option maxRecDepth 100000 in
theorem wsX9_placeIn (l : Launch) (D : va_G) (h h0 h0_0 h_0 h_1 h_3 h_4 h_0_0 : Nat) (a_h0_0 a_h_3 a_h_4 a_h_0_0 : ClassId) (n_h0_0 n_h_0_0 : Nat) (x1 : Int32) (sz : Nat) (k_n_h0_0 : n_h0_0 ≤ 1000) (k_p_h0_0 : 1 ≤ n_h0_0) (k_n_h_0_0 : n_h_0_0 ≤ 1000) (k_p_h_0_0 : 1 ≤ n_h_0_0) (cs : List Cl) (hs : ShL [kC h0 (eX8 n_h0_0 h0_0), kC h0_0 (eArr n_h0_0 (-2147483648) 2147483647 a_h0_0), kC h (eX9 h_0 h_1 h_3 h_4), kC h_3 (eArr 3 (-1) 5000 a_h_3), kC h_4 (eArr 3 (-1) 5000 a_h_4), kC h_0 (eX8 n_h_0_0 h_0_0), kC h_0_0 (eArr n_h_0_0 (-2147483648) 2147483647 a_h_0_0)] cs) : Met l yX9_placeIn (Cond.code yX9_placeIn cX9_placeIn 5 (some .int) :: gG) { frames := 4, cells := 0, slots := 0, locals := 139 } (cPre D [(a_h0_0, .int), (a_h_3, .int), (a_h_4, .int), (a_h_0_0, .int)] cs sz [.ref h, .ref h0, .int x1]) (va_Qi (fun (r : Int32) (u : va_W) => (-1 ≤ r.toInt ∧ r.toInt ≤ 999) ∧ ShL [kC h0 (eX8 n_h0_0 h0_0), kC h0_0 (eArr n_h0_0 (-2147483648) 2147483647 a_h0_0), kC h (eX9 h_0 h_1 h_3 h_4), kC h_3 (eArr 3 (-1) 5000 a_h_3), kC h_4 (eArr 3 (-1) 5000 a_h_4), kC h_0 (eX8 n_h_0_0 h_0_0), kC h_0_0 (eArr n_h_0_0 (-2147483648) 2147483647 a_h_0_0)] u) (fun u t => cB D (va_A cs sz) [] u t) (va_A cs sz)) 0 0 (va_A cs sz) := by
  obtain ⟨c0, cs0, rfl, g0, hs0⟩ := ShL.cons hs
  obtain ⟨_, rfl, h0_1, rfl, k0_1_lo, k0_1_hi⟩ := kC.of g0
  obtain ⟨c1, cs1, rfl, g1, hs1⟩ := ShL.cons hs0
  obtain ⟨_, rfl, f_h0_0, rfl, q_f_h0_0⟩ := kC.of g1
  obtain ⟨c2, cs2, rfl, g2, hs2⟩ := ShL.cons hs1
  obtain ⟨_, rfl, h_2, rfl⟩ := kC.of g2
  obtain ⟨c3, cs3, rfl, g3, hs3⟩ := ShL.cons hs2
  obtain ⟨_, rfl, f_h_3, rfl, q_f_h_3⟩ := kC.of g3
  obtain ⟨c4, cs4, rfl, g4, hs4⟩ := ShL.cons hs3
  obtain ⟨_, rfl, f_h_4, rfl, q_f_h_4⟩ := kC.of g4
  obtain ⟨c5, cs5, rfl, g5, hs5⟩ := ShL.cons hs4
  obtain ⟨_, rfl, h_0_1, rfl, k5_1_lo, k5_1_hi⟩ := kC.of g5
  obtain ⟨c6, cs6, rfl, g6, hs6⟩ := ShL.cons hs5
  obtain ⟨_, rfl, f_h_0_0, rfl, q_f_h_0_0⟩ := kC.of g6
  obtain rfl := ShL.nil hs6
  refine (sX9_placeIn l D h h0 x1 h0_0 h0_1 n_h0_0 a_h0_0 f_h0_0 h_0 h_1 h_2 h_3 h_4 a_h_3 f_h_3 a_h_4 f_h_4 h_0_0 h_0_1 n_h_0_0 a_h_0_0 f_h_0_0 sz (by omega) (by omega) (by omega) (by omega) (by omega) (by omega) (by omega) (by omega) q_f_h_3 q_f_h_4).mono (fun _ _ h => h) (fun a st o t _ hq => ?_) (fun _ h => h)
  obtain ⟨⟨r, ⟨jX_C_h_3, jX_C_h_4⟩, ho, hp, hB⟩, hF⟩ := hq
  obtain ⟨p0, p1, p2, p3, p4, p5⟩ := hp
  exact ⟨⟨r, [(h0, .inr (8, [.ref h0_0, .int h0_1])), (h0_0, .inl (a_h0_0, n_h0_0, .inl f_h0_0)), (h, .inr (9, [.ref h_0, .ref h_1, .int h_2, .ref h_3, .ref h_4])), (h_3, .inl (a_h_3, 3, .inl jX_C_h_3)), (h_4, .inl (a_h_4, 3, .inl jX_C_h_4)), (h_0, .inr (8, [.ref h_0_0, .int h_0_1])), (h_0_0, .inl (a_h_0_0, n_h_0_0, .inl f_h_0_0))], ho, ⟨⟨by omega, by omega⟩, ⟨⟨rfl, (h0_1), rfl, by first | omega | decide, by first | omega | decide | (have : (0 : Int32).toInt = 0 := (by decide); omega)⟩, ⟨rfl, _, rfl, q_f_h0_0⟩, ⟨rfl, (h_2), rfl⟩, ⟨rfl, _, rfl, p4⟩, ⟨rfl, _, rfl, p5⟩, ⟨rfl, (h_0_1), rfl, by first | omega | decide, by first | omega | decide | (have : (0 : Int32).toInt = 0 := (by decide); omega)⟩, ⟨rfl, _, rfl, q_f_h_0_0⟩, trivial⟩⟩, hB⟩, hF⟩
set_option maxHeartbeats 4000000 in
set_option maxRecDepth 100000 in
theorem wsX9_rewrite (l : Launch) (D : va_G) (h h0 h2 h_0 h_1 h_3 h_4 h0_0 h_0_0 h_1_0 h2_0 : Nat) (a_h0_0 a_h_3 a_h_4 a_h_0_0 a_h_1_0 a_h2_0 : ClassId) (n_h0_0 n_h_0_0 n_h_1_0 n_h2_0 : Nat) (x1 : Int32) (sz : Nat) (k_x1_lo : 0 ≤ x1.toInt) (k_x1_hi : x1.toInt ≤ 1000) (k_n_h0_0 : n_h0_0 ≤ 1000) (k_p_h0_0 : 1 ≤ n_h0_0) (k_n_h_0_0 : n_h_0_0 ≤ 1000) (k_p_h_0_0 : 1 ≤ n_h_0_0) (k_n_h_1_0 : n_h_1_0 ≤ 1000) (k_p_h_1_0 : 1 ≤ n_h_1_0) (k_n_h2_0 : n_h2_0 ≤ 1000) (k_p_h2_0 : 1 ≤ n_h2_0) (cs : List Cl) (hs : ShL [kC h (eX9 h_0 h_1 h_3 h_4), kC h0 (eX8 n_h0_0 h0_0), kC h0_0 (eArr n_h0_0 (-2147483648) 2147483647 a_h0_0), kC h_3 (eArr 3 (-1) 5000 a_h_3), kC h_4 (eArr 3 (-1) 5000 a_h_4), kC h_0 (eX8 n_h_0_0 h_0_0), kC h_0_0 (eArr n_h_0_0 (-2147483648) 2147483647 a_h_0_0), kC h_1 (eX8 n_h_1_0 h_1_0), kC h_1_0 (eArr n_h_1_0 (-2147483648) 2147483647 a_h_1_0), kC h2 (eX8 n_h2_0 h2_0), kC h2_0 (eArr n_h2_0 (-2147483648) 2147483647 a_h2_0)] cs) : Met l yX9_rewrite (Cond.code yX9_rewrite cX9_rewrite 7 (some .boolean) :: gG) { frames := 4, cells := 0, slots := 0, locals := 139 } (cPre D [(a_h0_0, .int), (a_h_3, .int), (a_h_4, .int), (a_h_0_0, .int), (a_h_1_0, .int), (a_h2_0, .int)] cs sz [.ref h, .ref h0, .int x1, .ref h2]) (va_Qi (fun (r : Int32) (u : va_W) => (0 ≤ r.toInt ∧ r.toInt ≤ 1) ∧ ShL [kC h (eX9 h_0 h_1 h_3 h_4), kC h0 (eX8 n_h0_0 h0_0), kC h0_0 (eArr n_h0_0 (-2147483648) 2147483647 a_h0_0), kC h_3 (eArr 3 (-1) 5000 a_h_3), kC h_4 (eArr 3 (-1) 5000 a_h_4), kC h_0 (eX8 n_h_0_0 h_0_0), kC h_0_0 (eArr n_h_0_0 (-2147483648) 2147483647 a_h_0_0), kC h_1 (eX8 n_h_1_0 h_1_0), kC h_1_0 (eArr n_h_1_0 (-2147483648) 2147483647 a_h_1_0), kC h2 (eX8 n_h2_0 h2_0), kC h2_0 (eArr n_h2_0 (-2147483648) 2147483647 a_h2_0)] u) (fun u t => cB D (va_A cs sz) [] u t) (va_A cs sz)) 0 0 (va_A cs sz) := by
  obtain ⟨c0, cs0, rfl, g0, hs0⟩ := ShL.cons hs
  obtain ⟨_, rfl, h_2, rfl⟩ := kC.of g0
  obtain ⟨c1, cs1, rfl, g1, hs1⟩ := ShL.cons hs0
  obtain ⟨_, rfl, h0_1, rfl, k1_1_lo, k1_1_hi⟩ := kC.of g1
  obtain ⟨c2, cs2, rfl, g2, hs2⟩ := ShL.cons hs1
  obtain ⟨_, rfl, f_h0_0, rfl, q_f_h0_0⟩ := kC.of g2
  obtain ⟨c3, cs3, rfl, g3, hs3⟩ := ShL.cons hs2
  obtain ⟨_, rfl, f_h_3, rfl, q_f_h_3⟩ := kC.of g3
  obtain ⟨c4, cs4, rfl, g4, hs4⟩ := ShL.cons hs3
  obtain ⟨_, rfl, f_h_4, rfl, q_f_h_4⟩ := kC.of g4
  obtain ⟨c5, cs5, rfl, g5, hs5⟩ := ShL.cons hs4
  obtain ⟨_, rfl, h_0_1, rfl, k5_1_lo, k5_1_hi⟩ := kC.of g5
  obtain ⟨c6, cs6, rfl, g6, hs6⟩ := ShL.cons hs5
  obtain ⟨_, rfl, f_h_0_0, rfl, q_f_h_0_0⟩ := kC.of g6
  obtain ⟨c7, cs7, rfl, g7, hs7⟩ := ShL.cons hs6
  obtain ⟨_, rfl, h_1_1, rfl, k7_1_lo, k7_1_hi⟩ := kC.of g7
  obtain ⟨c8, cs8, rfl, g8, hs8⟩ := ShL.cons hs7
  obtain ⟨_, rfl, f_h_1_0, rfl, q_f_h_1_0⟩ := kC.of g8
  obtain ⟨c9, cs9, rfl, g9, hs9⟩ := ShL.cons hs8
  obtain ⟨_, rfl, h2_1, rfl, k9_1_lo, k9_1_hi⟩ := kC.of g9
  obtain ⟨c10, cs10, rfl, g10, hs10⟩ := ShL.cons hs9
  obtain ⟨_, rfl, f_h2_0, rfl, q_f_h2_0⟩ := kC.of g10
  obtain rfl := ShL.nil hs10
  refine (sX9_rewrite l D h h0 x1 h2 h_0 h_1 h_2 h_3 h_4 h0_0 h0_1 n_h0_0 a_h0_0 f_h0_0 a_h_3 f_h_3 a_h_4 f_h_4 h_0_0 h_0_1 n_h_0_0 a_h_0_0 f_h_0_0 h_1_0 h_1_1 n_h_1_0 a_h_1_0 f_h_1_0 h2_0 h2_1 n_h2_0 a_h2_0 f_h2_0 sz (by omega) (by omega) (by omega) (by omega) (by omega) (by omega) (by omega) (by omega) (by omega) (by omega) (by omega) (by omega) (by omega) (by omega) (by omega) (by omega) (by omega) (by omega) q_f_h_3 q_f_h_4).mono (fun _ _ h => h) (fun a st o t _ hq => ?_) (fun _ h => h)
  obtain ⟨⟨r, ⟨jX_C_h_3, jX_C_h_4, jX_F_h2_1, jX_C_h2_0⟩, ho, hp, hB⟩, hF⟩ := hq
  obtain ⟨p0, p1, p2, p3, p4, p5, p6⟩ := hp
  exact ⟨⟨r, [(h, .inr (9, [.ref h_0, .ref h_1, .int h_2, .ref h_3, .ref h_4])), (h0, .inr (8, [.ref h0_0, .int h0_1])), (h0_0, .inl (a_h0_0, n_h0_0, .inl f_h0_0)), (h_3, .inl (a_h_3, 3, .inl jX_C_h_3)), (h_4, .inl (a_h_4, 3, .inl jX_C_h_4)), (h_0, .inr (8, [.ref h_0_0, .int h_0_1])), (h_0_0, .inl (a_h_0_0, n_h_0_0, .inl f_h_0_0)), (h_1, .inr (8, [.ref h_1_0, .int h_1_1])), (h_1_0, .inl (a_h_1_0, n_h_1_0, .inl f_h_1_0)), (h2, .inr (8, [.ref h2_0, .int jX_F_h2_1])), (h2_0, .inl (a_h2_0, n_h2_0, .inl jX_C_h2_0))], ho, ⟨⟨by omega, by omega⟩, ⟨⟨rfl, (h_2), rfl⟩, ⟨rfl, (h0_1), rfl, by first | omega | decide, by first | omega | decide | (have : (0 : Int32).toInt = 0 := (by decide); omega)⟩, ⟨rfl, _, rfl, q_f_h0_0⟩, ⟨rfl, _, rfl, p5⟩, ⟨rfl, _, rfl, p6⟩, ⟨rfl, (h_0_1), rfl, by first | omega | decide, by first | omega | decide | (have : (0 : Int32).toInt = 0 := (by decide); omega)⟩, ⟨rfl, _, rfl, q_f_h_0_0⟩, ⟨rfl, (h_1_1), rfl, by first | omega | decide, by first | omega | decide | (have : (0 : Int32).toInt = 0 := (by decide); omega)⟩, ⟨rfl, _, rfl, q_f_h_1_0⟩, ⟨rfl, (jX_F_h2_1), rfl, by first | omega | decide, by first | omega | decide | (have : (0 : Int32).toInt = 0 := (by decide); omega)⟩, ⟨rfl, _, rfl, cr_all _⟩, trivial⟩⟩, hB⟩, hF⟩
set_option maxHeartbeats 4000000 in
set_option maxRecDepth 100000 in
theorem wsX0_fold (l : Launch) (D : va_G) (h h0 h_0 h_1 h0_0 : Nat) (a_h0_0 : ClassId) (n_h0_0 : Nat) (sz : Nat) (k_n_h0_0 : n_h0_0 ≤ 1000) (k_p_h0_0 : 1 ≤ n_h0_0) (cs : List Cl) (hs : ShL [kC h (eX0 h_0 h_1), kC h0 (eX8 n_h0_0 h0_0), kC h0_0 (eArr n_h0_0 (-2147483648) 2147483647 a_h0_0)] cs) : Met l yX0_fold (Cond.code yX0_fold cX0_fold 4 none :: gG) { frames := 4, cells := 0, slots := 0, locals := 143 } (cPre D [(a_h0_0, .int)] cs sz [.ref h, .ref h0]) (va_Qv (fun (u : va_W) => (True) ∧ ShL [kC h (eX0 h_0 h_1), kC h0 (eX8 n_h0_0 h0_0), kC h0_0 (eArr n_h0_0 (-2147483648) 2147483647 a_h0_0)] u) (fun u t => cB D (va_A cs sz) [] u t) (va_A cs sz)) 0 0 (va_A cs sz) := by
  obtain ⟨c0, cs0, rfl, g0, hs0⟩ := ShL.cons hs
  obtain ⟨_, rfl, rfl⟩ := kC.of g0
  obtain ⟨c1, cs1, rfl, g1, hs1⟩ := ShL.cons hs0
  obtain ⟨_, rfl, h0_1, rfl, k1_1_lo, k1_1_hi⟩ := kC.of g1
  obtain ⟨c2, cs2, rfl, g2, hs2⟩ := ShL.cons hs1
  obtain ⟨_, rfl, f_h0_0, rfl, q_f_h0_0⟩ := kC.of g2
  obtain rfl := ShL.nil hs2
  refine (sX0_fold l D h h0 h_0 h_1 h0_0 h0_1 n_h0_0 a_h0_0 f_h0_0 sz (by omega) (by omega) (by omega) (by omega) ).mono (fun _ _ h => h) (fun a st o t _ hq => ?_) (fun _ h => h)
  obtain ⟨⟨⟨jX_F_h0_1, jX_C_h0_0⟩, ho, hp, hB⟩, hF⟩ := hq
  obtain ⟨p0, p1, p2, p3⟩ := hp
  exact ⟨⟨[(h, .inr (0, [.ref h_0, .ref h_1])), (h0, .inr (8, [.ref h0_0, .int jX_F_h0_1])), (h0_0, .inl (a_h0_0, n_h0_0, .inl jX_C_h0_0))], ho, ⟨trivial, ⟨⟨rfl, rfl⟩, ⟨rfl, (jX_F_h0_1), rfl, by first | omega | decide, by first | omega | decide | (have : (0 : Int32).toInt = 0 := (by decide); omega)⟩, ⟨rfl, _, rfl, cr_all _⟩, trivial⟩⟩, hB⟩, hF⟩
set_option maxHeartbeats 4000000 in
set_option maxRecDepth 100000 in
theorem wsX0_dead (l : Launch) (D : va_G) (h h0 h_0 h_1 h_1_2 h_1_3 h_1_4 h_1_5 h_1_6 h_1_7 h_1_8 h_1_9 h_1_10 h_1_11 h_1_12 h_1_13 h0_0 : Nat) (a_h0_0 a_h_1_13 a_h_1_12 a_h_1_2 a_h_1_3 a_h_1_9 a_h_1_4 a_h_1_5 a_h_1_8 a_h_1_6 a_h_1_7 a_h_1_11 a_h_1_10 : ClassId) (n_h0_0 : Nat) (sz : Nat) (k_n_h0_0 : n_h0_0 ≤ 1000) (k_p_h0_0 : 1 ≤ n_h0_0) (cs : List Cl) (hs : ShL [kC h (eX0 h_0 h_1), kC h_1 (eX1 PTr h_1_2 h_1_3 h_1_4 h_1_5 h_1_6 h_1_7 h_1_8 h_1_9 h_1_10 h_1_11 h_1_12 h_1_13), kC h0 (eX8 n_h0_0 h0_0), kC h0_0 (eArr n_h0_0 (-2147483648) 2147483647 a_h0_0), kC h_1_13 (eArr 480 (-2147483648) 2147483647 a_h_1_13), kC h_1_12 (eArr 40 (-2147483648) 2147483647 a_h_1_12), kC h_1_2 (eArr 40 (-2147483648) 2147483647 a_h_1_2), kC h_1_3 (eArr 40 (-2147483648) 2147483647 a_h_1_3), kC h_1_9 (eArr 40 (-2147483648) 2147483647 a_h_1_9), kC h_1_4 (eArr 40 (0) 2000 a_h_1_4), kC h_1_5 (eArr 40 (0) 2000 a_h_1_5), kC h_1_8 (eArr 40 (-2147483648) 2147483647 a_h_1_8), kC h_1_6 (eArr 40 (-2147483648) 2147483647 a_h_1_6), kC h_1_7 (eArr 40 (-2147483648) 2147483647 a_h_1_7), kC h_1_11 (eArr 40 (-2147483648) 2147483647 a_h_1_11), kC h_1_10 (eArr 40 (-2147483648) 2147483647 a_h_1_10)] cs) : Met l yX0_dead (Cond.code yX0_dead cX0_dead 6 none :: gG) { frames := 5, cells := 0, slots := 0, locals := 152 } (cPre D [(a_h0_0, .int), (a_h_1_13, .int), (a_h_1_12, .int), (a_h_1_2, .int), (a_h_1_3, .int), (a_h_1_9, .int), (a_h_1_4, .int), (a_h_1_5, .int), (a_h_1_8, .int), (a_h_1_6, .int), (a_h_1_7, .int), (a_h_1_11, .int), (a_h_1_10, .int)] cs sz [.ref h, .ref h0]) (va_Qv (fun (u : va_W) => (True) ∧ ShL [kC h (eX0 h_0 h_1), kC h_1 (eX1 PTr h_1_2 h_1_3 h_1_4 h_1_5 h_1_6 h_1_7 h_1_8 h_1_9 h_1_10 h_1_11 h_1_12 h_1_13), kC h0 (eX8 n_h0_0 h0_0), kC h0_0 (eArr n_h0_0 (-2147483648) 2147483647 a_h0_0), kC h_1_13 (eArr 480 (-2147483648) 2147483647 a_h_1_13), kC h_1_12 (eArr 40 (-2147483648) 2147483647 a_h_1_12), kC h_1_2 (eArr 40 (-2147483648) 2147483647 a_h_1_2), kC h_1_3 (eArr 40 (-2147483648) 2147483647 a_h_1_3), kC h_1_9 (eArr 40 (-2147483648) 2147483647 a_h_1_9), kC h_1_4 (eArr 40 (0) 2000 a_h_1_4), kC h_1_5 (eArr 40 (0) 2000 a_h_1_5), kC h_1_8 (eArr 40 (-2147483648) 2147483647 a_h_1_8), kC h_1_6 (eArr 40 (-2147483648) 2147483647 a_h_1_6), kC h_1_7 (eArr 40 (-2147483648) 2147483647 a_h_1_7), kC h_1_11 (eArr 40 (-2147483648) 2147483647 a_h_1_11), kC h_1_10 (eArr 40 (-2147483648) 2147483647 a_h_1_10)] u) (fun u t => cB D (va_A cs sz) [] u t) (va_A cs sz)) 0 0 (va_A cs sz) := by
  obtain ⟨c0, cs0, rfl, g0, hs0⟩ := ShL.cons hs
  obtain ⟨_, rfl, rfl⟩ := kC.of g0
  obtain ⟨c1, cs1, rfl, g1, hs1⟩ := ShL.cons hs0
  obtain ⟨_, rfl, h_1_0, h_1_1, rfl, _, k1_1_lo, k1_1_hi⟩ := kC.of g1
  obtain ⟨c2, cs2, rfl, g2, hs2⟩ := ShL.cons hs1
  obtain ⟨_, rfl, h0_1, rfl, k2_1_lo, k2_1_hi⟩ := kC.of g2
  obtain ⟨c3, cs3, rfl, g3, hs3⟩ := ShL.cons hs2
  obtain ⟨_, rfl, f_h0_0, rfl, q_f_h0_0⟩ := kC.of g3
  obtain ⟨c4, cs4, rfl, g4, hs4⟩ := ShL.cons hs3
  obtain ⟨_, rfl, f_h_1_13, rfl, q_f_h_1_13⟩ := kC.of g4
  obtain ⟨c5, cs5, rfl, g5, hs5⟩ := ShL.cons hs4
  obtain ⟨_, rfl, f_h_1_12, rfl, q_f_h_1_12⟩ := kC.of g5
  obtain ⟨c6, cs6, rfl, g6, hs6⟩ := ShL.cons hs5
  obtain ⟨_, rfl, f_h_1_2, rfl, q_f_h_1_2⟩ := kC.of g6
  obtain ⟨c7, cs7, rfl, g7, hs7⟩ := ShL.cons hs6
  obtain ⟨_, rfl, f_h_1_3, rfl, q_f_h_1_3⟩ := kC.of g7
  obtain ⟨c8, cs8, rfl, g8, hs8⟩ := ShL.cons hs7
  obtain ⟨_, rfl, f_h_1_9, rfl, q_f_h_1_9⟩ := kC.of g8
  obtain ⟨c9, cs9, rfl, g9, hs9⟩ := ShL.cons hs8
  obtain ⟨_, rfl, f_h_1_4, rfl, q_f_h_1_4⟩ := kC.of g9
  obtain ⟨c10, cs10, rfl, g10, hs10⟩ := ShL.cons hs9
  obtain ⟨_, rfl, f_h_1_5, rfl, q_f_h_1_5⟩ := kC.of g10
  obtain ⟨c11, cs11, rfl, g11, hs11⟩ := ShL.cons hs10
  obtain ⟨_, rfl, f_h_1_8, rfl, q_f_h_1_8⟩ := kC.of g11
  obtain ⟨c12, cs12, rfl, g12, hs12⟩ := ShL.cons hs11
  obtain ⟨_, rfl, f_h_1_6, rfl, q_f_h_1_6⟩ := kC.of g12
  obtain ⟨c13, cs13, rfl, g13, hs13⟩ := ShL.cons hs12
  obtain ⟨_, rfl, f_h_1_7, rfl, q_f_h_1_7⟩ := kC.of g13
  obtain ⟨c14, cs14, rfl, g14, hs14⟩ := ShL.cons hs13
  obtain ⟨_, rfl, f_h_1_11, rfl, q_f_h_1_11⟩ := kC.of g14
  obtain ⟨c15, cs15, rfl, g15, hs15⟩ := ShL.cons hs14
  obtain ⟨_, rfl, f_h_1_10, rfl, q_f_h_1_10⟩ := kC.of g15
  obtain rfl := ShL.nil hs15
  refine (sX0_dead l D h h0 h_0 h_1 h_1_0 h_1_1 h_1_2 h_1_3 h_1_4 h_1_5 h_1_6 h_1_7 h_1_8 h_1_9 h_1_10 h_1_11 h_1_12 h_1_13 h0_0 h0_1 n_h0_0 a_h0_0 f_h0_0 a_h_1_13 f_h_1_13 a_h_1_12 f_h_1_12 a_h_1_2 f_h_1_2 a_h_1_3 f_h_1_3 a_h_1_9 f_h_1_9 a_h_1_4 f_h_1_4 a_h_1_5 f_h_1_5 a_h_1_8 f_h_1_8 a_h_1_6 f_h_1_6 a_h_1_7 f_h_1_7 a_h_1_11 f_h_1_11 a_h_1_10 f_h_1_10 sz (by omega) (by omega) (by omega) (by omega) (by omega) (by omega) q_f_h_1_4 q_f_h_1_5).mono (fun _ _ h => h) (fun a st o t _ hq => ?_) (fun _ h => h)
  obtain ⟨⟨⟨jX_F_h_1_0, jX_F_h_1_1, jX_F_h0_1, jX_C_h0_0, jX_C_h_1_13, jX_C_h_1_12, jX_C_h_1_2, jX_C_h_1_3, jX_C_h_1_9, jX_C_h_1_4, jX_C_h_1_5, jX_C_h_1_8, jX_C_h_1_6, jX_C_h_1_7, jX_C_h_1_11, jX_C_h_1_10⟩, ho, hp, hB⟩, hF⟩ := hq
  obtain ⟨p0, p1, p2, p3, p4, p5, p6, p7⟩ := hp
  exact ⟨⟨[(h, .inr (0, [.ref h_0, .ref h_1])), (h_1, .inr (1, [jX_F_h_1_0, .int jX_F_h_1_1, .ref h_1_2, .ref h_1_3, .ref h_1_4, .ref h_1_5, .ref h_1_6, .ref h_1_7, .ref h_1_8, .ref h_1_9, .ref h_1_10, .ref h_1_11, .ref h_1_12, .ref h_1_13])), (h0, .inr (8, [.ref h0_0, .int jX_F_h0_1])), (h0_0, .inl (a_h0_0, n_h0_0, .inl jX_C_h0_0)), (h_1_13, .inl (a_h_1_13, 480, .inl jX_C_h_1_13)), (h_1_12, .inl (a_h_1_12, 40, .inl jX_C_h_1_12)), (h_1_2, .inl (a_h_1_2, 40, .inl jX_C_h_1_2)), (h_1_3, .inl (a_h_1_3, 40, .inl jX_C_h_1_3)), (h_1_9, .inl (a_h_1_9, 40, .inl jX_C_h_1_9)), (h_1_4, .inl (a_h_1_4, 40, .inl jX_C_h_1_4)), (h_1_5, .inl (a_h_1_5, 40, .inl jX_C_h_1_5)), (h_1_8, .inl (a_h_1_8, 40, .inl jX_C_h_1_8)), (h_1_6, .inl (a_h_1_6, 40, .inl jX_C_h_1_6)), (h_1_7, .inl (a_h_1_7, 40, .inl jX_C_h_1_7)), (h_1_11, .inl (a_h_1_11, 40, .inl jX_C_h_1_11)), (h_1_10, .inl (a_h_1_10, 40, .inl jX_C_h_1_10))], ho, ⟨trivial, ⟨⟨rfl, rfl⟩, ⟨rfl, jX_F_h_1_0, (jX_F_h_1_1), rfl, trivial, by first | omega | decide, by first | omega | decide | (have : (0 : Int32).toInt = 0 := (by decide); omega)⟩, ⟨rfl, (jX_F_h0_1), rfl, by first | omega | decide, by first | omega | decide | (have : (0 : Int32).toInt = 0 := (by decide); omega)⟩, ⟨rfl, _, rfl, cr_all _⟩, ⟨rfl, _, rfl, cr_all _⟩, ⟨rfl, _, rfl, cr_all _⟩, ⟨rfl, _, rfl, cr_all _⟩, ⟨rfl, _, rfl, cr_all _⟩, ⟨rfl, _, rfl, cr_all _⟩, ⟨rfl, _, rfl, p6⟩, ⟨rfl, _, rfl, p7⟩, ⟨rfl, _, rfl, cr_all _⟩, ⟨rfl, _, rfl, cr_all _⟩, ⟨rfl, _, rfl, cr_all _⟩, ⟨rfl, _, rfl, cr_all _⟩, ⟨rfl, _, rfl, cr_all _⟩, trivial⟩⟩, hB⟩, hF⟩
set_option maxHeartbeats 4000000 in
set_option maxRecDepth 100000 in
theorem wsX0_hastyDead (l : Launch) (D : va_G) (h h0 h0_0 : Nat) (a_h0_0 : ClassId) (n_h0_0 : Nat) (sz : Nat) (k_n_h0_0 : n_h0_0 ≤ 1000) (k_p_h0_0 : 1 ≤ n_h0_0) (cs : List Cl) (hs : ShL [kC h0 (eX8 n_h0_0 h0_0), kC h0_0 (eArr n_h0_0 (-2147483648) 2147483647 a_h0_0)] cs) : Met l yX0_hastyDead (Cond.code yX0_hastyDead cX0_hastyDead 5 none :: gG) { frames := 3, cells := 0, slots := 0, locals := 118 } (cPre D [(a_h0_0, .int)] cs sz [.ref h, .ref h0]) (va_Qv (fun (u : va_W) => (True) ∧ ShL [kC h0 (eX8 n_h0_0 h0_0), kC h0_0 (eArr n_h0_0 (-2147483648) 2147483647 a_h0_0)] u) (fun u t => cB D (va_A cs sz) [] u t) (va_A cs sz)) 0 0 (va_A cs sz) := by
  obtain ⟨c0, cs0, rfl, g0, hs0⟩ := ShL.cons hs
  obtain ⟨_, rfl, h0_1, rfl, k0_1_lo, k0_1_hi⟩ := kC.of g0
  obtain ⟨c1, cs1, rfl, g1, hs1⟩ := ShL.cons hs0
  obtain ⟨_, rfl, f_h0_0, rfl, q_f_h0_0⟩ := kC.of g1
  obtain rfl := ShL.nil hs1
  refine (sX0_hastyDead l D h h0 h0_0 h0_1 n_h0_0 a_h0_0 f_h0_0 sz (by omega) (by omega) (by omega) (by omega) ).mono (fun _ _ h => h) (fun a st o t _ hq => ?_) (fun _ h => h)
  obtain ⟨⟨⟨jX_F_h0_1, jX_C_h0_0⟩, ho, hp, hB⟩, hF⟩ := hq
  obtain ⟨p0, p1, p2, p3⟩ := hp
  exact ⟨⟨[(h0, .inr (8, [.ref h0_0, .int jX_F_h0_1])), (h0_0, .inl (a_h0_0, n_h0_0, .inl jX_C_h0_0))], ho, ⟨trivial, ⟨⟨rfl, (jX_F_h0_1), rfl, by first | omega | decide, by first | omega | decide | (have : (0 : Int32).toInt = 0 := (by decide); omega)⟩, ⟨rfl, _, rfl, cr_all _⟩, trivial⟩⟩, hB⟩, hF⟩
set_option maxHeartbeats 4000000 in
set_option maxRecDepth 100000 in
theorem wsX0_hastyCopy (l : Launch) (D : va_G) (h h0 h0_0 h_0 h_1 : Nat) (a_h0_0 : ClassId) (n_h0_0 : Nat) (sz : Nat) (k_n_h0_0 : n_h0_0 ≤ 1000) (k_p_h0_0 : 1 ≤ n_h0_0) (cs : List Cl) (hs : ShL [kC h0 (eX8 n_h0_0 h0_0), kC h0_0 (eArr n_h0_0 (-2147483648) 2147483647 a_h0_0), kC h (eX0 h_0 h_1)] cs) : Met l yX0_hastyCopy (Cond.code yX0_hastyCopy cX0_hastyCopy 5 none :: gG) { frames := 5, cells := 0, slots := 0, locals := 157 } (cPre D [(a_h0_0, .int)] cs sz [.ref h, .ref h0]) (va_Qv (fun (u : va_W) => (True) ∧ ShL [kC h0 (eX8 n_h0_0 h0_0), kC h0_0 (eArr n_h0_0 (-2147483648) 2147483647 a_h0_0), kC h (eX0 h_0 h_1)] u) (fun u t => cB D (va_A cs sz) [] u t) (va_A cs sz)) 0 0 (va_A cs sz) := by
  obtain ⟨c0, cs0, rfl, g0, hs0⟩ := ShL.cons hs
  obtain ⟨_, rfl, h0_1, rfl, k0_1_lo, k0_1_hi⟩ := kC.of g0
  obtain ⟨c1, cs1, rfl, g1, hs1⟩ := ShL.cons hs0
  obtain ⟨_, rfl, f_h0_0, rfl, q_f_h0_0⟩ := kC.of g1
  obtain ⟨c2, cs2, rfl, g2, hs2⟩ := ShL.cons hs1
  obtain ⟨_, rfl, rfl⟩ := kC.of g2
  obtain rfl := ShL.nil hs2
  refine (sX0_hastyCopy l D h h0 h0_0 h0_1 n_h0_0 a_h0_0 f_h0_0 h_0 h_1 sz (by omega) (by omega) (by omega) (by omega) ).mono (fun _ _ h => h) (fun a st o t _ hq => ?_) (fun _ h => h)
  obtain ⟨⟨jX_C_h0_0, ho, hp, hB⟩, hF⟩ := hq
  exact ⟨⟨[(h0, .inr (8, [.ref h0_0, .int h0_1])), (h0_0, .inl (a_h0_0, n_h0_0, .inl jX_C_h0_0)), (h, .inr (0, [.ref h_0, .ref h_1]))], ho, ⟨trivial, ⟨⟨rfl, (h0_1), rfl, by first | omega | decide, by first | omega | decide | (have : (0 : Int32).toInt = 0 := (by decide); omega)⟩, ⟨rfl, _, rfl, cr_all _⟩, ⟨rfl, rfl⟩, trivial⟩⟩, hB⟩, hF⟩
set_option maxHeartbeats 4000000 in
set_option maxRecDepth 100000 in
theorem wsX0_unroll (l : Launch) (D : va_G) (h h0 h_0 h_1 h_0_0 h0_0 : Nat) (a_h_0_0 a_h0_0 : ClassId) (n_h_0_0 n_h0_0 : Nat) (sz : Nat) (k_n_h_0_0 : n_h_0_0 ≤ 1000) (k_p_h_0_0 : 1 ≤ n_h_0_0) (k_n_h0_0 : n_h0_0 ≤ 1000) (k_p_h0_0 : 1 ≤ n_h0_0) (cs : List Cl) (hs : ShL [kC h (eX0 h_0 h_1), kC h_0 (eX8 n_h_0_0 h_0_0), kC h_0_0 (eArr n_h_0_0 (-2147483648) 2147483647 a_h_0_0), kC h0 (eX8 n_h0_0 h0_0), kC h0_0 (eArr n_h0_0 (-2147483648) 2147483647 a_h0_0)] cs) : Met l yX0_unroll (Cond.code yX0_unroll cX0_unroll 4 none :: gG) { frames := 3, cells := 0, slots := 0, locals := 141 } (cPre D [(a_h_0_0, .int), (a_h0_0, .int)] cs sz [.ref h, .ref h0]) (va_Qv (fun (u : va_W) => (True) ∧ ShL [kC h (eX0 h_0 h_1), kC h_0 (eX8 n_h_0_0 h_0_0), kC h_0_0 (eArr n_h_0_0 (-2147483648) 2147483647 a_h_0_0), kC h0 (eX8 n_h0_0 h0_0), kC h0_0 (eArr n_h0_0 (-2147483648) 2147483647 a_h0_0)] u) (fun u t => cB D (va_A cs sz) [] u t) (va_A cs sz)) 0 0 (va_A cs sz) := by
  obtain ⟨c0, cs0, rfl, g0, hs0⟩ := ShL.cons hs
  obtain ⟨_, rfl, rfl⟩ := kC.of g0
  obtain ⟨c1, cs1, rfl, g1, hs1⟩ := ShL.cons hs0
  obtain ⟨_, rfl, h_0_1, rfl, k1_1_lo, k1_1_hi⟩ := kC.of g1
  obtain ⟨c2, cs2, rfl, g2, hs2⟩ := ShL.cons hs1
  obtain ⟨_, rfl, f_h_0_0, rfl, q_f_h_0_0⟩ := kC.of g2
  obtain ⟨c3, cs3, rfl, g3, hs3⟩ := ShL.cons hs2
  obtain ⟨_, rfl, h0_1, rfl, k3_1_lo, k3_1_hi⟩ := kC.of g3
  obtain ⟨c4, cs4, rfl, g4, hs4⟩ := ShL.cons hs3
  obtain ⟨_, rfl, f_h0_0, rfl, q_f_h0_0⟩ := kC.of g4
  obtain rfl := ShL.nil hs4
  refine (sX0_unroll l D h h0 h_0 h_1 h_0_0 h_0_1 n_h_0_0 a_h_0_0 f_h_0_0 h0_0 h0_1 n_h0_0 a_h0_0 f_h0_0 sz (by omega) (by omega) (by omega) (by omega) (by omega) (by omega) (by omega) (by omega) ).mono (fun _ _ h => h) (fun a st o t _ hq => ?_) (fun _ h => h)
  obtain ⟨⟨⟨jX_F_h_0_1, jX_C_h_0_0, jX_F_h0_1, jX_C_h0_0⟩, ho, hp, hB⟩, hF⟩ := hq
  obtain ⟨p0, p1, p2, p3, p4, p5, p6⟩ := hp
  exact ⟨⟨[(h, .inr (0, [.ref h_0, .ref h_1])), (h_0, .inr (8, [.ref h_0_0, .int jX_F_h_0_1])), (h_0_0, .inl (a_h_0_0, n_h_0_0, .inl jX_C_h_0_0)), (h0, .inr (8, [.ref h0_0, .int jX_F_h0_1])), (h0_0, .inl (a_h0_0, n_h0_0, .inl jX_C_h0_0))], ho, ⟨trivial, ⟨⟨rfl, rfl⟩, ⟨rfl, (jX_F_h_0_1), rfl, by first | omega | decide, by first | omega | decide | (have : (0 : Int32).toInt = 0 := (by decide); omega)⟩, ⟨rfl, _, rfl, cr_all _⟩, ⟨rfl, (jX_F_h0_1), rfl, by first | omega | decide, by first | omega | decide | (have : (0 : Int32).toInt = 0 := (by decide); omega)⟩, ⟨rfl, _, rfl, cr_all _⟩, trivial⟩⟩, hB⟩, hF⟩
set_option maxHeartbeats 4000000 in
set_option maxRecDepth 100000 in
theorem wsX4_applyRule (l : Launch) (D : va_G) (h h0 h_0 h_1 h_2 h_5 h_6 h_7 h_8 h_9 h0_0 h0_1 h0_3 h0_4 h_1_0 h0_0_0 h_8_0 h_8_1 h0_1_0 h_8_0_0 : Nat) (a_h_1_0 a_h0_3 a_h0_4 a_h0_0_0 a_h0_1_0 a_h_8_0_0 : ClassId) (n_h_1_0 n_h0_0_0 n_h0_1_0 n_h_8_0_0 : Nat) (sz : Nat) (k_n_h_1_0 : n_h_1_0 ≤ 1000) (k_p_h_1_0 : 1 ≤ n_h_1_0) (k_n_h0_0_0 : n_h0_0_0 ≤ 1000) (k_p_h0_0_0 : 1 ≤ n_h0_0_0) (k_n_h0_1_0 : n_h0_1_0 ≤ 1000) (k_p_h0_1_0 : 1 ≤ n_h0_1_0) (k_n_h_8_0_0 : n_h_8_0_0 ≤ 1000) (k_p_h_8_0_0 : 1 ≤ n_h_8_0_0) (cs : List Cl) (hs : ShL [kC h (eX4 h_0 h_1 h_2 h_5 h_6 h_7 h_8 h_9), kC h0 (eX9 h0_0 h0_1 h0_3 h0_4), kC h_1 (eX8 n_h_1_0 h_1_0), kC h_1_0 (eArr n_h_1_0 (-2147483648) 2147483647 a_h_1_0), kC h0_3 (eArr 3 (-1) 5000 a_h0_3), kC h0_4 (eArr 3 (-1) 5000 a_h0_4), kC h0_0 (eX8 n_h0_0_0 h0_0_0), kC h0_0_0 (eArr n_h0_0_0 (-2147483648) 2147483647 a_h0_0_0), kC h_8 (eX0 h_8_0 h_8_1), kC h0_1 (eX8 n_h0_1_0 h0_1_0), kC h0_1_0 (eArr n_h0_1_0 (-2147483648) 2147483647 a_h0_1_0), kC h_8_0 (eX8 n_h_8_0_0 h_8_0_0), kC h_8_0_0 (eArr n_h_8_0_0 (-2147483648) 2147483647 a_h_8_0_0)] cs) : Met l yX4_applyRule (Cond.code yX4_applyRule cX4_applyRule 4 (some .boolean) :: gG) { frames := 5, cells := 0, slots := 0, locals := 165 } (cPre D [(a_h_1_0, .int), (a_h0_3, .int), (a_h0_4, .int), (a_h0_0_0, .int), (a_h0_1_0, .int), (a_h_8_0_0, .int)] cs sz [.ref h, .ref h0]) (va_Qi (fun (r : Int32) (u : va_W) => (0 ≤ r.toInt ∧ r.toInt ≤ 1) ∧ ShL [kC h (eX4 h_0 h_1 h_2 h_5 h_6 h_7 h_8 h_9), kC h0 (eX9 h0_0 h0_1 h0_3 h0_4), kC h_1 (eX8 n_h_1_0 h_1_0), kC h_1_0 (eArr n_h_1_0 (-2147483648) 2147483647 a_h_1_0), kC h0_3 (eArr 3 (-1) 5000 a_h0_3), kC h0_4 (eArr 3 (-1) 5000 a_h0_4), kC h0_0 (eX8 n_h0_0_0 h0_0_0), kC h0_0_0 (eArr n_h0_0_0 (-2147483648) 2147483647 a_h0_0_0), kC h_8 (eX0 h_8_0 h_8_1), kC h0_1 (eX8 n_h0_1_0 h0_1_0), kC h0_1_0 (eArr n_h0_1_0 (-2147483648) 2147483647 a_h0_1_0), kC h_8_0 (eX8 n_h_8_0_0 h_8_0_0), kC h_8_0_0 (eArr n_h_8_0_0 (-2147483648) 2147483647 a_h_8_0_0)] u) (fun u t => cB D (va_A cs sz) [] u t) (va_A cs sz)) 0 0 (va_A cs sz) := by
  obtain ⟨c0, cs0, rfl, g0, hs0⟩ := ShL.cons hs
  obtain ⟨_, rfl, h_3, h_4, rfl⟩ := kC.of g0
  obtain ⟨c1, cs1, rfl, g1, hs1⟩ := ShL.cons hs0
  obtain ⟨_, rfl, h0_2, rfl⟩ := kC.of g1
  obtain ⟨c2, cs2, rfl, g2, hs2⟩ := ShL.cons hs1
  obtain ⟨_, rfl, h_1_1, rfl, k2_1_lo, k2_1_hi⟩ := kC.of g2
  obtain ⟨c3, cs3, rfl, g3, hs3⟩ := ShL.cons hs2
  obtain ⟨_, rfl, f_h_1_0, rfl, q_f_h_1_0⟩ := kC.of g3
  obtain ⟨c4, cs4, rfl, g4, hs4⟩ := ShL.cons hs3
  obtain ⟨_, rfl, f_h0_3, rfl, q_f_h0_3⟩ := kC.of g4
  obtain ⟨c5, cs5, rfl, g5, hs5⟩ := ShL.cons hs4
  obtain ⟨_, rfl, f_h0_4, rfl, q_f_h0_4⟩ := kC.of g5
  obtain ⟨c6, cs6, rfl, g6, hs6⟩ := ShL.cons hs5
  obtain ⟨_, rfl, h0_0_1, rfl, k6_1_lo, k6_1_hi⟩ := kC.of g6
  obtain ⟨c7, cs7, rfl, g7, hs7⟩ := ShL.cons hs6
  obtain ⟨_, rfl, f_h0_0_0, rfl, q_f_h0_0_0⟩ := kC.of g7
  obtain ⟨c8, cs8, rfl, g8, hs8⟩ := ShL.cons hs7
  obtain ⟨_, rfl, rfl⟩ := kC.of g8
  obtain ⟨c9, cs9, rfl, g9, hs9⟩ := ShL.cons hs8
  obtain ⟨_, rfl, h0_1_1, rfl, k9_1_lo, k9_1_hi⟩ := kC.of g9
  obtain ⟨c10, cs10, rfl, g10, hs10⟩ := ShL.cons hs9
  obtain ⟨_, rfl, f_h0_1_0, rfl, q_f_h0_1_0⟩ := kC.of g10
  obtain ⟨c11, cs11, rfl, g11, hs11⟩ := ShL.cons hs10
  obtain ⟨_, rfl, h_8_0_1, rfl, k11_1_lo, k11_1_hi⟩ := kC.of g11
  obtain ⟨c12, cs12, rfl, g12, hs12⟩ := ShL.cons hs11
  obtain ⟨_, rfl, f_h_8_0_0, rfl, q_f_h_8_0_0⟩ := kC.of g12
  obtain rfl := ShL.nil hs12
  refine (sX4_applyRule l D h h0 h_0 h_1 h_2 h_3 h_4 h_5 h_6 h_7 h_8 h_9 h0_0 h0_1 h0_2 h0_3 h0_4 h_1_0 h_1_1 n_h_1_0 a_h_1_0 f_h_1_0 a_h0_3 f_h0_3 a_h0_4 f_h0_4 h0_0_0 h0_0_1 n_h0_0_0 a_h0_0_0 f_h0_0_0 h_8_0 h_8_1 h0_1_0 h0_1_1 n_h0_1_0 a_h0_1_0 f_h0_1_0 h_8_0_0 h_8_0_1 n_h_8_0_0 a_h_8_0_0 f_h_8_0_0 sz (by omega) (by omega) (by omega) (by omega) (by omega) (by omega) (by omega) (by omega) (by omega) (by omega) (by omega) (by omega) (by omega) (by omega) (by omega) (by omega) q_f_h0_3 q_f_h0_4).mono (fun _ _ h => h) (fun a st o t _ hq => ?_) (fun _ h => h)
  obtain ⟨⟨r, ⟨jX_F_h_1_1, jX_C_h_1_0, jX_C_h0_3, jX_C_h0_4, jX_F_h_8_0_1, jX_C_h_8_0_0⟩, ho, hp, hB⟩, hF⟩ := hq
  obtain ⟨p0, p1, p2, p3, p4, p5, p6, p7, p8, p9⟩ := hp
  exact ⟨⟨r, [(h, .inr (4, [.ref h_0, .ref h_1, .ref h_2, .int h_3, .int h_4, .ref h_5, .ref h_6, .ref h_7, .ref h_8, .ref h_9])), (h0, .inr (9, [.ref h0_0, .ref h0_1, .int h0_2, .ref h0_3, .ref h0_4])), (h_1, .inr (8, [.ref h_1_0, .int jX_F_h_1_1])), (h_1_0, .inl (a_h_1_0, n_h_1_0, .inl jX_C_h_1_0)), (h0_3, .inl (a_h0_3, 3, .inl jX_C_h0_3)), (h0_4, .inl (a_h0_4, 3, .inl jX_C_h0_4)), (h0_0, .inr (8, [.ref h0_0_0, .int h0_0_1])), (h0_0_0, .inl (a_h0_0_0, n_h0_0_0, .inl f_h0_0_0)), (h_8, .inr (0, [.ref h_8_0, .ref h_8_1])), (h0_1, .inr (8, [.ref h0_1_0, .int h0_1_1])), (h0_1_0, .inl (a_h0_1_0, n_h0_1_0, .inl f_h0_1_0)), (h_8_0, .inr (8, [.ref h_8_0_0, .int jX_F_h_8_0_1])), (h_8_0_0, .inl (a_h_8_0_0, n_h_8_0_0, .inl jX_C_h_8_0_0))], ho, ⟨⟨by omega, by omega⟩, ⟨⟨rfl, (h_3), (h_4), rfl⟩, ⟨rfl, (h0_2), rfl⟩, ⟨rfl, (jX_F_h_1_1), rfl, by first | omega | decide, by first | omega | decide | (have : (0 : Int32).toInt = 0 := (by decide); omega)⟩, ⟨rfl, _, rfl, cr_all _⟩, ⟨rfl, _, rfl, p8⟩, ⟨rfl, _, rfl, p9⟩, ⟨rfl, (h0_0_1), rfl, by first | omega | decide, by first | omega | decide | (have : (0 : Int32).toInt = 0 := (by decide); omega)⟩, ⟨rfl, _, rfl, q_f_h0_0_0⟩, ⟨rfl, rfl⟩, ⟨rfl, (h0_1_1), rfl, by first | omega | decide, by first | omega | decide | (have : (0 : Int32).toInt = 0 := (by decide); omega)⟩, ⟨rfl, _, rfl, q_f_h0_1_0⟩, ⟨rfl, (jX_F_h_8_0_1), rfl, by first | omega | decide, by first | omega | decide | (have : (0 : Int32).toInt = 0 := (by decide); omega)⟩, ⟨rfl, _, rfl, cr_all _⟩, trivial⟩⟩, hB⟩, hF⟩
set_option maxHeartbeats 4000000 in
set_option maxRecDepth 100000 in
theorem wsX4_madeWrong (l : Launch) (D : va_G) (h h0 h_0 h_1 h_2 h_5 h_6 h_7 h_8 h_9 h0_0 h_1_0 h_0_4 h_0_5 h_0_4_0 h_0_4_1 h_0_4_5 h_0_4_6 h_0_4_0_2 h_0_4_0_3 h_0_4_0_4 h_0_4_0_5 h_0_4_0_6 h_0_4_0_7 h_0_4_0_8 h_0_4_0_9 h_0_4_0_10 h_0_4_0_11 h_0_4_0_12 h_0_4_0_13 h_0_5_0 h_0_5_1 h_0_5_5 h_0_5_6 h_0_5_0_2 h_0_5_0_3 h_0_5_0_4 h_0_5_0_5 h_0_5_0_6 h_0_5_0_7 h_0_5_0_8 h_0_5_0_9 h_0_5_0_10 h_0_5_0_11 h_0_5_0_12 h_0_5_0_13 : Nat) (a_h0_0 a_h_1_0 a_h_0_4_0_13 a_h_0_4_0_12 a_h_0_4_0_2 a_h_0_4_0_3 a_h_0_4_0_9 a_h_0_4_0_4 a_h_0_4_0_5 a_h_0_4_0_8 a_h_0_4_0_6 a_h_0_4_0_7 a_h_0_4_0_11 a_h_0_4_0_10 a_h_0_5_0_13 a_h_0_5_0_12 a_h_0_5_0_2 a_h_0_5_0_3 a_h_0_5_0_9 a_h_0_5_0_4 a_h_0_5_0_5 a_h_0_5_0_8 a_h_0_5_0_6 a_h_0_5_0_7 a_h_0_5_0_11 a_h_0_5_0_10 a_h_0_4_5 a_h_0_4_6 a_h_0_4_1 a_h_0_5_5 a_h_0_5_6 a_h_0_5_1 : ClassId) (n_h0_0 n_h_1_0 : Nat) (sz : Nat) (k_n_h0_0 : n_h0_0 ≤ 1000) (k_p_h0_0 : 1 ≤ n_h0_0) (k_n_h_1_0 : n_h_1_0 ≤ 1000) (k_p_h_1_0 : 1 ≤ n_h_1_0) (cs : List Cl) (hs : ShL [kC h (eX4 h_0 h_1 h_2 h_5 h_6 h_7 h_8 h_9), kC h0 (eX8 n_h0_0 h0_0), kC h0_0 (eArr n_h0_0 (-2147483648) 2147483647 a_h0_0), kC h_1 (eX8 n_h_1_0 h_1_0), kC h_1_0 (eArr n_h_1_0 (-2147483648) 2147483647 a_h_1_0), kC h_0 (eX2 h_0_4 h_0_5), kC h_0_4 (eX3 h_0_4_0 h_0_4_1 h_0_4_5 h_0_4_6), kC h_0_4_0 (eX1 PTr h_0_4_0_2 h_0_4_0_3 h_0_4_0_4 h_0_4_0_5 h_0_4_0_6 h_0_4_0_7 h_0_4_0_8 h_0_4_0_9 h_0_4_0_10 h_0_4_0_11 h_0_4_0_12 h_0_4_0_13), kC h_0_4_0_13 (eArr 480 (-2147483648) 2147483647 a_h_0_4_0_13), kC h_0_4_0_12 (eArr 40 (-2147483648) 2147483647 a_h_0_4_0_12), kC h_0_4_0_2 (eArr 40 (-2147483648) 2147483647 a_h_0_4_0_2), kC h_0_4_0_3 (eArr 40 (-2147483648) 2147483647 a_h_0_4_0_3), kC h_0_4_0_9 (eArr 40 (-2147483648) 2147483647 a_h_0_4_0_9), kC h_0_4_0_4 (eArr 40 (0) 2000 a_h_0_4_0_4), kC h_0_4_0_5 (eArr 40 (0) 2000 a_h_0_4_0_5), kC h_0_4_0_8 (eArr 40 (-2147483648) 2147483647 a_h_0_4_0_8), kC h_0_4_0_6 (eArr 40 (-2147483648) 2147483647 a_h_0_4_0_6), kC h_0_4_0_7 (eArr 40 (-2147483648) 2147483647 a_h_0_4_0_7), kC h_0_4_0_11 (eArr 40 (-2147483648) 2147483647 a_h_0_4_0_11), kC h_0_4_0_10 (eArr 40 (-2147483648) 2147483647 a_h_0_4_0_10), kC h_0_5 (eX3 h_0_5_0 h_0_5_1 h_0_5_5 h_0_5_6), kC h_0_5_0 (eX1 PTr h_0_5_0_2 h_0_5_0_3 h_0_5_0_4 h_0_5_0_5 h_0_5_0_6 h_0_5_0_7 h_0_5_0_8 h_0_5_0_9 h_0_5_0_10 h_0_5_0_11 h_0_5_0_12 h_0_5_0_13), kC h_0_5_0_13 (eArr 480 (-2147483648) 2147483647 a_h_0_5_0_13), kC h_0_5_0_12 (eArr 40 (-2147483648) 2147483647 a_h_0_5_0_12), kC h_0_5_0_2 (eArr 40 (-2147483648) 2147483647 a_h_0_5_0_2), kC h_0_5_0_3 (eArr 40 (-2147483648) 2147483647 a_h_0_5_0_3), kC h_0_5_0_9 (eArr 40 (-2147483648) 2147483647 a_h_0_5_0_9), kC h_0_5_0_4 (eArr 40 (0) 2000 a_h_0_5_0_4), kC h_0_5_0_5 (eArr 40 (0) 2000 a_h_0_5_0_5), kC h_0_5_0_8 (eArr 40 (-2147483648) 2147483647 a_h_0_5_0_8), kC h_0_5_0_6 (eArr 40 (-2147483648) 2147483647 a_h_0_5_0_6), kC h_0_5_0_7 (eArr 40 (-2147483648) 2147483647 a_h_0_5_0_7), kC h_0_5_0_11 (eArr 40 (-2147483648) 2147483647 a_h_0_5_0_11), kC h_0_5_0_10 (eArr 40 (-2147483648) 2147483647 a_h_0_5_0_10), kC h_0_4_5 (eArr 6 (-2147483648) 2147483647 a_h_0_4_5), kC h_0_4_6 (eArr 300 (-2147483648) 2147483647 a_h_0_4_6), kC h_0_4_1 (eArr 100 (-2147483648) 2147483647 a_h_0_4_1), kC h_0_5_5 (eArr 6 (-2147483648) 2147483647 a_h_0_5_5), kC h_0_5_6 (eArr 300 (-2147483648) 2147483647 a_h_0_5_6), kC h_0_5_1 (eArr 100 (-2147483648) 2147483647 a_h_0_5_1)] cs) : Met l yX4_madeWrong (Cond.code yX4_madeWrong cX4_madeWrong 2 (some .boolean) :: gG) { frames := 6, cells := 0, slots := 0, locals := 189 } (cPre D [(a_h0_0, .int), (a_h_1_0, .int), (a_h_0_4_0_13, .int), (a_h_0_4_0_12, .int), (a_h_0_4_0_2, .int), (a_h_0_4_0_3, .int), (a_h_0_4_0_9, .int), (a_h_0_4_0_4, .int), (a_h_0_4_0_5, .int), (a_h_0_4_0_8, .int), (a_h_0_4_0_6, .int), (a_h_0_4_0_7, .int), (a_h_0_4_0_11, .int), (a_h_0_4_0_10, .int), (a_h_0_5_0_13, .int), (a_h_0_5_0_12, .int), (a_h_0_5_0_2, .int), (a_h_0_5_0_3, .int), (a_h_0_5_0_9, .int), (a_h_0_5_0_4, .int), (a_h_0_5_0_5, .int), (a_h_0_5_0_8, .int), (a_h_0_5_0_6, .int), (a_h_0_5_0_7, .int), (a_h_0_5_0_11, .int), (a_h_0_5_0_10, .int), (a_h_0_4_5, .int), (a_h_0_4_6, .int), (a_h_0_4_1, .int), (a_h_0_5_5, .int), (a_h_0_5_6, .int), (a_h_0_5_1, .int)] cs sz [.ref h, .ref h0]) (va_Qi (fun (r : Int32) (u : va_W) => (0 ≤ r.toInt ∧ r.toInt ≤ 1) ∧ ShL [kC h (eX4 h_0 h_1 h_2 h_5 h_6 h_7 h_8 h_9), kC h0 (eX8 n_h0_0 h0_0), kC h0_0 (eArr n_h0_0 (-2147483648) 2147483647 a_h0_0), kC h_1 (eX8 n_h_1_0 h_1_0), kC h_1_0 (eArr n_h_1_0 (-2147483648) 2147483647 a_h_1_0), kC h_0 (eX2 h_0_4 h_0_5), kC h_0_4 (eX3 h_0_4_0 h_0_4_1 h_0_4_5 h_0_4_6), kC h_0_4_0 (eX1 PTr h_0_4_0_2 h_0_4_0_3 h_0_4_0_4 h_0_4_0_5 h_0_4_0_6 h_0_4_0_7 h_0_4_0_8 h_0_4_0_9 h_0_4_0_10 h_0_4_0_11 h_0_4_0_12 h_0_4_0_13), kC h_0_4_0_13 (eArr 480 (-2147483648) 2147483647 a_h_0_4_0_13), kC h_0_4_0_12 (eArr 40 (-2147483648) 2147483647 a_h_0_4_0_12), kC h_0_4_0_2 (eArr 40 (-2147483648) 2147483647 a_h_0_4_0_2), kC h_0_4_0_3 (eArr 40 (-2147483648) 2147483647 a_h_0_4_0_3), kC h_0_4_0_9 (eArr 40 (-2147483648) 2147483647 a_h_0_4_0_9), kC h_0_4_0_4 (eArr 40 (0) 2000 a_h_0_4_0_4), kC h_0_4_0_5 (eArr 40 (0) 2000 a_h_0_4_0_5), kC h_0_4_0_8 (eArr 40 (-2147483648) 2147483647 a_h_0_4_0_8), kC h_0_4_0_6 (eArr 40 (-2147483648) 2147483647 a_h_0_4_0_6), kC h_0_4_0_7 (eArr 40 (-2147483648) 2147483647 a_h_0_4_0_7), kC h_0_4_0_11 (eArr 40 (-2147483648) 2147483647 a_h_0_4_0_11), kC h_0_4_0_10 (eArr 40 (-2147483648) 2147483647 a_h_0_4_0_10), kC h_0_5 (eX3 h_0_5_0 h_0_5_1 h_0_5_5 h_0_5_6), kC h_0_5_0 (eX1 PTr h_0_5_0_2 h_0_5_0_3 h_0_5_0_4 h_0_5_0_5 h_0_5_0_6 h_0_5_0_7 h_0_5_0_8 h_0_5_0_9 h_0_5_0_10 h_0_5_0_11 h_0_5_0_12 h_0_5_0_13), kC h_0_5_0_13 (eArr 480 (-2147483648) 2147483647 a_h_0_5_0_13), kC h_0_5_0_12 (eArr 40 (-2147483648) 2147483647 a_h_0_5_0_12), kC h_0_5_0_2 (eArr 40 (-2147483648) 2147483647 a_h_0_5_0_2), kC h_0_5_0_3 (eArr 40 (-2147483648) 2147483647 a_h_0_5_0_3), kC h_0_5_0_9 (eArr 40 (-2147483648) 2147483647 a_h_0_5_0_9), kC h_0_5_0_4 (eArr 40 (0) 2000 a_h_0_5_0_4), kC h_0_5_0_5 (eArr 40 (0) 2000 a_h_0_5_0_5), kC h_0_5_0_8 (eArr 40 (-2147483648) 2147483647 a_h_0_5_0_8), kC h_0_5_0_6 (eArr 40 (-2147483648) 2147483647 a_h_0_5_0_6), kC h_0_5_0_7 (eArr 40 (-2147483648) 2147483647 a_h_0_5_0_7), kC h_0_5_0_11 (eArr 40 (-2147483648) 2147483647 a_h_0_5_0_11), kC h_0_5_0_10 (eArr 40 (-2147483648) 2147483647 a_h_0_5_0_10), kC h_0_4_5 (eArr 6 (-2147483648) 2147483647 a_h_0_4_5), kC h_0_4_6 (eArr 300 (-2147483648) 2147483647 a_h_0_4_6), kC h_0_4_1 (eArr 100 (-2147483648) 2147483647 a_h_0_4_1), kC h_0_5_5 (eArr 6 (-2147483648) 2147483647 a_h_0_5_5), kC h_0_5_6 (eArr 300 (-2147483648) 2147483647 a_h_0_5_6), kC h_0_5_1 (eArr 100 (-2147483648) 2147483647 a_h_0_5_1)] u) (fun u t => cB D (va_A cs sz) [] u t) (va_A cs sz)) 0 0 (va_A cs sz) := by
  obtain ⟨c0, cs0, rfl, g0, hs0⟩ := ShL.cons hs
  obtain ⟨_, rfl, h_3, h_4, rfl⟩ := kC.of g0
  obtain ⟨c1, cs1, rfl, g1, hs1⟩ := ShL.cons hs0
  obtain ⟨_, rfl, h0_1, rfl, k1_1_lo, k1_1_hi⟩ := kC.of g1
  obtain ⟨c2, cs2, rfl, g2, hs2⟩ := ShL.cons hs1
  obtain ⟨_, rfl, f_h0_0, rfl, q_f_h0_0⟩ := kC.of g2
  obtain ⟨c3, cs3, rfl, g3, hs3⟩ := ShL.cons hs2
  obtain ⟨_, rfl, h_1_1, rfl, k3_1_lo, k3_1_hi⟩ := kC.of g3
  obtain ⟨c4, cs4, rfl, g4, hs4⟩ := ShL.cons hs3
  obtain ⟨_, rfl, f_h_1_0, rfl, q_f_h_1_0⟩ := kC.of g4
  obtain ⟨c5, cs5, rfl, g5, hs5⟩ := ShL.cons hs4
  obtain ⟨_, rfl, h_0_0, h_0_1, h_0_2, h_0_3, rfl⟩ := kC.of g5
  obtain ⟨c6, cs6, rfl, g6, hs6⟩ := ShL.cons hs5
  obtain ⟨_, rfl, h_0_4_2, h_0_4_3, h_0_4_4, rfl, k6_2_lo, k6_2_hi⟩ := kC.of g6
  obtain ⟨c7, cs7, rfl, g7, hs7⟩ := ShL.cons hs6
  obtain ⟨_, rfl, h_0_4_0_0, h_0_4_0_1, rfl, _, k7_1_lo, k7_1_hi⟩ := kC.of g7
  obtain ⟨c8, cs8, rfl, g8, hs8⟩ := ShL.cons hs7
  obtain ⟨_, rfl, f_h_0_4_0_13, rfl, q_f_h_0_4_0_13⟩ := kC.of g8
  obtain ⟨c9, cs9, rfl, g9, hs9⟩ := ShL.cons hs8
  obtain ⟨_, rfl, f_h_0_4_0_12, rfl, q_f_h_0_4_0_12⟩ := kC.of g9
  obtain ⟨c10, cs10, rfl, g10, hs10⟩ := ShL.cons hs9
  obtain ⟨_, rfl, f_h_0_4_0_2, rfl, q_f_h_0_4_0_2⟩ := kC.of g10
  obtain ⟨c11, cs11, rfl, g11, hs11⟩ := ShL.cons hs10
  obtain ⟨_, rfl, f_h_0_4_0_3, rfl, q_f_h_0_4_0_3⟩ := kC.of g11
  obtain ⟨c12, cs12, rfl, g12, hs12⟩ := ShL.cons hs11
  obtain ⟨_, rfl, f_h_0_4_0_9, rfl, q_f_h_0_4_0_9⟩ := kC.of g12
  obtain ⟨c13, cs13, rfl, g13, hs13⟩ := ShL.cons hs12
  obtain ⟨_, rfl, f_h_0_4_0_4, rfl, q_f_h_0_4_0_4⟩ := kC.of g13
  obtain ⟨c14, cs14, rfl, g14, hs14⟩ := ShL.cons hs13
  obtain ⟨_, rfl, f_h_0_4_0_5, rfl, q_f_h_0_4_0_5⟩ := kC.of g14
  obtain ⟨c15, cs15, rfl, g15, hs15⟩ := ShL.cons hs14
  obtain ⟨_, rfl, f_h_0_4_0_8, rfl, q_f_h_0_4_0_8⟩ := kC.of g15
  obtain ⟨c16, cs16, rfl, g16, hs16⟩ := ShL.cons hs15
  obtain ⟨_, rfl, f_h_0_4_0_6, rfl, q_f_h_0_4_0_6⟩ := kC.of g16
  obtain ⟨c17, cs17, rfl, g17, hs17⟩ := ShL.cons hs16
  obtain ⟨_, rfl, f_h_0_4_0_7, rfl, q_f_h_0_4_0_7⟩ := kC.of g17
  obtain ⟨c18, cs18, rfl, g18, hs18⟩ := ShL.cons hs17
  obtain ⟨_, rfl, f_h_0_4_0_11, rfl, q_f_h_0_4_0_11⟩ := kC.of g18
  obtain ⟨c19, cs19, rfl, g19, hs19⟩ := ShL.cons hs18
  obtain ⟨_, rfl, f_h_0_4_0_10, rfl, q_f_h_0_4_0_10⟩ := kC.of g19
  obtain ⟨c20, cs20, rfl, g20, hs20⟩ := ShL.cons hs19
  obtain ⟨_, rfl, h_0_5_2, h_0_5_3, h_0_5_4, rfl, k20_2_lo, k20_2_hi⟩ := kC.of g20
  obtain ⟨c21, cs21, rfl, g21, hs21⟩ := ShL.cons hs20
  obtain ⟨_, rfl, h_0_5_0_0, h_0_5_0_1, rfl, _, k21_1_lo, k21_1_hi⟩ := kC.of g21
  obtain ⟨c22, cs22, rfl, g22, hs22⟩ := ShL.cons hs21
  obtain ⟨_, rfl, f_h_0_5_0_13, rfl, q_f_h_0_5_0_13⟩ := kC.of g22
  obtain ⟨c23, cs23, rfl, g23, hs23⟩ := ShL.cons hs22
  obtain ⟨_, rfl, f_h_0_5_0_12, rfl, q_f_h_0_5_0_12⟩ := kC.of g23
  obtain ⟨c24, cs24, rfl, g24, hs24⟩ := ShL.cons hs23
  obtain ⟨_, rfl, f_h_0_5_0_2, rfl, q_f_h_0_5_0_2⟩ := kC.of g24
  obtain ⟨c25, cs25, rfl, g25, hs25⟩ := ShL.cons hs24
  obtain ⟨_, rfl, f_h_0_5_0_3, rfl, q_f_h_0_5_0_3⟩ := kC.of g25
  obtain ⟨c26, cs26, rfl, g26, hs26⟩ := ShL.cons hs25
  obtain ⟨_, rfl, f_h_0_5_0_9, rfl, q_f_h_0_5_0_9⟩ := kC.of g26
  obtain ⟨c27, cs27, rfl, g27, hs27⟩ := ShL.cons hs26
  obtain ⟨_, rfl, f_h_0_5_0_4, rfl, q_f_h_0_5_0_4⟩ := kC.of g27
  obtain ⟨c28, cs28, rfl, g28, hs28⟩ := ShL.cons hs27
  obtain ⟨_, rfl, f_h_0_5_0_5, rfl, q_f_h_0_5_0_5⟩ := kC.of g28
  obtain ⟨c29, cs29, rfl, g29, hs29⟩ := ShL.cons hs28
  obtain ⟨_, rfl, f_h_0_5_0_8, rfl, q_f_h_0_5_0_8⟩ := kC.of g29
  obtain ⟨c30, cs30, rfl, g30, hs30⟩ := ShL.cons hs29
  obtain ⟨_, rfl, f_h_0_5_0_6, rfl, q_f_h_0_5_0_6⟩ := kC.of g30
  obtain ⟨c31, cs31, rfl, g31, hs31⟩ := ShL.cons hs30
  obtain ⟨_, rfl, f_h_0_5_0_7, rfl, q_f_h_0_5_0_7⟩ := kC.of g31
  obtain ⟨c32, cs32, rfl, g32, hs32⟩ := ShL.cons hs31
  obtain ⟨_, rfl, f_h_0_5_0_11, rfl, q_f_h_0_5_0_11⟩ := kC.of g32
  obtain ⟨c33, cs33, rfl, g33, hs33⟩ := ShL.cons hs32
  obtain ⟨_, rfl, f_h_0_5_0_10, rfl, q_f_h_0_5_0_10⟩ := kC.of g33
  obtain ⟨c34, cs34, rfl, g34, hs34⟩ := ShL.cons hs33
  obtain ⟨_, rfl, f_h_0_4_5, rfl, q_f_h_0_4_5⟩ := kC.of g34
  obtain ⟨c35, cs35, rfl, g35, hs35⟩ := ShL.cons hs34
  obtain ⟨_, rfl, f_h_0_4_6, rfl, q_f_h_0_4_6⟩ := kC.of g35
  obtain ⟨c36, cs36, rfl, g36, hs36⟩ := ShL.cons hs35
  obtain ⟨_, rfl, f_h_0_4_1, rfl, q_f_h_0_4_1⟩ := kC.of g36
  obtain ⟨c37, cs37, rfl, g37, hs37⟩ := ShL.cons hs36
  obtain ⟨_, rfl, f_h_0_5_5, rfl, q_f_h_0_5_5⟩ := kC.of g37
  obtain ⟨c38, cs38, rfl, g38, hs38⟩ := ShL.cons hs37
  obtain ⟨_, rfl, f_h_0_5_6, rfl, q_f_h_0_5_6⟩ := kC.of g38
  obtain ⟨c39, cs39, rfl, g39, hs39⟩ := ShL.cons hs38
  obtain ⟨_, rfl, f_h_0_5_1, rfl, q_f_h_0_5_1⟩ := kC.of g39
  obtain rfl := ShL.nil hs39
  refine (sX4_madeWrong l D h h0 h_0 h_1 h_2 h_3 h_4 h_5 h_6 h_7 h_8 h_9 h0_0 h0_1 n_h0_0 a_h0_0 f_h0_0 h_1_0 h_1_1 n_h_1_0 a_h_1_0 f_h_1_0 h_0_0 h_0_1 h_0_2 h_0_3 h_0_4 h_0_5 h_0_4_0 h_0_4_1 h_0_4_2 h_0_4_3 h_0_4_4 h_0_4_5 h_0_4_6 h_0_4_0_0 h_0_4_0_1 h_0_4_0_2 h_0_4_0_3 h_0_4_0_4 h_0_4_0_5 h_0_4_0_6 h_0_4_0_7 h_0_4_0_8 h_0_4_0_9 h_0_4_0_10 h_0_4_0_11 h_0_4_0_12 h_0_4_0_13 a_h_0_4_0_13 f_h_0_4_0_13 a_h_0_4_0_12 f_h_0_4_0_12 a_h_0_4_0_2 f_h_0_4_0_2 a_h_0_4_0_3 f_h_0_4_0_3 a_h_0_4_0_9 f_h_0_4_0_9 a_h_0_4_0_4 f_h_0_4_0_4 a_h_0_4_0_5 f_h_0_4_0_5 a_h_0_4_0_8 f_h_0_4_0_8 a_h_0_4_0_6 f_h_0_4_0_6 a_h_0_4_0_7 f_h_0_4_0_7 a_h_0_4_0_11 f_h_0_4_0_11 a_h_0_4_0_10 f_h_0_4_0_10 h_0_5_0 h_0_5_1 h_0_5_2 h_0_5_3 h_0_5_4 h_0_5_5 h_0_5_6 h_0_5_0_0 h_0_5_0_1 h_0_5_0_2 h_0_5_0_3 h_0_5_0_4 h_0_5_0_5 h_0_5_0_6 h_0_5_0_7 h_0_5_0_8 h_0_5_0_9 h_0_5_0_10 h_0_5_0_11 h_0_5_0_12 h_0_5_0_13 a_h_0_5_0_13 f_h_0_5_0_13 a_h_0_5_0_12 f_h_0_5_0_12 a_h_0_5_0_2 f_h_0_5_0_2 a_h_0_5_0_3 f_h_0_5_0_3 a_h_0_5_0_9 f_h_0_5_0_9 a_h_0_5_0_4 f_h_0_5_0_4 a_h_0_5_0_5 f_h_0_5_0_5 a_h_0_5_0_8 f_h_0_5_0_8 a_h_0_5_0_6 f_h_0_5_0_6 a_h_0_5_0_7 f_h_0_5_0_7 a_h_0_5_0_11 f_h_0_5_0_11 a_h_0_5_0_10 f_h_0_5_0_10 a_h_0_4_5 f_h_0_4_5 a_h_0_4_6 f_h_0_4_6 a_h_0_4_1 f_h_0_4_1 a_h_0_5_5 f_h_0_5_5 a_h_0_5_6 f_h_0_5_6 a_h_0_5_1 f_h_0_5_1 sz (by omega) (by omega) (by omega) (by omega) (by omega) (by omega) (by omega) (by omega) (by omega) (by omega) (by omega) (by omega) (by omega) (by omega) (by omega) (by omega) q_f_h_0_4_0_4 q_f_h_0_4_0_5 q_f_h_0_5_0_4 q_f_h_0_5_0_5).mono (fun _ _ h => h) (fun a st o t _ hq => ?_) (fun _ h => h)
  obtain ⟨⟨r, ⟨jX_F_h_0_0, jX_F_h_0_1, jX_F_h_0_2, jX_F_h_0_3, jX_F_h_0_4_2, jX_F_h_0_4_3, jX_F_h_0_4_4, jX_F_h_0_4_0_0, jX_F_h_0_4_0_1, jX_C_h_0_4_0_13, jX_C_h_0_4_0_12, jX_C_h_0_4_0_2, jX_C_h_0_4_0_3, jX_C_h_0_4_0_9, jX_C_h_0_4_0_4, jX_C_h_0_4_0_5, jX_C_h_0_4_0_8, jX_C_h_0_4_0_6, jX_C_h_0_4_0_7, jX_C_h_0_4_0_11, jX_C_h_0_4_0_10, jX_F_h_0_5_2, jX_F_h_0_5_3, jX_F_h_0_5_4, jX_F_h_0_5_0_0, jX_F_h_0_5_0_1, jX_C_h_0_5_0_13, jX_C_h_0_5_0_12, jX_C_h_0_5_0_2, jX_C_h_0_5_0_3, jX_C_h_0_5_0_9, jX_C_h_0_5_0_4, jX_C_h_0_5_0_5, jX_C_h_0_5_0_8, jX_C_h_0_5_0_6, jX_C_h_0_5_0_7, jX_C_h_0_5_0_11, jX_C_h_0_5_0_10, jX_C_h_0_4_5, jX_C_h_0_4_6, jX_C_h_0_4_1, jX_C_h_0_5_5, jX_C_h_0_5_6, jX_C_h_0_5_1⟩, ho, hp, hB⟩, hF⟩ := hq
  obtain ⟨p0, p1, p2, p3, p4, p5, p6, p7, p8, p9, p10, p11, p12, p13⟩ := hp
  exact ⟨⟨r, [(h, .inr (4, [.ref h_0, .ref h_1, .ref h_2, .int h_3, .int h_4, .ref h_5, .ref h_6, .ref h_7, .ref h_8, .ref h_9])), (h0, .inr (8, [.ref h0_0, .int h0_1])), (h0_0, .inl (a_h0_0, n_h0_0, .inl f_h0_0)), (h_1, .inr (8, [.ref h_1_0, .int h_1_1])), (h_1_0, .inl (a_h_1_0, n_h_1_0, .inl f_h_1_0)), (h_0, .inr (2, [.int jX_F_h_0_0, .int jX_F_h_0_1, .int jX_F_h_0_2, .int jX_F_h_0_3, .ref h_0_4, .ref h_0_5])), (h_0_4, .inr (3, [.ref h_0_4_0, .ref h_0_4_1, .int jX_F_h_0_4_2, .int jX_F_h_0_4_3, .int jX_F_h_0_4_4, .ref h_0_4_5, .ref h_0_4_6])), (h_0_4_0, .inr (1, [jX_F_h_0_4_0_0, .int jX_F_h_0_4_0_1, .ref h_0_4_0_2, .ref h_0_4_0_3, .ref h_0_4_0_4, .ref h_0_4_0_5, .ref h_0_4_0_6, .ref h_0_4_0_7, .ref h_0_4_0_8, .ref h_0_4_0_9, .ref h_0_4_0_10, .ref h_0_4_0_11, .ref h_0_4_0_12, .ref h_0_4_0_13])), (h_0_4_0_13, .inl (a_h_0_4_0_13, 480, .inl jX_C_h_0_4_0_13)), (h_0_4_0_12, .inl (a_h_0_4_0_12, 40, .inl jX_C_h_0_4_0_12)), (h_0_4_0_2, .inl (a_h_0_4_0_2, 40, .inl jX_C_h_0_4_0_2)), (h_0_4_0_3, .inl (a_h_0_4_0_3, 40, .inl jX_C_h_0_4_0_3)), (h_0_4_0_9, .inl (a_h_0_4_0_9, 40, .inl jX_C_h_0_4_0_9)), (h_0_4_0_4, .inl (a_h_0_4_0_4, 40, .inl jX_C_h_0_4_0_4)), (h_0_4_0_5, .inl (a_h_0_4_0_5, 40, .inl jX_C_h_0_4_0_5)), (h_0_4_0_8, .inl (a_h_0_4_0_8, 40, .inl jX_C_h_0_4_0_8)), (h_0_4_0_6, .inl (a_h_0_4_0_6, 40, .inl jX_C_h_0_4_0_6)), (h_0_4_0_7, .inl (a_h_0_4_0_7, 40, .inl jX_C_h_0_4_0_7)), (h_0_4_0_11, .inl (a_h_0_4_0_11, 40, .inl jX_C_h_0_4_0_11)), (h_0_4_0_10, .inl (a_h_0_4_0_10, 40, .inl jX_C_h_0_4_0_10)), (h_0_5, .inr (3, [.ref h_0_5_0, .ref h_0_5_1, .int jX_F_h_0_5_2, .int jX_F_h_0_5_3, .int jX_F_h_0_5_4, .ref h_0_5_5, .ref h_0_5_6])), (h_0_5_0, .inr (1, [jX_F_h_0_5_0_0, .int jX_F_h_0_5_0_1, .ref h_0_5_0_2, .ref h_0_5_0_3, .ref h_0_5_0_4, .ref h_0_5_0_5, .ref h_0_5_0_6, .ref h_0_5_0_7, .ref h_0_5_0_8, .ref h_0_5_0_9, .ref h_0_5_0_10, .ref h_0_5_0_11, .ref h_0_5_0_12, .ref h_0_5_0_13])), (h_0_5_0_13, .inl (a_h_0_5_0_13, 480, .inl jX_C_h_0_5_0_13)), (h_0_5_0_12, .inl (a_h_0_5_0_12, 40, .inl jX_C_h_0_5_0_12)), (h_0_5_0_2, .inl (a_h_0_5_0_2, 40, .inl jX_C_h_0_5_0_2)), (h_0_5_0_3, .inl (a_h_0_5_0_3, 40, .inl jX_C_h_0_5_0_3)), (h_0_5_0_9, .inl (a_h_0_5_0_9, 40, .inl jX_C_h_0_5_0_9)), (h_0_5_0_4, .inl (a_h_0_5_0_4, 40, .inl jX_C_h_0_5_0_4)), (h_0_5_0_5, .inl (a_h_0_5_0_5, 40, .inl jX_C_h_0_5_0_5)), (h_0_5_0_8, .inl (a_h_0_5_0_8, 40, .inl jX_C_h_0_5_0_8)), (h_0_5_0_6, .inl (a_h_0_5_0_6, 40, .inl jX_C_h_0_5_0_6)), (h_0_5_0_7, .inl (a_h_0_5_0_7, 40, .inl jX_C_h_0_5_0_7)), (h_0_5_0_11, .inl (a_h_0_5_0_11, 40, .inl jX_C_h_0_5_0_11)), (h_0_5_0_10, .inl (a_h_0_5_0_10, 40, .inl jX_C_h_0_5_0_10)), (h_0_4_5, .inl (a_h_0_4_5, 6, .inl jX_C_h_0_4_5)), (h_0_4_6, .inl (a_h_0_4_6, 300, .inl jX_C_h_0_4_6)), (h_0_4_1, .inl (a_h_0_4_1, 100, .inl jX_C_h_0_4_1)), (h_0_5_5, .inl (a_h_0_5_5, 6, .inl jX_C_h_0_5_5)), (h_0_5_6, .inl (a_h_0_5_6, 300, .inl jX_C_h_0_5_6)), (h_0_5_1, .inl (a_h_0_5_1, 100, .inl jX_C_h_0_5_1))], ho, ⟨⟨by omega, by omega⟩, ⟨⟨rfl, (h_3), (h_4), rfl⟩, ⟨rfl, (h0_1), rfl, by first | omega | decide, by first | omega | decide | (have : (0 : Int32).toInt = 0 := (by decide); omega)⟩, ⟨rfl, _, rfl, q_f_h0_0⟩, ⟨rfl, (h_1_1), rfl, by first | omega | decide, by first | omega | decide | (have : (0 : Int32).toInt = 0 := (by decide); omega)⟩, ⟨rfl, _, rfl, q_f_h_1_0⟩, ⟨rfl, (jX_F_h_0_0), (jX_F_h_0_1), (jX_F_h_0_2), (jX_F_h_0_3), rfl⟩, ⟨rfl, (jX_F_h_0_4_2), (jX_F_h_0_4_3), (jX_F_h_0_4_4), rfl, by first | omega | decide, by first | omega | decide | (have : (0 : Int32).toInt = 0 := (by decide); omega)⟩, ⟨rfl, jX_F_h_0_4_0_0, (jX_F_h_0_4_0_1), rfl, trivial, by first | omega | decide, by first | omega | decide | (have : (0 : Int32).toInt = 0 := (by decide); omega)⟩, ⟨rfl, _, rfl, cr_all _⟩, ⟨rfl, _, rfl, cr_all _⟩, ⟨rfl, _, rfl, cr_all _⟩, ⟨rfl, _, rfl, cr_all _⟩, ⟨rfl, _, rfl, cr_all _⟩, ⟨rfl, _, rfl, p10⟩, ⟨rfl, _, rfl, p11⟩, ⟨rfl, _, rfl, cr_all _⟩, ⟨rfl, _, rfl, cr_all _⟩, ⟨rfl, _, rfl, cr_all _⟩, ⟨rfl, _, rfl, cr_all _⟩, ⟨rfl, _, rfl, cr_all _⟩, ⟨rfl, (jX_F_h_0_5_2), (jX_F_h_0_5_3), (jX_F_h_0_5_4), rfl, by first | omega | decide, by first | omega | decide | (have : (0 : Int32).toInt = 0 := (by decide); omega)⟩, ⟨rfl, jX_F_h_0_5_0_0, (jX_F_h_0_5_0_1), rfl, trivial, by first | omega | decide, by first | omega | decide | (have : (0 : Int32).toInt = 0 := (by decide); omega)⟩, ⟨rfl, _, rfl, cr_all _⟩, ⟨rfl, _, rfl, cr_all _⟩, ⟨rfl, _, rfl, cr_all _⟩, ⟨rfl, _, rfl, cr_all _⟩, ⟨rfl, _, rfl, cr_all _⟩, ⟨rfl, _, rfl, p12⟩, ⟨rfl, _, rfl, p13⟩, ⟨rfl, _, rfl, cr_all _⟩, ⟨rfl, _, rfl, cr_all _⟩, ⟨rfl, _, rfl, cr_all _⟩, ⟨rfl, _, rfl, cr_all _⟩, ⟨rfl, _, rfl, cr_all _⟩, ⟨rfl, _, rfl, cr_all _⟩, ⟨rfl, _, rfl, cr_all _⟩, ⟨rfl, _, rfl, cr_all _⟩, ⟨rfl, _, rfl, cr_all _⟩, ⟨rfl, _, rfl, cr_all _⟩, ⟨rfl, _, rfl, cr_all _⟩, trivial⟩⟩, hB⟩, hF⟩
set_option maxHeartbeats 4000000 in
set_option maxRecDepth 100000 in
theorem wsX7_study (l : Launch) (D : va_G) (h h0 h_0 h_1 h_2 h_3 h_0_2 h_0_3 h_0_4 h_0_5 h_0_6 h_0_7 h_0_8 h_0_9 h_0_10 h_0_11 h_0_12 h_0_13 h0_0 : Nat) (a_h0_0 a_h_0_13 a_h_0_12 a_h_0_2 a_h_0_3 a_h_0_9 a_h_0_4 a_h_0_5 a_h_0_8 a_h_0_6 a_h_0_7 a_h_0_11 a_h_0_10 a_h_1 a_h_2 : ClassId) (n_h0_0 : Nat) (sz : Nat) (k_n_h0_0 : n_h0_0 ≤ 1000) (k_p_h0_0 : 1 ≤ n_h0_0) (cs : List Cl) (hs : ShL [kC h (eX7 h_0 h_1 h_2 h_3), kC h_0 (eX1 PTr h_0_2 h_0_3 h_0_4 h_0_5 h_0_6 h_0_7 h_0_8 h_0_9 h_0_10 h_0_11 h_0_12 h_0_13), kC h0 (eX8 n_h0_0 h0_0), kC h0_0 (eArr n_h0_0 (-2147483648) 2147483647 a_h0_0), kC h_0_13 (eArr 480 (-2147483648) 2147483647 a_h_0_13), kC h_0_12 (eArr 40 (-2147483648) 2147483647 a_h_0_12), kC h_0_2 (eArr 40 (-2147483648) 2147483647 a_h_0_2), kC h_0_3 (eArr 40 (-2147483648) 2147483647 a_h_0_3), kC h_0_9 (eArr 40 (-2147483648) 2147483647 a_h_0_9), kC h_0_4 (eArr 40 (0) 2000 a_h_0_4), kC h_0_5 (eArr 40 (0) 2000 a_h_0_5), kC h_0_8 (eArr 40 (-2147483648) 2147483647 a_h_0_8), kC h_0_6 (eArr 40 (-2147483648) 2147483647 a_h_0_6), kC h_0_7 (eArr 40 (-2147483648) 2147483647 a_h_0_7), kC h_0_11 (eArr 40 (-2147483648) 2147483647 a_h_0_11), kC h_0_10 (eArr 40 (-2147483648) 2147483647 a_h_0_10), kC h_1 (eArr 6 (-2147483648) 2147483647 a_h_1), kC h_2 (eArr 6 (-2147483648) 2147483647 a_h_2)] cs) : Met l yX7_study (Cond.code yX7_study cX7_study 3 none :: gG) { frames := 5, cells := 0, slots := 0, locals := 152 } (cPre D [(a_h0_0, .int), (a_h_0_13, .int), (a_h_0_12, .int), (a_h_0_2, .int), (a_h_0_3, .int), (a_h_0_9, .int), (a_h_0_4, .int), (a_h_0_5, .int), (a_h_0_8, .int), (a_h_0_6, .int), (a_h_0_7, .int), (a_h_0_11, .int), (a_h_0_10, .int), (a_h_1, .int), (a_h_2, .int)] cs sz [.ref h, .ref h0]) (va_Qv (fun (u : va_W) => (True) ∧ ShL [kC h (eX7 h_0 h_1 h_2 h_3), kC h_0 (eX1 (fun v _ => v = .ref h0) h_0_2 h_0_3 h_0_4 h_0_5 h_0_6 h_0_7 h_0_8 h_0_9 h_0_10 h_0_11 h_0_12 h_0_13), kC h0 (eX8 n_h0_0 h0_0), kC h0_0 (eArr n_h0_0 (-2147483648) 2147483647 a_h0_0), kC h_0_13 (eArr 480 (-2147483648) 2147483647 a_h_0_13), kC h_0_12 (eArr 40 (-2147483648) 2147483647 a_h_0_12), kC h_0_2 (eArr 40 (-2147483648) 2147483647 a_h_0_2), kC h_0_3 (eArr 40 (-2147483648) 2147483647 a_h_0_3), kC h_0_9 (eArr 40 (-2147483648) 2147483647 a_h_0_9), kC h_0_4 (eArr 40 (0) 2000 a_h_0_4), kC h_0_5 (eArr 40 (0) 2000 a_h_0_5), kC h_0_8 (eArr 40 (-2147483648) 2147483647 a_h_0_8), kC h_0_6 (eArr 40 (-2147483648) 2147483647 a_h_0_6), kC h_0_7 (eArr 40 (-2147483648) 2147483647 a_h_0_7), kC h_0_11 (eArr 40 (-2147483648) 2147483647 a_h_0_11), kC h_0_10 (eArr 40 (-2147483648) 2147483647 a_h_0_10), kC h_1 (eArr 6 (-2147483648) 2147483647 a_h_1), kC h_2 (eArr 6 (-2147483648) 2147483647 a_h_2)] u) (fun u t => cB D (va_A cs sz) [] u t) (va_A cs sz)) 0 0 (va_A cs sz) := by
  obtain ⟨c0, cs0, rfl, g0, hs0⟩ := ShL.cons hs
  obtain ⟨_, rfl, h_4, rfl⟩ := kC.of g0
  obtain ⟨c1, cs1, rfl, g1, hs1⟩ := ShL.cons hs0
  obtain ⟨_, rfl, h_0_0, h_0_1, rfl, _, k1_1_lo, k1_1_hi⟩ := kC.of g1
  obtain ⟨c2, cs2, rfl, g2, hs2⟩ := ShL.cons hs1
  obtain ⟨_, rfl, h0_1, rfl, k2_1_lo, k2_1_hi⟩ := kC.of g2
  obtain ⟨c3, cs3, rfl, g3, hs3⟩ := ShL.cons hs2
  obtain ⟨_, rfl, f_h0_0, rfl, q_f_h0_0⟩ := kC.of g3
  obtain ⟨c4, cs4, rfl, g4, hs4⟩ := ShL.cons hs3
  obtain ⟨_, rfl, f_h_0_13, rfl, q_f_h_0_13⟩ := kC.of g4
  obtain ⟨c5, cs5, rfl, g5, hs5⟩ := ShL.cons hs4
  obtain ⟨_, rfl, f_h_0_12, rfl, q_f_h_0_12⟩ := kC.of g5
  obtain ⟨c6, cs6, rfl, g6, hs6⟩ := ShL.cons hs5
  obtain ⟨_, rfl, f_h_0_2, rfl, q_f_h_0_2⟩ := kC.of g6
  obtain ⟨c7, cs7, rfl, g7, hs7⟩ := ShL.cons hs6
  obtain ⟨_, rfl, f_h_0_3, rfl, q_f_h_0_3⟩ := kC.of g7
  obtain ⟨c8, cs8, rfl, g8, hs8⟩ := ShL.cons hs7
  obtain ⟨_, rfl, f_h_0_9, rfl, q_f_h_0_9⟩ := kC.of g8
  obtain ⟨c9, cs9, rfl, g9, hs9⟩ := ShL.cons hs8
  obtain ⟨_, rfl, f_h_0_4, rfl, q_f_h_0_4⟩ := kC.of g9
  obtain ⟨c10, cs10, rfl, g10, hs10⟩ := ShL.cons hs9
  obtain ⟨_, rfl, f_h_0_5, rfl, q_f_h_0_5⟩ := kC.of g10
  obtain ⟨c11, cs11, rfl, g11, hs11⟩ := ShL.cons hs10
  obtain ⟨_, rfl, f_h_0_8, rfl, q_f_h_0_8⟩ := kC.of g11
  obtain ⟨c12, cs12, rfl, g12, hs12⟩ := ShL.cons hs11
  obtain ⟨_, rfl, f_h_0_6, rfl, q_f_h_0_6⟩ := kC.of g12
  obtain ⟨c13, cs13, rfl, g13, hs13⟩ := ShL.cons hs12
  obtain ⟨_, rfl, f_h_0_7, rfl, q_f_h_0_7⟩ := kC.of g13
  obtain ⟨c14, cs14, rfl, g14, hs14⟩ := ShL.cons hs13
  obtain ⟨_, rfl, f_h_0_11, rfl, q_f_h_0_11⟩ := kC.of g14
  obtain ⟨c15, cs15, rfl, g15, hs15⟩ := ShL.cons hs14
  obtain ⟨_, rfl, f_h_0_10, rfl, q_f_h_0_10⟩ := kC.of g15
  obtain ⟨c16, cs16, rfl, g16, hs16⟩ := ShL.cons hs15
  obtain ⟨_, rfl, f_h_1, rfl, q_f_h_1⟩ := kC.of g16
  obtain ⟨c17, cs17, rfl, g17, hs17⟩ := ShL.cons hs16
  obtain ⟨_, rfl, f_h_2, rfl, q_f_h_2⟩ := kC.of g17
  obtain rfl := ShL.nil hs17
  refine (sX7_study l D h h0 h_0 h_1 h_2 h_3 h_4 h_0_0 h_0_1 h_0_2 h_0_3 h_0_4 h_0_5 h_0_6 h_0_7 h_0_8 h_0_9 h_0_10 h_0_11 h_0_12 h_0_13 h0_0 h0_1 n_h0_0 a_h0_0 f_h0_0 a_h_0_13 f_h_0_13 a_h_0_12 f_h_0_12 a_h_0_2 f_h_0_2 a_h_0_3 f_h_0_3 a_h_0_9 f_h_0_9 a_h_0_4 f_h_0_4 a_h_0_5 f_h_0_5 a_h_0_8 f_h_0_8 a_h_0_6 f_h_0_6 a_h_0_7 f_h_0_7 a_h_0_11 f_h_0_11 a_h_0_10 f_h_0_10 a_h_1 f_h_1 a_h_2 f_h_2 sz (by omega) (by omega) (by omega) (by omega) (by omega) (by omega) q_f_h_0_4 q_f_h_0_5).mono (fun _ _ h => h) (fun a st o t _ hq => ?_) (fun _ h => h)
  obtain ⟨⟨⟨jX_F_h_4, jX_F_h_0_1, jX_C_h_0_13, jX_C_h_0_12, jX_C_h_0_2, jX_C_h_0_3, jX_C_h_0_9, jX_C_h_0_4, jX_C_h_0_5, jX_C_h_0_8, jX_C_h_0_6, jX_C_h_0_7, jX_C_h_0_11, jX_C_h_0_10, jX_C_h_1, jX_C_h_2⟩, ho, hp, hB⟩, hF⟩ := hq
  obtain ⟨p0, p1, p2, p3, p4, p5⟩ := hp
  exact ⟨⟨[(h, .inr (7, [.ref h_0, .ref h_1, .ref h_2, .ref h_3, .int jX_F_h_4])), (h_0, .inr (1, [.ref h0, .int jX_F_h_0_1, .ref h_0_2, .ref h_0_3, .ref h_0_4, .ref h_0_5, .ref h_0_6, .ref h_0_7, .ref h_0_8, .ref h_0_9, .ref h_0_10, .ref h_0_11, .ref h_0_12, .ref h_0_13])), (h0, .inr (8, [.ref h0_0, .int h0_1])), (h0_0, .inl (a_h0_0, n_h0_0, .inl f_h0_0)), (h_0_13, .inl (a_h_0_13, 480, .inl jX_C_h_0_13)), (h_0_12, .inl (a_h_0_12, 40, .inl jX_C_h_0_12)), (h_0_2, .inl (a_h_0_2, 40, .inl jX_C_h_0_2)), (h_0_3, .inl (a_h_0_3, 40, .inl jX_C_h_0_3)), (h_0_9, .inl (a_h_0_9, 40, .inl jX_C_h_0_9)), (h_0_4, .inl (a_h_0_4, 40, .inl jX_C_h_0_4)), (h_0_5, .inl (a_h_0_5, 40, .inl jX_C_h_0_5)), (h_0_8, .inl (a_h_0_8, 40, .inl jX_C_h_0_8)), (h_0_6, .inl (a_h_0_6, 40, .inl jX_C_h_0_6)), (h_0_7, .inl (a_h_0_7, 40, .inl jX_C_h_0_7)), (h_0_11, .inl (a_h_0_11, 40, .inl jX_C_h_0_11)), (h_0_10, .inl (a_h_0_10, 40, .inl jX_C_h_0_10)), (h_1, .inl (a_h_1, 6, .inl jX_C_h_1)), (h_2, .inl (a_h_2, 6, .inl jX_C_h_2))], ho, ⟨trivial, ⟨⟨rfl, (jX_F_h_4), rfl⟩, ⟨rfl, (.ref h0), (jX_F_h_0_1), rfl, rfl, by first | omega | decide, by first | omega | decide | (have : (0 : Int32).toInt = 0 := (by decide); omega)⟩, ⟨rfl, (h0_1), rfl, by first | omega | decide, by first | omega | decide | (have : (0 : Int32).toInt = 0 := (by decide); omega)⟩, ⟨rfl, _, rfl, q_f_h0_0⟩, ⟨rfl, _, rfl, cr_all _⟩, ⟨rfl, _, rfl, cr_all _⟩, ⟨rfl, _, rfl, cr_all _⟩, ⟨rfl, _, rfl, cr_all _⟩, ⟨rfl, _, rfl, cr_all _⟩, ⟨rfl, _, rfl, p4⟩, ⟨rfl, _, rfl, p5⟩, ⟨rfl, _, rfl, cr_all _⟩, ⟨rfl, _, rfl, cr_all _⟩, ⟨rfl, _, rfl, cr_all _⟩, ⟨rfl, _, rfl, cr_all _⟩, ⟨rfl, _, rfl, cr_all _⟩, ⟨rfl, _, rfl, cr_all _⟩, ⟨rfl, _, rfl, cr_all _⟩, trivial⟩⟩, hB⟩, hF⟩
set_option maxHeartbeats 4000000 in
set_option maxRecDepth 100000 in
theorem wsX7_fewest (l : Launch) (D : va_G) (h h_0 h_1 h_2 h_3 : Nat) (a_h_3 a_h_1 : ClassId) (sz : Nat) (cs : List Cl) (hs : ShL [kC h (eX7 h_0 h_1 h_2 h_3), kC h_3 (eArr 6 (-2147483648) 2147483647 a_h_3), kC h_1 (eArr 6 (-2147483648) 2147483647 a_h_1)] cs) : Met l yX7_fewest (Cond.code yX7_fewest cX7_fewest 2 (some .int) :: gG) { frames := 10, cells := 0, slots := 0, locals := 273 } (cPre D [(a_h_3, .int), (a_h_1, .int)] cs sz [.ref h]) (va_Qi (fun (r : Int32) (u : va_W) => (0 ≤ r.toInt ∧ r.toInt ≤ 6) ∧ ShL [kC h (eX7 h_0 h_1 h_2 h_3), kC h_3 (eArr 6 (-2147483648) 2147483647 a_h_3), kC h_1 (eArr 6 (-2147483648) 2147483647 a_h_1)] u) (fun u t => cB D (va_A cs sz) [] u t) (va_A cs sz)) 0 0 (va_A cs sz) := by
  obtain ⟨c0, cs0, rfl, g0, hs0⟩ := ShL.cons hs
  obtain ⟨_, rfl, h_4, rfl⟩ := kC.of g0
  obtain ⟨c1, cs1, rfl, g1, hs1⟩ := ShL.cons hs0
  obtain ⟨_, rfl, f_h_3, rfl, q_f_h_3⟩ := kC.of g1
  obtain ⟨c2, cs2, rfl, g2, hs2⟩ := ShL.cons hs1
  obtain ⟨_, rfl, f_h_1, rfl, q_f_h_1⟩ := kC.of g2
  obtain rfl := ShL.nil hs2
  refine (sX7_fewest l D h h_0 h_1 h_2 h_3 h_4 a_h_3 f_h_3 a_h_1 f_h_1 sz  ).mono (fun _ _ h => h) (fun a st o t _ hq => ?_) (fun _ h => h)
  obtain ⟨⟨r, jX_C_h_3, ho, hp, hB⟩, hF⟩ := hq
  obtain ⟨p0, p1⟩ := hp
  exact ⟨⟨r, [(h, .inr (7, [.ref h_0, .ref h_1, .ref h_2, .ref h_3, .int h_4])), (h_3, .inl (a_h_3, 6, .inl jX_C_h_3)), (h_1, .inl (a_h_1, 6, .inl f_h_1))], ho, ⟨⟨by omega, by omega⟩, ⟨⟨rfl, (h_4), rfl⟩, ⟨rfl, _, rfl, cr_all _⟩, ⟨rfl, _, rfl, q_f_h_1⟩, trivial⟩⟩, hB⟩, hF⟩
set_option maxHeartbeats 4000000 in
set_option maxRecDepth 100000 in
theorem wsX7_registerOf (l : Launch) (D : va_G) (h h_0 h_1 h_2 h_3 : Nat) (a_h_3 a_h_1 : ClassId) (x0 : Int32) (sz : Nat) (cs : List Cl) (hs : ShL [kC h (eX7 h_0 h_1 h_2 h_3), kC h_3 (eArr 6 (-2147483648) 2147483647 a_h_3), kC h_1 (eArr 6 (-2147483648) 2147483647 a_h_1)] cs) : Met l yX7_registerOf (Cond.code yX7_registerOf cX7_registerOf 2 (some .int) :: gG) { frames := 11, cells := 0, slots := 0, locals := 294 } (cPre D [(a_h_3, .int), (a_h_1, .int)] cs sz [.ref h, .int x0]) (va_Qi (fun (r : Int32) (u : va_W) => (True) ∧ ShL [kC h (eX7 h_0 h_1 h_2 h_3), kC h_3 (eArr 6 (-2147483648) 2147483647 a_h_3), kC h_1 (eArr 6 (-2147483648) 2147483647 a_h_1)] u) (fun u t => cB D (va_A cs sz) [] u t) (va_A cs sz)) 0 0 (va_A cs sz) := by
  obtain ⟨c0, cs0, rfl, g0, hs0⟩ := ShL.cons hs
  obtain ⟨_, rfl, h_4, rfl⟩ := kC.of g0
  obtain ⟨c1, cs1, rfl, g1, hs1⟩ := ShL.cons hs0
  obtain ⟨_, rfl, f_h_3, rfl, q_f_h_3⟩ := kC.of g1
  obtain ⟨c2, cs2, rfl, g2, hs2⟩ := ShL.cons hs1
  obtain ⟨_, rfl, f_h_1, rfl, q_f_h_1⟩ := kC.of g2
  obtain rfl := ShL.nil hs2
  refine (sX7_registerOf l D h x0 h_0 h_1 h_2 h_3 h_4 a_h_3 f_h_3 a_h_1 f_h_1 sz  ).mono (fun _ _ h => h) (fun a st o t _ hq => ?_) (fun _ h => h)
  obtain ⟨⟨r, jX_C_h_3, ho, hp, hB⟩, hF⟩ := hq
  exact ⟨⟨r, [(h, .inr (7, [.ref h_0, .ref h_1, .ref h_2, .ref h_3, .int h_4])), (h_3, .inl (a_h_3, 6, .inl jX_C_h_3)), (h_1, .inl (a_h_1, 6, .inl f_h_1))], ho, ⟨trivial, ⟨⟨rfl, (h_4), rfl⟩, ⟨rfl, _, rfl, cr_all _⟩, ⟨rfl, _, rfl, q_f_h_1⟩, trivial⟩⟩, hB⟩, hF⟩
set_option maxHeartbeats 4000000 in
set_option maxRecDepth 100000 in
theorem wsX7_spills (l : Launch) (D : va_G) (h h_0 h_1 h_2 h_3 : Nat) (a_h_2 a_h_3 a_h_1 : ClassId) (x0 : Int32) (sz : Nat) (k_x0_lo : 0 ≤ x0.toInt) (k_x0_hi : x0.toInt ≤ 6) (cs : List Cl) (hs : ShL [kC h (eX7 h_0 h_1 h_2 h_3), kC h_2 (eArr 6 (-2147483648) 2147483647 a_h_2), kC h_3 (eArr 6 (-2147483648) 2147483647 a_h_3), kC h_1 (eArr 6 (-2147483648) 2147483647 a_h_1)] cs) : Met l yX7_spills (Cond.code yX7_spills cX7_spills 6 (some .int) :: gG) { frames := 10, cells := 0, slots := 0, locals := 273 } (cPre D [(a_h_2, .int), (a_h_3, .int), (a_h_1, .int)] cs sz [.ref h, .int x0]) (va_Qi (fun (r : Int32) (u : va_W) => (True) ∧ ShL [kC h (eX7 h_0 h_1 h_2 h_3), kC h_2 (eArr 6 (-2147483648) 2147483647 a_h_2), kC h_3 (eArr 6 (-2147483648) 2147483647 a_h_3), kC h_1 (eArr 6 (-2147483648) 2147483647 a_h_1)] u) (fun u t => cB D (va_A cs sz) [] u t) (va_A cs sz)) 0 0 (va_A cs sz) := by
  obtain ⟨c0, cs0, rfl, g0, hs0⟩ := ShL.cons hs
  obtain ⟨_, rfl, h_4, rfl⟩ := kC.of g0
  obtain ⟨c1, cs1, rfl, g1, hs1⟩ := ShL.cons hs0
  obtain ⟨_, rfl, f_h_2, rfl, q_f_h_2⟩ := kC.of g1
  obtain ⟨c2, cs2, rfl, g2, hs2⟩ := ShL.cons hs1
  obtain ⟨_, rfl, f_h_3, rfl, q_f_h_3⟩ := kC.of g2
  obtain ⟨c3, cs3, rfl, g3, hs3⟩ := ShL.cons hs2
  obtain ⟨_, rfl, f_h_1, rfl, q_f_h_1⟩ := kC.of g3
  obtain rfl := ShL.nil hs3
  refine (sX7_spills l D h x0 h_0 h_1 h_2 h_3 h_4 a_h_2 f_h_2 a_h_3 f_h_3 a_h_1 f_h_1 sz (by omega) (by omega) ).mono (fun _ _ h => h) (fun a st o t _ hq => ?_) (fun _ h => h)
  obtain ⟨⟨r, jX_C_h_3, ho, hp, hB⟩, hF⟩ := hq
  exact ⟨⟨r, [(h, .inr (7, [.ref h_0, .ref h_1, .ref h_2, .ref h_3, .int h_4])), (h_2, .inl (a_h_2, 6, .inl f_h_2)), (h_3, .inl (a_h_3, 6, .inl jX_C_h_3)), (h_1, .inl (a_h_1, 6, .inl f_h_1))], ho, ⟨trivial, ⟨⟨rfl, (h_4), rfl⟩, ⟨rfl, _, rfl, q_f_h_2⟩, ⟨rfl, _, rfl, cr_all _⟩, ⟨rfl, _, rfl, q_f_h_1⟩, trivial⟩⟩, hB⟩, hF⟩
set_option maxHeartbeats 4000000 in
set_option maxRecDepth 100000 in
theorem wsX7_clashing (l : Launch) (D : va_G) (h h_0 h_1 h_2 h_3 : Nat) (a_h_1 : ClassId) (x0 x1 : Int32) (sz : Nat) (cs : List Cl) (hs : ShL [kC h (eX7 h_0 h_1 h_2 h_3), kC h_1 (eArr 6 (-2147483648) 2147483647 a_h_1)] cs) : Met l yX7_clashing (Cond.code yX7_clashing cX7_clashing 3 (some .boolean) :: gG) { frames := 2, cells := 0, slots := 0, locals := 84 } (cPre D [(a_h_1, .int)] cs sz [.ref h, .int x0, .int x1]) (vp_Si (fun r => 0 ≤ r.toInt ∧ r.toInt ≤ 1)) 0 0 (fun _ => False) := by
  obtain ⟨c0, cs0, rfl, g0, hs0⟩ := ShL.cons hs
  obtain ⟨_, rfl, h_4, rfl⟩ := kC.of g0
  obtain ⟨c1, cs1, rfl, g1, hs1⟩ := ShL.cons hs0
  obtain ⟨_, rfl, f_h_1, rfl, q_f_h_1⟩ := kC.of g1
  obtain rfl := ShL.nil hs1
  refine (sX7_clashing l D h x0 x1 h_0 h_1 h_2 h_3 h_4 a_h_1 f_h_1 sz  ).mono (fun _ _ h => h) (fun a st o t _ hq => ?_) (fun _ h => h)
  obtain ⟨r, ho, hp, hh⟩ := hq
  exact ⟨r, ho, (by obtain ⟨p0, p1⟩ := hp; exact ⟨by omega, by omega⟩), hh⟩
set_option maxHeartbeats 4000000 in
set_option maxRecDepth 100000 in
theorem wtX11_feed (l : Launch) (D : va_G) (T : Value → Prop) (h h_0 h_2 h_3 h_4 h_5 h_6 h_7 h_3_0 h_3_14 h_3_15 h_3_16 h_3_0_0 : Nat) (a_h_3_0_0 : ClassId) (x0 x1 x2 x3 x4 : Int32) (sz : Nat) (cs : List Cl) (hs : ShL [kC h (eX11 h_0 h_2 h_3 h_4 h_5 h_6 h_7), kC h_3 (eX6 PR h_3_0 h_3_14 h_3_15 h_3_16), kC h_3_0 (eX10 (fun v _ => T v) h_3_0_0), kC h_3_0_0 (eArr 800 (-2147483648) 2147483647 a_h_3_0_0)] cs) : Met l yX11_feed (Cond.code yX11_feed cX11_feed 7 (some .int) :: gG) { frames := 2, cells := 0, slots := 0, locals := 86 } (cPre D [(a_h_3_0_0, .int)] cs sz [.ref h, .int x0, .int x1, .int x2, .int x3, .int x4]) (va_Qi (fun (r : Int32) (u : va_W) => (-1 ≤ r.toInt ∧ r.toInt ≤ 800) ∧ ShL [kC h (eX11 h_0 h_2 h_3 h_4 h_5 h_6 h_7), kC h_3 (eX6 PR h_3_0 h_3_14 h_3_15 h_3_16), kC h_3_0 (eX10 PTr h_3_0_0), kC h_3_0_0 (eArr 800 (-2147483648) 2147483647 a_h_3_0_0)] u) (fun u t => cB D (va_A cs sz) [] u t) (va_A cs sz)) 0 0 (va_A cs sz) := by
  obtain ⟨c0, cs0, rfl, g0, hs0⟩ := ShL.cons hs
  obtain ⟨_, rfl, h_1, rfl, k0_1_lo, k0_1_hi⟩ := kC.of g0
  obtain ⟨c1, cs1, rfl, g1, hs1⟩ := ShL.cons hs0
  obtain ⟨_, rfl, h_3_1, h_3_2, v3_, h_3_4, h_3_5, h_3_6, h_3_7, h_3_8, h_3_9, h_3_10, h_3_11, h_3_12, h_3_13, rfl, ⟨h_3_3, rfl⟩, k1_7_lo, k1_7_hi, k1_9_lo, k1_9_hi, k1_13_lo, k1_13_hi⟩ := kC.of g1
  obtain ⟨c2, cs2, rfl, g2, hs2⟩ := ShL.cons hs1
  obtain ⟨_, rfl, h_3_0_1, h_3_0_2, h_3_0_3, h_3_0_4, h_3_0_5, rfl, hT, k2_1_lo, k2_1_hi⟩ := kC.of g2
  obtain ⟨c3, cs3, rfl, g3, hs3⟩ := ShL.cons hs2
  obtain ⟨_, rfl, f_h_3_0_0, rfl, q_f_h_3_0_0⟩ := kC.of g3
  obtain rfl := ShL.nil hs3
  refine (tX11_feed l D h x0 x1 x2 x3 x4 h_0 h_1 h_2 h_3 h_4 h_5 h_6 h_7 h_3_0 h_3_1 h_3_2 h_3_3 h_3_4 h_3_5 h_3_6 h_3_7 h_3_8 h_3_9 h_3_10 h_3_11 h_3_12 h_3_13 h_3_14 h_3_15 h_3_16 h_3_0_0 h_3_0_1 h_3_0_2 h_3_0_3 h_3_0_4 h_3_0_5 a_h_3_0_0 f_h_3_0_0 sz (by omega) (by omega) (by omega) (by omega) (by omega) (by omega) (by omega) (by omega) ).mono (fun _ _ h => h) (fun a st o t _ hq => ?_) (fun _ h => h)
  obtain ⟨⟨r, ⟨jX_F_h_3_0_1, jX_C_h_3_0_0⟩, ho, hp, hB⟩, hF⟩ := hq
  obtain ⟨p0, p1, p2, p3, p4, p5⟩ := hp
  exact ⟨⟨r, [(h, .inr (11, [.ref h_0, .int h_1, .ref h_2, .ref h_3, .ref h_4, .ref h_5, .ref h_6, .ref h_7])), (h_3, .inr (6, [.ref h_3_0, .int h_3_1, .int h_3_2, .ref h_3_3, h_3_4, .int h_3_5, .int h_3_6, .int h_3_7, .int h_3_8, .int h_3_9, .int h_3_10, .int h_3_11, .int h_3_12, .int h_3_13, .ref h_3_14, .ref h_3_15, .ref h_3_16])), (h_3_0, .inr (10, [.ref h_3_0_0, .int jX_F_h_3_0_1, .int h_3_0_2, .int h_3_0_3, .int h_3_0_4, .int h_3_0_5])), (h_3_0_0, .inl (a_h_3_0_0, 800, .inl jX_C_h_3_0_0))], ho, ⟨⟨by omega, by omega⟩, ⟨⟨rfl, (h_1), rfl, by first | omega | decide, by first | omega | decide | (have : (0 : Int32).toInt = 0 := (by decide); omega)⟩, ⟨rfl, (h_3_1), (h_3_2), (.ref h_3_3), h_3_4, (h_3_5), (h_3_6), (h_3_7), (h_3_8), (h_3_9), (h_3_10), (h_3_11), (h_3_12), (h_3_13), rfl, ⟨_, rfl⟩, by first | omega | decide, by first | omega | decide | (have : (0 : Int32).toInt = 0 := (by decide); omega), by first | omega | decide, by first | omega | decide | (have : (0 : Int32).toInt = 0 := (by decide); omega), by first | omega | decide, by first | omega | decide | (have : (0 : Int32).toInt = 0 := (by decide); omega)⟩, ⟨rfl, (jX_F_h_3_0_1), (h_3_0_2), (h_3_0_3), (h_3_0_4), (h_3_0_5), rfl, trivial, by first | omega | decide, by first | omega | decide | (have : (0 : Int32).toInt = 0 := (by decide); omega)⟩, ⟨rfl, _, rfl, cr_all _⟩, trivial⟩⟩, hB⟩, hF⟩
set_option maxHeartbeats 4000000 in
set_option maxRecDepth 100000 in
theorem wtX11_end (l : Launch) (D : va_G) (T : Value → Prop) (h h_0 h_2 h_3 h_4 h_5 h_6 h_7 h_3_0 h_3_14 h_3_15 h_3_16 h_3_0_0 : Nat) (x0 : Int32) (sz : Nat) (cs : List Cl) (hs : ShL [kC h (eX11 h_0 h_2 h_3 h_4 h_5 h_6 h_7), kC h_3 (eX6 PR h_3_0 h_3_14 h_3_15 h_3_16), kC h_3_0 (eX10 (fun v _ => T v) h_3_0_0)] cs) : Met l yX11_end (Cond.code yX11_end cX11_end 2 (some .boolean) :: gG) { frames := 2, cells := 0, slots := 0, locals := 85 } (cPre D [] cs sz [.ref h, .int x0]) (va_Qi (fun (r : Int32) (u : va_W) => (0 ≤ r.toInt ∧ r.toInt ≤ 1) ∧ ShL [kC h (eX11 h_0 h_2 h_3 h_4 h_5 h_6 h_7), kC h_3 (eX6 PR h_3_0 h_3_14 h_3_15 h_3_16), kC h_3_0 (eX10 PTr h_3_0_0)] u) (fun u t => cB D (va_A cs sz) [] u t) (va_A cs sz)) 0 0 (va_A cs sz) := by
  obtain ⟨c0, cs0, rfl, g0, hs0⟩ := ShL.cons hs
  obtain ⟨_, rfl, h_1, rfl, k0_1_lo, k0_1_hi⟩ := kC.of g0
  obtain ⟨c1, cs1, rfl, g1, hs1⟩ := ShL.cons hs0
  obtain ⟨_, rfl, h_3_1, h_3_2, v3_, h_3_4, h_3_5, h_3_6, h_3_7, h_3_8, h_3_9, h_3_10, h_3_11, h_3_12, h_3_13, rfl, ⟨h_3_3, rfl⟩, k1_7_lo, k1_7_hi, k1_9_lo, k1_9_hi, k1_13_lo, k1_13_hi⟩ := kC.of g1
  obtain ⟨c2, cs2, rfl, g2, hs2⟩ := ShL.cons hs1
  obtain ⟨_, rfl, h_3_0_1, h_3_0_2, h_3_0_3, h_3_0_4, h_3_0_5, rfl, hT, k2_1_lo, k2_1_hi⟩ := kC.of g2
  obtain rfl := ShL.nil hs2
  refine (tX11_end l D h x0 h_0 h_1 h_2 h_3 h_4 h_5 h_6 h_7 h_3_0 h_3_1 h_3_2 h_3_3 h_3_4 h_3_5 h_3_6 h_3_7 h_3_8 h_3_9 h_3_10 h_3_11 h_3_12 h_3_13 h_3_14 h_3_15 h_3_16 h_3_0_0 h_3_0_1 h_3_0_2 h_3_0_3 h_3_0_4 h_3_0_5 sz (by omega) (by omega) (by omega) (by omega) (by omega) (by omega) (by omega) (by omega) ).mono (fun _ _ h => h) (fun a st o t _ hq => ?_) (fun _ h => h)
  obtain ⟨⟨r, jX_F_h_3_0_1, ho, hp, hB⟩, hF⟩ := hq
  obtain ⟨p0, p1, p2, p3, p4⟩ := hp
  exact ⟨⟨r, [(h, .inr (11, [.ref h_0, .int h_1, .ref h_2, .ref h_3, .ref h_4, .ref h_5, .ref h_6, .ref h_7])), (h_3, .inr (6, [.ref h_3_0, .int h_3_1, .int h_3_2, .ref h_3_3, h_3_4, .int h_3_5, .int h_3_6, .int h_3_7, .int h_3_8, .int h_3_9, .int h_3_10, .int h_3_11, .int h_3_12, .int h_3_13, .ref h_3_14, .ref h_3_15, .ref h_3_16])), (h_3_0, .inr (10, [.ref h_3_0_0, .int jX_F_h_3_0_1, .int h_3_0_2, .int h_3_0_3, .int h_3_0_4, .int h_3_0_5]))], ho, ⟨⟨by omega, by omega⟩, ⟨⟨rfl, (h_1), rfl, by first | omega | decide, by first | omega | decide | (have : (0 : Int32).toInt = 0 := (by decide); omega)⟩, ⟨rfl, (h_3_1), (h_3_2), (.ref h_3_3), h_3_4, (h_3_5), (h_3_6), (h_3_7), (h_3_8), (h_3_9), (h_3_10), (h_3_11), (h_3_12), (h_3_13), rfl, ⟨_, rfl⟩, by first | omega | decide, by first | omega | decide | (have : (0 : Int32).toInt = 0 := (by decide); omega), by first | omega | decide, by first | omega | decide | (have : (0 : Int32).toInt = 0 := (by decide); omega), by first | omega | decide, by first | omega | decide | (have : (0 : Int32).toInt = 0 := (by decide); omega)⟩, ⟨rfl, (jX_F_h_3_0_1), (h_3_0_2), (h_3_0_3), (h_3_0_4), (h_3_0_5), rfl, trivial, by first | omega | decide, by first | omega | decide | (have : (0 : Int32).toInt = 0 := (by decide); omega)⟩, trivial⟩⟩, hB⟩, hF⟩
set_option maxHeartbeats 4000000 in
set_option maxRecDepth 100000 in
theorem wtX11_fault (l : Launch) (D : va_G) (h h_0 h_2 h_3 h_4 h_5 h_6 h_7 h_3_0 h_3_14 h_3_15 h_3_16 : Nat) (x0 : Int32) (sz : Nat) (cs : List Cl) (hs : ShL [kC h (eX11 h_0 h_2 h_3 h_4 h_5 h_6 h_7), kC h_3 (eX6 PR h_3_0 h_3_14 h_3_15 h_3_16)] cs) : Met l yX11_fault (Cond.code yX11_fault cX11_fault 2 (some .int) :: gG) { frames := 1, cells := 0, slots := 0, locals := 64 } (cPre D [] cs sz [.ref h, .int x0]) (vp_Si (fun r => True)) 0 0 (fun _ => False) := by
  obtain ⟨c0, cs0, rfl, g0, hs0⟩ := ShL.cons hs
  obtain ⟨_, rfl, h_1, rfl, k0_1_lo, k0_1_hi⟩ := kC.of g0
  obtain ⟨c1, cs1, rfl, g1, hs1⟩ := ShL.cons hs0
  obtain ⟨_, rfl, h_3_1, h_3_2, v3_, h_3_4, h_3_5, h_3_6, h_3_7, h_3_8, h_3_9, h_3_10, h_3_11, h_3_12, h_3_13, rfl, ⟨h_3_3, rfl⟩, k1_7_lo, k1_7_hi, k1_9_lo, k1_9_hi, k1_13_lo, k1_13_hi⟩ := kC.of g1
  obtain rfl := ShL.nil hs1
  refine (tX11_fault l D h x0 h_0 h_1 h_2 h_3 h_4 h_5 h_6 h_7 h_3_0 h_3_1 h_3_2 h_3_3 h_3_4 h_3_5 h_3_6 h_3_7 h_3_8 h_3_9 h_3_10 h_3_11 h_3_12 h_3_13 h_3_14 h_3_15 h_3_16 sz (by omega) (by omega) (by omega) (by omega) (by omega) (by omega) ).mono (fun _ _ h => h) (fun a st o t _ hq => ?_) (fun _ h => h)
  obtain ⟨r, ho, hp, hh⟩ := hq
  exact ⟨r, ho, trivial, hh⟩
set_option maxHeartbeats 4000000 in
set_option maxRecDepth 100000 in
theorem wtX6_drop (l : Launch) (D : va_G) (T : Value → Prop) (h h_0 h_14 h_15 h_16 h_0_0 : Nat) (sz : Nat) (cs : List Cl) (hs : ShL [kC h (eX6 PR h_0 h_14 h_15 h_16), kC h_0 (eX10 (fun v _ => T v) h_0_0)] cs) : Met l yX6_drop (Cond.code yX6_drop cX6_drop 1 none :: gG) { frames := 2, cells := 0, slots := 0, locals := 85 } (cPre D [] cs sz [.ref h]) (va_Qv (fun (u : va_W) => (True) ∧ ShL [kC h (eX6 PR h_0 h_14 h_15 h_16), kC h_0 (eX10 PTr h_0_0)] u) (fun u t => cB D (va_A cs sz) [] u t) (va_A cs sz)) 0 0 (va_A cs sz) := by
  obtain ⟨c0, cs0, rfl, g0, hs0⟩ := ShL.cons hs
  obtain ⟨_, rfl, h_1, h_2, v3_, h_4, h_5, h_6, h_7, h_8, h_9, h_10, h_11, h_12, h_13, rfl, ⟨h_3, rfl⟩, k0_7_lo, k0_7_hi, k0_9_lo, k0_9_hi, k0_13_lo, k0_13_hi⟩ := kC.of g0
  obtain ⟨c1, cs1, rfl, g1, hs1⟩ := ShL.cons hs0
  obtain ⟨_, rfl, h_0_1, h_0_2, h_0_3, h_0_4, h_0_5, rfl, hT, k1_1_lo, k1_1_hi⟩ := kC.of g1
  obtain rfl := ShL.nil hs1
  refine (tX6_drop l D h h_0 h_1 h_2 h_3 h_4 h_5 h_6 h_7 h_8 h_9 h_10 h_11 h_12 h_13 h_14 h_15 h_16 h_0_0 h_0_1 h_0_2 h_0_3 h_0_4 h_0_5 sz (by omega) (by omega) (by omega) (by omega) (by omega) (by omega) (by omega) (by omega) ).mono (fun _ _ h => h) (fun a st o t _ hq => ?_) (fun _ h => h)
  obtain ⟨⟨jX_F_h_0_1, ho, hp, hB⟩, hF⟩ := hq
  obtain ⟨p0, p1, p2⟩ := hp
  exact ⟨⟨[(h, .inr (6, [.ref h_0, .int 0, .int (-1), .ref h_3, h_4, .int h_5, .int h_6, .int h_7, .int h_8, .int h_9, .int h_10, .int h_11, .int h_12, .int h_13, .ref h_14, .ref h_15, .ref h_16])), (h_0, .inr (10, [.ref h_0_0, .int jX_F_h_0_1, .int h_0_2, .int h_0_3, .int h_0_4, .int h_0_5]))], ho, ⟨trivial, ⟨⟨rfl, (0), ((-1)), (.ref h_3), h_4, (h_5), (h_6), (h_7), (h_8), (h_9), (h_10), (h_11), (h_12), (h_13), rfl, ⟨_, rfl⟩, by first | omega | decide, by first | omega | decide | (have : (0 : Int32).toInt = 0 := (by decide); omega), by first | omega | decide, by first | omega | decide | (have : (0 : Int32).toInt = 0 := (by decide); omega), by first | omega | decide, by first | omega | decide | (have : (0 : Int32).toInt = 0 := (by decide); omega)⟩, ⟨rfl, (jX_F_h_0_1), (h_0_2), (h_0_3), (h_0_4), (h_0_5), rfl, trivial, by first | omega | decide, by first | omega | decide | (have : (0 : Int32).toInt = 0 := (by decide); omega)⟩, trivial⟩⟩, hB⟩, hF⟩
set_option maxHeartbeats 4000000 in
set_option maxRecDepth 100000 in
theorem wtX4_applyRule_n (l : Launch) (D : va_G) (h : Nat) (sz : Nat) (cs : List Cl) (hs : ShL [] cs) : Met l yX4_applyRule (Cond.code yX4_applyRule cX4_applyRule 4 (some .boolean) :: gG) { frames := 1, cells := 0, slots := 0, locals := 64 } (cPre D [] cs sz [.ref h, .null]) (vp_Si (fun r => r = 0)) 0 0 (fun _ => False) := by
  obtain rfl := ShL.nil hs
  refine (tX4_applyRule_n l D h sz  ).mono (fun _ _ h => h) (fun a st o t _ hq => ?_) (fun _ h => h)
  obtain ⟨r, ho, hp, hh⟩ := hq
  exact ⟨r, ho, hp, hh⟩
set_option maxHeartbeats 4000000 in
set_option maxRecDepth 100000 in
theorem wtX2_compare_a0 (l : Launch) (D : va_G) (h h0 h_4 h_5 h_4_0 h_4_1 h_4_5 h_4_6 h_4_0_2 h_4_0_3 h_4_0_4 h_4_0_5 h_4_0_6 h_4_0_7 h_4_0_8 h_4_0_9 h_4_0_10 h_4_0_11 h_4_0_12 h_4_0_13 h0_0 h_5_0 h_5_1 h_5_5 h_5_6 h_5_0_2 h_5_0_3 h_5_0_4 h_5_0_5 h_5_0_6 h_5_0_7 h_5_0_8 h_5_0_9 h_5_0_10 h_5_0_11 h_5_0_12 h_5_0_13 : Nat) (a_h0_0 a_h_4_0_13 a_h_4_0_12 a_h_4_0_2 a_h_4_0_3 a_h_4_0_9 a_h_4_0_4 a_h_4_0_5 a_h_4_0_8 a_h_4_0_6 a_h_4_0_7 a_h_4_0_11 a_h_4_0_10 a_h_5_0_13 a_h_5_0_12 a_h_5_0_2 a_h_5_0_3 a_h_5_0_9 a_h_5_0_4 a_h_5_0_5 a_h_5_0_8 a_h_5_0_6 a_h_5_0_7 a_h_5_0_11 a_h_5_0_10 a_h_4_5 a_h_4_6 a_h_4_1 a_h_5_5 a_h_5_6 a_h_5_1 : ClassId) (n_h0_0 : Nat) (x2 : Int32) (sz : Nat) (k_x2_lo : 0 ≤ x2.toInt) (k_x2_hi : x2.toInt ≤ 1) (k_n_h0_0 : n_h0_0 ≤ 1000) (k_p_h0_0 : 1 ≤ n_h0_0) (cs : List Cl) (hs : ShL [kC h (eX2 h_4 h_5), kC h_4 (eX3 h_4_0 h_4_1 h_4_5 h_4_6), kC h_4_0 (eX1 PTr h_4_0_2 h_4_0_3 h_4_0_4 h_4_0_5 h_4_0_6 h_4_0_7 h_4_0_8 h_4_0_9 h_4_0_10 h_4_0_11 h_4_0_12 h_4_0_13), kC h0 (eX8 n_h0_0 h0_0), kC h0_0 (eArr n_h0_0 (-2147483648) 2147483647 a_h0_0), kC h_4_0_13 (eArr 480 (-2147483648) 2147483647 a_h_4_0_13), kC h_4_0_12 (eArr 40 (-2147483648) 2147483647 a_h_4_0_12), kC h_4_0_2 (eArr 40 (-2147483648) 2147483647 a_h_4_0_2), kC h_4_0_3 (eArr 40 (-2147483648) 2147483647 a_h_4_0_3), kC h_4_0_9 (eArr 40 (-2147483648) 2147483647 a_h_4_0_9), kC h_4_0_4 (eArr 40 (0) 2000 a_h_4_0_4), kC h_4_0_5 (eArr 40 (0) 2000 a_h_4_0_5), kC h_4_0_8 (eArr 40 (-2147483648) 2147483647 a_h_4_0_8), kC h_4_0_6 (eArr 40 (-2147483648) 2147483647 a_h_4_0_6), kC h_4_0_7 (eArr 40 (-2147483648) 2147483647 a_h_4_0_7), kC h_4_0_11 (eArr 40 (-2147483648) 2147483647 a_h_4_0_11), kC h_4_0_10 (eArr 40 (-2147483648) 2147483647 a_h_4_0_10), kC h_5 (eX3 h_5_0 h_5_1 h_5_5 h_5_6), kC h_5_0 (eX1 PTr h_5_0_2 h_5_0_3 h_5_0_4 h_5_0_5 h_5_0_6 h_5_0_7 h_5_0_8 h_5_0_9 h_5_0_10 h_5_0_11 h_5_0_12 h_5_0_13), kC h_5_0_13 (eArr 480 (-2147483648) 2147483647 a_h_5_0_13), kC h_5_0_12 (eArr 40 (-2147483648) 2147483647 a_h_5_0_12), kC h_5_0_2 (eArr 40 (-2147483648) 2147483647 a_h_5_0_2), kC h_5_0_3 (eArr 40 (-2147483648) 2147483647 a_h_5_0_3), kC h_5_0_9 (eArr 40 (-2147483648) 2147483647 a_h_5_0_9), kC h_5_0_4 (eArr 40 (0) 2000 a_h_5_0_4), kC h_5_0_5 (eArr 40 (0) 2000 a_h_5_0_5), kC h_5_0_8 (eArr 40 (-2147483648) 2147483647 a_h_5_0_8), kC h_5_0_6 (eArr 40 (-2147483648) 2147483647 a_h_5_0_6), kC h_5_0_7 (eArr 40 (-2147483648) 2147483647 a_h_5_0_7), kC h_5_0_11 (eArr 40 (-2147483648) 2147483647 a_h_5_0_11), kC h_5_0_10 (eArr 40 (-2147483648) 2147483647 a_h_5_0_10), kC h_4_5 (eArr 6 (-2147483648) 2147483647 a_h_4_5), kC h_4_6 (eArr 300 (-2147483648) 2147483647 a_h_4_6), kC h_4_1 (eArr 100 (-2147483648) 2147483647 a_h_4_1), kC h_5_5 (eArr 6 (-2147483648) 2147483647 a_h_5_5), kC h_5_6 (eArr 300 (-2147483648) 2147483647 a_h_5_6), kC h_5_1 (eArr 100 (-2147483648) 2147483647 a_h_5_1)] cs) : Met l yX2_compare (Cond.code yX2_compare cX2_compare 9 (some .boolean) :: gG) { frames := 5, cells := 0, slots := 0, locals := 161 } (cPre D [(a_h0_0, .int), (a_h_4_0_13, .int), (a_h_4_0_12, .int), (a_h_4_0_2, .int), (a_h_4_0_3, .int), (a_h_4_0_9, .int), (a_h_4_0_4, .int), (a_h_4_0_5, .int), (a_h_4_0_8, .int), (a_h_4_0_6, .int), (a_h_4_0_7, .int), (a_h_4_0_11, .int), (a_h_4_0_10, .int), (a_h_5_0_13, .int), (a_h_5_0_12, .int), (a_h_5_0_2, .int), (a_h_5_0_3, .int), (a_h_5_0_9, .int), (a_h_5_0_4, .int), (a_h_5_0_5, .int), (a_h_5_0_8, .int), (a_h_5_0_6, .int), (a_h_5_0_7, .int), (a_h_5_0_11, .int), (a_h_5_0_10, .int), (a_h_4_5, .int), (a_h_4_6, .int), (a_h_4_1, .int), (a_h_5_5, .int), (a_h_5_6, .int), (a_h_5_1, .int)] cs sz [.ref h, .ref h0, .ref h0, .int x2]) (va_Qi (fun (r : Int32) (u : va_W) => (0 ≤ r.toInt ∧ r.toInt ≤ 1) ∧ ShL [kC h (eX2 h_4 h_5), kC h_4 (eX3 h_4_0 h_4_1 h_4_5 h_4_6), kC h_4_0 (eX1 (fun v _ => v = .ref h0) h_4_0_2 h_4_0_3 h_4_0_4 h_4_0_5 h_4_0_6 h_4_0_7 h_4_0_8 h_4_0_9 h_4_0_10 h_4_0_11 h_4_0_12 h_4_0_13), kC h0 (eX8 n_h0_0 h0_0), kC h0_0 (eArr n_h0_0 (-2147483648) 2147483647 a_h0_0), kC h_4_0_13 (eArr 480 (-2147483648) 2147483647 a_h_4_0_13), kC h_4_0_12 (eArr 40 (-2147483648) 2147483647 a_h_4_0_12), kC h_4_0_2 (eArr 40 (-2147483648) 2147483647 a_h_4_0_2), kC h_4_0_3 (eArr 40 (-2147483648) 2147483647 a_h_4_0_3), kC h_4_0_9 (eArr 40 (-2147483648) 2147483647 a_h_4_0_9), kC h_4_0_4 (eArr 40 (0) 2000 a_h_4_0_4), kC h_4_0_5 (eArr 40 (0) 2000 a_h_4_0_5), kC h_4_0_8 (eArr 40 (-2147483648) 2147483647 a_h_4_0_8), kC h_4_0_6 (eArr 40 (-2147483648) 2147483647 a_h_4_0_6), kC h_4_0_7 (eArr 40 (-2147483648) 2147483647 a_h_4_0_7), kC h_4_0_11 (eArr 40 (-2147483648) 2147483647 a_h_4_0_11), kC h_4_0_10 (eArr 40 (-2147483648) 2147483647 a_h_4_0_10), kC h_5 (eX3 h_5_0 h_5_1 h_5_5 h_5_6), kC h_5_0 (eX1 (fun v _ => v = .ref h0) h_5_0_2 h_5_0_3 h_5_0_4 h_5_0_5 h_5_0_6 h_5_0_7 h_5_0_8 h_5_0_9 h_5_0_10 h_5_0_11 h_5_0_12 h_5_0_13), kC h_5_0_13 (eArr 480 (-2147483648) 2147483647 a_h_5_0_13), kC h_5_0_12 (eArr 40 (-2147483648) 2147483647 a_h_5_0_12), kC h_5_0_2 (eArr 40 (-2147483648) 2147483647 a_h_5_0_2), kC h_5_0_3 (eArr 40 (-2147483648) 2147483647 a_h_5_0_3), kC h_5_0_9 (eArr 40 (-2147483648) 2147483647 a_h_5_0_9), kC h_5_0_4 (eArr 40 (0) 2000 a_h_5_0_4), kC h_5_0_5 (eArr 40 (0) 2000 a_h_5_0_5), kC h_5_0_8 (eArr 40 (-2147483648) 2147483647 a_h_5_0_8), kC h_5_0_6 (eArr 40 (-2147483648) 2147483647 a_h_5_0_6), kC h_5_0_7 (eArr 40 (-2147483648) 2147483647 a_h_5_0_7), kC h_5_0_11 (eArr 40 (-2147483648) 2147483647 a_h_5_0_11), kC h_5_0_10 (eArr 40 (-2147483648) 2147483647 a_h_5_0_10), kC h_4_5 (eArr 6 (-2147483648) 2147483647 a_h_4_5), kC h_4_6 (eArr 300 (-2147483648) 2147483647 a_h_4_6), kC h_4_1 (eArr 100 (-2147483648) 2147483647 a_h_4_1), kC h_5_5 (eArr 6 (-2147483648) 2147483647 a_h_5_5), kC h_5_6 (eArr 300 (-2147483648) 2147483647 a_h_5_6), kC h_5_1 (eArr 100 (-2147483648) 2147483647 a_h_5_1)] u) (fun u t => cB D (va_A cs sz) [] u t) (va_A cs sz)) 0 0 (va_A cs sz) := by
  obtain ⟨c0, cs0, rfl, g0, hs0⟩ := ShL.cons hs
  obtain ⟨_, rfl, h_0, h_1, h_2, h_3, rfl⟩ := kC.of g0
  obtain ⟨c1, cs1, rfl, g1, hs1⟩ := ShL.cons hs0
  obtain ⟨_, rfl, h_4_2, h_4_3, h_4_4, rfl, k1_2_lo, k1_2_hi⟩ := kC.of g1
  obtain ⟨c2, cs2, rfl, g2, hs2⟩ := ShL.cons hs1
  obtain ⟨_, rfl, h_4_0_0, h_4_0_1, rfl, _, k2_1_lo, k2_1_hi⟩ := kC.of g2
  obtain ⟨c3, cs3, rfl, g3, hs3⟩ := ShL.cons hs2
  obtain ⟨_, rfl, h0_1, rfl, k3_1_lo, k3_1_hi⟩ := kC.of g3
  obtain ⟨c4, cs4, rfl, g4, hs4⟩ := ShL.cons hs3
  obtain ⟨_, rfl, f_h0_0, rfl, q_f_h0_0⟩ := kC.of g4
  obtain ⟨c5, cs5, rfl, g5, hs5⟩ := ShL.cons hs4
  obtain ⟨_, rfl, f_h_4_0_13, rfl, q_f_h_4_0_13⟩ := kC.of g5
  obtain ⟨c6, cs6, rfl, g6, hs6⟩ := ShL.cons hs5
  obtain ⟨_, rfl, f_h_4_0_12, rfl, q_f_h_4_0_12⟩ := kC.of g6
  obtain ⟨c7, cs7, rfl, g7, hs7⟩ := ShL.cons hs6
  obtain ⟨_, rfl, f_h_4_0_2, rfl, q_f_h_4_0_2⟩ := kC.of g7
  obtain ⟨c8, cs8, rfl, g8, hs8⟩ := ShL.cons hs7
  obtain ⟨_, rfl, f_h_4_0_3, rfl, q_f_h_4_0_3⟩ := kC.of g8
  obtain ⟨c9, cs9, rfl, g9, hs9⟩ := ShL.cons hs8
  obtain ⟨_, rfl, f_h_4_0_9, rfl, q_f_h_4_0_9⟩ := kC.of g9
  obtain ⟨c10, cs10, rfl, g10, hs10⟩ := ShL.cons hs9
  obtain ⟨_, rfl, f_h_4_0_4, rfl, q_f_h_4_0_4⟩ := kC.of g10
  obtain ⟨c11, cs11, rfl, g11, hs11⟩ := ShL.cons hs10
  obtain ⟨_, rfl, f_h_4_0_5, rfl, q_f_h_4_0_5⟩ := kC.of g11
  obtain ⟨c12, cs12, rfl, g12, hs12⟩ := ShL.cons hs11
  obtain ⟨_, rfl, f_h_4_0_8, rfl, q_f_h_4_0_8⟩ := kC.of g12
  obtain ⟨c13, cs13, rfl, g13, hs13⟩ := ShL.cons hs12
  obtain ⟨_, rfl, f_h_4_0_6, rfl, q_f_h_4_0_6⟩ := kC.of g13
  obtain ⟨c14, cs14, rfl, g14, hs14⟩ := ShL.cons hs13
  obtain ⟨_, rfl, f_h_4_0_7, rfl, q_f_h_4_0_7⟩ := kC.of g14
  obtain ⟨c15, cs15, rfl, g15, hs15⟩ := ShL.cons hs14
  obtain ⟨_, rfl, f_h_4_0_11, rfl, q_f_h_4_0_11⟩ := kC.of g15
  obtain ⟨c16, cs16, rfl, g16, hs16⟩ := ShL.cons hs15
  obtain ⟨_, rfl, f_h_4_0_10, rfl, q_f_h_4_0_10⟩ := kC.of g16
  obtain ⟨c17, cs17, rfl, g17, hs17⟩ := ShL.cons hs16
  obtain ⟨_, rfl, h_5_2, h_5_3, h_5_4, rfl, k17_2_lo, k17_2_hi⟩ := kC.of g17
  obtain ⟨c18, cs18, rfl, g18, hs18⟩ := ShL.cons hs17
  obtain ⟨_, rfl, h_5_0_0, h_5_0_1, rfl, _, k18_1_lo, k18_1_hi⟩ := kC.of g18
  obtain ⟨c19, cs19, rfl, g19, hs19⟩ := ShL.cons hs18
  obtain ⟨_, rfl, f_h_5_0_13, rfl, q_f_h_5_0_13⟩ := kC.of g19
  obtain ⟨c20, cs20, rfl, g20, hs20⟩ := ShL.cons hs19
  obtain ⟨_, rfl, f_h_5_0_12, rfl, q_f_h_5_0_12⟩ := kC.of g20
  obtain ⟨c21, cs21, rfl, g21, hs21⟩ := ShL.cons hs20
  obtain ⟨_, rfl, f_h_5_0_2, rfl, q_f_h_5_0_2⟩ := kC.of g21
  obtain ⟨c22, cs22, rfl, g22, hs22⟩ := ShL.cons hs21
  obtain ⟨_, rfl, f_h_5_0_3, rfl, q_f_h_5_0_3⟩ := kC.of g22
  obtain ⟨c23, cs23, rfl, g23, hs23⟩ := ShL.cons hs22
  obtain ⟨_, rfl, f_h_5_0_9, rfl, q_f_h_5_0_9⟩ := kC.of g23
  obtain ⟨c24, cs24, rfl, g24, hs24⟩ := ShL.cons hs23
  obtain ⟨_, rfl, f_h_5_0_4, rfl, q_f_h_5_0_4⟩ := kC.of g24
  obtain ⟨c25, cs25, rfl, g25, hs25⟩ := ShL.cons hs24
  obtain ⟨_, rfl, f_h_5_0_5, rfl, q_f_h_5_0_5⟩ := kC.of g25
  obtain ⟨c26, cs26, rfl, g26, hs26⟩ := ShL.cons hs25
  obtain ⟨_, rfl, f_h_5_0_8, rfl, q_f_h_5_0_8⟩ := kC.of g26
  obtain ⟨c27, cs27, rfl, g27, hs27⟩ := ShL.cons hs26
  obtain ⟨_, rfl, f_h_5_0_6, rfl, q_f_h_5_0_6⟩ := kC.of g27
  obtain ⟨c28, cs28, rfl, g28, hs28⟩ := ShL.cons hs27
  obtain ⟨_, rfl, f_h_5_0_7, rfl, q_f_h_5_0_7⟩ := kC.of g28
  obtain ⟨c29, cs29, rfl, g29, hs29⟩ := ShL.cons hs28
  obtain ⟨_, rfl, f_h_5_0_11, rfl, q_f_h_5_0_11⟩ := kC.of g29
  obtain ⟨c30, cs30, rfl, g30, hs30⟩ := ShL.cons hs29
  obtain ⟨_, rfl, f_h_5_0_10, rfl, q_f_h_5_0_10⟩ := kC.of g30
  obtain ⟨c31, cs31, rfl, g31, hs31⟩ := ShL.cons hs30
  obtain ⟨_, rfl, f_h_4_5, rfl, q_f_h_4_5⟩ := kC.of g31
  obtain ⟨c32, cs32, rfl, g32, hs32⟩ := ShL.cons hs31
  obtain ⟨_, rfl, f_h_4_6, rfl, q_f_h_4_6⟩ := kC.of g32
  obtain ⟨c33, cs33, rfl, g33, hs33⟩ := ShL.cons hs32
  obtain ⟨_, rfl, f_h_4_1, rfl, q_f_h_4_1⟩ := kC.of g33
  obtain ⟨c34, cs34, rfl, g34, hs34⟩ := ShL.cons hs33
  obtain ⟨_, rfl, f_h_5_5, rfl, q_f_h_5_5⟩ := kC.of g34
  obtain ⟨c35, cs35, rfl, g35, hs35⟩ := ShL.cons hs34
  obtain ⟨_, rfl, f_h_5_6, rfl, q_f_h_5_6⟩ := kC.of g35
  obtain ⟨c36, cs36, rfl, g36, hs36⟩ := ShL.cons hs35
  obtain ⟨_, rfl, f_h_5_1, rfl, q_f_h_5_1⟩ := kC.of g36
  obtain rfl := ShL.nil hs36
  refine (tX2_compare_a0 l D h h0 x2 h_0 h_1 h_2 h_3 h_4 h_5 h_4_0 h_4_1 h_4_2 h_4_3 h_4_4 h_4_5 h_4_6 h_4_0_0 h_4_0_1 h_4_0_2 h_4_0_3 h_4_0_4 h_4_0_5 h_4_0_6 h_4_0_7 h_4_0_8 h_4_0_9 h_4_0_10 h_4_0_11 h_4_0_12 h_4_0_13 h0_0 h0_1 n_h0_0 a_h0_0 f_h0_0 a_h_4_0_13 f_h_4_0_13 a_h_4_0_12 f_h_4_0_12 a_h_4_0_2 f_h_4_0_2 a_h_4_0_3 f_h_4_0_3 a_h_4_0_9 f_h_4_0_9 a_h_4_0_4 f_h_4_0_4 a_h_4_0_5 f_h_4_0_5 a_h_4_0_8 f_h_4_0_8 a_h_4_0_6 f_h_4_0_6 a_h_4_0_7 f_h_4_0_7 a_h_4_0_11 f_h_4_0_11 a_h_4_0_10 f_h_4_0_10 h_5_0 h_5_1 h_5_2 h_5_3 h_5_4 h_5_5 h_5_6 h_5_0_0 h_5_0_1 h_5_0_2 h_5_0_3 h_5_0_4 h_5_0_5 h_5_0_6 h_5_0_7 h_5_0_8 h_5_0_9 h_5_0_10 h_5_0_11 h_5_0_12 h_5_0_13 a_h_5_0_13 f_h_5_0_13 a_h_5_0_12 f_h_5_0_12 a_h_5_0_2 f_h_5_0_2 a_h_5_0_3 f_h_5_0_3 a_h_5_0_9 f_h_5_0_9 a_h_5_0_4 f_h_5_0_4 a_h_5_0_5 f_h_5_0_5 a_h_5_0_8 f_h_5_0_8 a_h_5_0_6 f_h_5_0_6 a_h_5_0_7 f_h_5_0_7 a_h_5_0_11 f_h_5_0_11 a_h_5_0_10 f_h_5_0_10 a_h_4_5 f_h_4_5 a_h_4_6 f_h_4_6 a_h_4_1 f_h_4_1 a_h_5_5 f_h_5_5 a_h_5_6 f_h_5_6 a_h_5_1 f_h_5_1 sz (by omega) (by omega) (by omega) (by omega) (by omega) (by omega) (by omega) (by omega) (by omega) (by omega) (by omega) (by omega) (by omega) (by omega) q_f_h_4_0_4 q_f_h_4_0_5 q_f_h_5_0_4 q_f_h_5_0_5).mono (fun _ _ h => h) (fun a st o t _ hq => ?_) (fun _ h => h)
  obtain ⟨⟨r, ⟨jX_F_h_0, jX_F_h_1, jX_F_h_2, jX_F_h_3, jX_F_h_4_2, jX_F_h_4_3, jX_F_h_4_4, jX_F_h_4_0_1, jX_C_h_4_0_13, jX_C_h_4_0_12, jX_C_h_4_0_2, jX_C_h_4_0_3, jX_C_h_4_0_9, jX_C_h_4_0_4, jX_C_h_4_0_5, jX_C_h_4_0_8, jX_C_h_4_0_6, jX_C_h_4_0_7, jX_C_h_4_0_11, jX_C_h_4_0_10, jX_F_h_5_2, jX_F_h_5_3, jX_F_h_5_4, jX_F_h_5_0_1, jX_C_h_5_0_13, jX_C_h_5_0_12, jX_C_h_5_0_2, jX_C_h_5_0_3, jX_C_h_5_0_9, jX_C_h_5_0_4, jX_C_h_5_0_5, jX_C_h_5_0_8, jX_C_h_5_0_6, jX_C_h_5_0_7, jX_C_h_5_0_11, jX_C_h_5_0_10, jX_C_h_4_5, jX_C_h_4_6, jX_C_h_4_1, jX_C_h_5_5, jX_C_h_5_6, jX_C_h_5_1⟩, ho, hp, hB⟩, hF⟩ := hq
  obtain ⟨p0, p1, p2, p3, p4, p5, p6, p7, p8, p9, p10, p11, p12, p13, p14, p15, p16, p17, p18, p19⟩ := hp
  exact ⟨⟨r, [(h, .inr (2, [.int jX_F_h_0, .int jX_F_h_1, .int jX_F_h_2, .int jX_F_h_3, .ref h_4, .ref h_5])), (h_4, .inr (3, [.ref h_4_0, .ref h_4_1, .int jX_F_h_4_2, .int jX_F_h_4_3, .int jX_F_h_4_4, .ref h_4_5, .ref h_4_6])), (h_4_0, .inr (1, [.ref h0, .int jX_F_h_4_0_1, .ref h_4_0_2, .ref h_4_0_3, .ref h_4_0_4, .ref h_4_0_5, .ref h_4_0_6, .ref h_4_0_7, .ref h_4_0_8, .ref h_4_0_9, .ref h_4_0_10, .ref h_4_0_11, .ref h_4_0_12, .ref h_4_0_13])), (h0, .inr (8, [.ref h0_0, .int h0_1])), (h0_0, .inl (a_h0_0, n_h0_0, .inl f_h0_0)), (h_4_0_13, .inl (a_h_4_0_13, 480, .inl jX_C_h_4_0_13)), (h_4_0_12, .inl (a_h_4_0_12, 40, .inl jX_C_h_4_0_12)), (h_4_0_2, .inl (a_h_4_0_2, 40, .inl jX_C_h_4_0_2)), (h_4_0_3, .inl (a_h_4_0_3, 40, .inl jX_C_h_4_0_3)), (h_4_0_9, .inl (a_h_4_0_9, 40, .inl jX_C_h_4_0_9)), (h_4_0_4, .inl (a_h_4_0_4, 40, .inl jX_C_h_4_0_4)), (h_4_0_5, .inl (a_h_4_0_5, 40, .inl jX_C_h_4_0_5)), (h_4_0_8, .inl (a_h_4_0_8, 40, .inl jX_C_h_4_0_8)), (h_4_0_6, .inl (a_h_4_0_6, 40, .inl jX_C_h_4_0_6)), (h_4_0_7, .inl (a_h_4_0_7, 40, .inl jX_C_h_4_0_7)), (h_4_0_11, .inl (a_h_4_0_11, 40, .inl jX_C_h_4_0_11)), (h_4_0_10, .inl (a_h_4_0_10, 40, .inl jX_C_h_4_0_10)), (h_5, .inr (3, [.ref h_5_0, .ref h_5_1, .int jX_F_h_5_2, .int jX_F_h_5_3, .int jX_F_h_5_4, .ref h_5_5, .ref h_5_6])), (h_5_0, .inr (1, [.ref h0, .int jX_F_h_5_0_1, .ref h_5_0_2, .ref h_5_0_3, .ref h_5_0_4, .ref h_5_0_5, .ref h_5_0_6, .ref h_5_0_7, .ref h_5_0_8, .ref h_5_0_9, .ref h_5_0_10, .ref h_5_0_11, .ref h_5_0_12, .ref h_5_0_13])), (h_5_0_13, .inl (a_h_5_0_13, 480, .inl jX_C_h_5_0_13)), (h_5_0_12, .inl (a_h_5_0_12, 40, .inl jX_C_h_5_0_12)), (h_5_0_2, .inl (a_h_5_0_2, 40, .inl jX_C_h_5_0_2)), (h_5_0_3, .inl (a_h_5_0_3, 40, .inl jX_C_h_5_0_3)), (h_5_0_9, .inl (a_h_5_0_9, 40, .inl jX_C_h_5_0_9)), (h_5_0_4, .inl (a_h_5_0_4, 40, .inl jX_C_h_5_0_4)), (h_5_0_5, .inl (a_h_5_0_5, 40, .inl jX_C_h_5_0_5)), (h_5_0_8, .inl (a_h_5_0_8, 40, .inl jX_C_h_5_0_8)), (h_5_0_6, .inl (a_h_5_0_6, 40, .inl jX_C_h_5_0_6)), (h_5_0_7, .inl (a_h_5_0_7, 40, .inl jX_C_h_5_0_7)), (h_5_0_11, .inl (a_h_5_0_11, 40, .inl jX_C_h_5_0_11)), (h_5_0_10, .inl (a_h_5_0_10, 40, .inl jX_C_h_5_0_10)), (h_4_5, .inl (a_h_4_5, 6, .inl jX_C_h_4_5)), (h_4_6, .inl (a_h_4_6, 300, .inl jX_C_h_4_6)), (h_4_1, .inl (a_h_4_1, 100, .inl jX_C_h_4_1)), (h_5_5, .inl (a_h_5_5, 6, .inl jX_C_h_5_5)), (h_5_6, .inl (a_h_5_6, 300, .inl jX_C_h_5_6)), (h_5_1, .inl (a_h_5_1, 100, .inl jX_C_h_5_1))], ho, ⟨⟨by omega, by omega⟩, ⟨⟨rfl, (jX_F_h_0), (jX_F_h_1), (jX_F_h_2), (jX_F_h_3), rfl⟩, ⟨rfl, (jX_F_h_4_2), (jX_F_h_4_3), (jX_F_h_4_4), rfl, by first | omega | decide, by first | omega | decide | (have : (0 : Int32).toInt = 0 := (by decide); omega)⟩, ⟨rfl, (.ref h0), (jX_F_h_4_0_1), rfl, rfl, by first | omega | decide, by first | omega | decide | (have : (0 : Int32).toInt = 0 := (by decide); omega)⟩, ⟨rfl, (h0_1), rfl, by first | omega | decide, by first | omega | decide | (have : (0 : Int32).toInt = 0 := (by decide); omega)⟩, ⟨rfl, _, rfl, q_f_h0_0⟩, ⟨rfl, _, rfl, cr_all _⟩, ⟨rfl, _, rfl, cr_all _⟩, ⟨rfl, _, rfl, cr_all _⟩, ⟨rfl, _, rfl, cr_all _⟩, ⟨rfl, _, rfl, cr_all _⟩, ⟨rfl, _, rfl, p16⟩, ⟨rfl, _, rfl, p17⟩, ⟨rfl, _, rfl, cr_all _⟩, ⟨rfl, _, rfl, cr_all _⟩, ⟨rfl, _, rfl, cr_all _⟩, ⟨rfl, _, rfl, cr_all _⟩, ⟨rfl, _, rfl, cr_all _⟩, ⟨rfl, (jX_F_h_5_2), (jX_F_h_5_3), (jX_F_h_5_4), rfl, by first | omega | decide, by first | omega | decide | (have : (0 : Int32).toInt = 0 := (by decide); omega)⟩, ⟨rfl, (.ref h0), (jX_F_h_5_0_1), rfl, rfl, by first | omega | decide, by first | omega | decide | (have : (0 : Int32).toInt = 0 := (by decide); omega)⟩, ⟨rfl, _, rfl, cr_all _⟩, ⟨rfl, _, rfl, cr_all _⟩, ⟨rfl, _, rfl, cr_all _⟩, ⟨rfl, _, rfl, cr_all _⟩, ⟨rfl, _, rfl, cr_all _⟩, ⟨rfl, _, rfl, p18⟩, ⟨rfl, _, rfl, p19⟩, ⟨rfl, _, rfl, cr_all _⟩, ⟨rfl, _, rfl, cr_all _⟩, ⟨rfl, _, rfl, cr_all _⟩, ⟨rfl, _, rfl, cr_all _⟩, ⟨rfl, _, rfl, cr_all _⟩, ⟨rfl, _, rfl, cr_all _⟩, ⟨rfl, _, rfl, cr_all _⟩, ⟨rfl, _, rfl, cr_all _⟩, ⟨rfl, _, rfl, cr_all _⟩, ⟨rfl, _, rfl, cr_all _⟩, ⟨rfl, _, rfl, cr_all _⟩, trivial⟩⟩, hB⟩, hF⟩
set_option maxHeartbeats 4000000 in
set_option maxRecDepth 100000 in
theorem wtX11_clear_x (l : Launch) (D : va_G) (h h_0 h_2 h_3 h_4 h_5 h_6 h_7 h_6_0 h_6_1 h_6_2 h_6_5 h_6_6 h_6_7 h_6_8 h_6_9 : Nat) (a_h_6_7 : ClassId) (x0 : Int32) (sz : Nat) (cs : List Cl) (hs : ShL [kC h (eX11 h_0 h_2 h_3 h_4 h_5 h_6 h_7), kC h_6 (eX4 h_6_0 h_6_1 h_6_2 h_6_5 h_6_6 h_6_7 h_6_8 h_6_9), kC h_6_7 (eArr 6 (0) 8 a_h_6_7)] cs) : Met l yX11_clear (Cond.code yX11_clear cX11_clear 2 (some .boolean) :: gG) { frames := 3, cells := 0, slots := 0, locals := 105 } (cPre D [(a_h_6_7, .int)] cs sz [.ref h, .int x0]) (va_Qi (fun (r : Int32) (u : va_W) => (0 ≤ r.toInt ∧ r.toInt ≤ 1 ∧ ((r.toInt = 1 ∧ 0 ≤ x0.toInt ∧ x0.toInt ≤ 5) ∨ (r.toInt = 0 ∧ (x0.toInt < 0 ∨ 6 ≤ x0.toInt)))) ∧ ShL [kC h (eX11 h_0 h_2 h_3 h_4 h_5 h_6 h_7), kC h_6 (eX4 h_6_0 h_6_1 h_6_2 h_6_5 h_6_6 h_6_7 h_6_8 h_6_9), kC h_6_7 (eArr 6 (0) 8 a_h_6_7)] u) (fun u t => cB D (va_A cs sz) [] u t) (va_A cs sz)) 0 0 (va_A cs sz) := by
  obtain ⟨c0, cs0, rfl, g0, hs0⟩ := ShL.cons hs
  obtain ⟨_, rfl, h_1, rfl, k0_1_lo, k0_1_hi⟩ := kC.of g0
  obtain ⟨c1, cs1, rfl, g1, hs1⟩ := ShL.cons hs0
  obtain ⟨_, rfl, h_6_3, h_6_4, rfl⟩ := kC.of g1
  obtain ⟨c2, cs2, rfl, g2, hs2⟩ := ShL.cons hs1
  obtain ⟨_, rfl, f_h_6_7, rfl, q_f_h_6_7⟩ := kC.of g2
  obtain rfl := ShL.nil hs2
  refine (tX11_clear_x l D h x0 h_0 h_1 h_2 h_3 h_4 h_5 h_6 h_7 h_6_0 h_6_1 h_6_2 h_6_3 h_6_4 h_6_5 h_6_6 h_6_7 h_6_8 h_6_9 a_h_6_7 f_h_6_7 sz  q_f_h_6_7).mono (fun _ _ h => h) (fun a st o t _ hq => ?_) (fun _ h => h)
  obtain ⟨⟨r, jX_C_h_6_7, ho, hp, hB⟩, hF⟩ := hq
  obtain ⟨p0, p1, p2, p3⟩ := hp
  exact ⟨⟨r, [(h, .inr (11, [.ref h_0, .int h_1, .ref h_2, .ref h_3, .ref h_4, .ref h_5, .ref h_6, .ref h_7])), (h_6, .inr (4, [.ref h_6_0, .ref h_6_1, .ref h_6_2, .int h_6_3, .int h_6_4, .ref h_6_5, .ref h_6_6, .ref h_6_7, .ref h_6_8, .ref h_6_9])), (h_6_7, .inl (a_h_6_7, 6, .inl jX_C_h_6_7))], ho, ⟨⟨by omega, by omega, p2⟩, ⟨⟨rfl, (h_1), rfl, by first | omega | decide, by first | omega | decide | (have : (0 : Int32).toInt = 0 := (by decide); omega)⟩, ⟨rfl, (h_6_3), (h_6_4), rfl⟩, ⟨rfl, _, rfl, p3⟩, trivial⟩⟩, hB⟩, hF⟩
set_option maxHeartbeats 4000000 in
set_option maxRecDepth 100000 in
theorem wsX8_isStatement (l : Launch) (D : va_G) (x0 : Int32) (sz : Nat) (cs : List Cl) (hs : ShL [] cs) : Met l yX8_isStatement (Cond.code yX8_isStatement cX8_isStatement 1 (some .boolean) :: gG) { frames := 1, cells := 0, slots := 0, locals := 64 } (cPre D [] cs sz [.int x0]) (vp_Si (fun r => 0 ≤ r.toInt ∧ r.toInt ≤ 1)) 0 0 (fun _ => False) := by
  obtain rfl := ShL.nil hs
  refine (sX8_isStatement l D x0 sz  ).mono (fun _ _ h => h) (fun a st o t _ hq => ?_) (fun _ h => h)
  obtain ⟨r, ho, hp, hh⟩ := hq
  exact ⟨r, ho, (by obtain ⟨p0, p1⟩ := hp; exact ⟨by omega, by omega⟩), hh⟩
set_option maxHeartbeats 4000000 in
set_option maxRecDepth 100000 in
theorem wsX8_isOperation (l : Launch) (D : va_G) (x0 : Int32) (sz : Nat) (cs : List Cl) (hs : ShL [] cs) : Met l yX8_isOperation (Cond.code yX8_isOperation cX8_isOperation 1 (some .boolean) :: gG) { frames := 1, cells := 0, slots := 0, locals := 64 } (cPre D [] cs sz [.int x0]) (vp_Si (fun r => 0 ≤ r.toInt ∧ r.toInt ≤ 1)) 0 0 (fun _ => False) := by
  obtain rfl := ShL.nil hs
  refine (sX8_isOperation l D x0 sz  ).mono (fun _ _ h => h) (fun a st o t _ hq => ?_) (fun _ h => h)
  obtain ⟨r, ho, hp, hh⟩ := hq
  exact ⟨r, ho, (by obtain ⟨p0, p1⟩ := hp; exact ⟨by omega, by omega⟩), hh⟩
set_option maxHeartbeats 4000000 in
set_option maxRecDepth 100000 in
theorem wsX11_isWord (l : Launch) (D : va_G) (x0 : Int32) (sz : Nat) (cs : List Cl) (hs : ShL [] cs) : Met l yX11_isWord (Cond.code yX11_isWord cX11_isWord 1 (some .boolean) :: gG) { frames := 1, cells := 0, slots := 0, locals := 64 } (cPre D [] cs sz [.int x0]) (vp_Si (fun r => (r = 0) ∨ (0 ≤ x0.toInt ∧ x0.toInt ≤ 15 ∧ r = 1))) 0 0 (fun _ => False) := by
  obtain rfl := ShL.nil hs
  refine (sX11_isWord l D x0 sz  ).mono (fun _ _ h => h) (fun a st o t _ hq => ?_) (fun _ h => h)
  exact hq
set_option maxHeartbeats 4000000 in
set_option maxRecDepth 100000 in
theorem wsX11_isVariable (l : Launch) (D : va_G) (x0 : Int32) (sz : Nat) (cs : List Cl) (hs : ShL [] cs) : Met l yX11_isVariable (Cond.code yX11_isVariable cX11_isVariable 1 (some .boolean) :: gG) { frames := 1, cells := 0, slots := 0, locals := 64 } (cPre D [] cs sz [.int x0]) (vp_Si (fun r => (r = 0) ∨ (0 ≤ x0.toInt ∧ x0.toInt ≤ 5 ∧ r = 1))) 0 0 (fun _ => False) := by
  obtain rfl := ShL.nil hs
  refine (sX11_isVariable l D x0 sz  ).mono (fun _ _ h => h) (fun a st o t _ hq => ?_) (fun _ h => h)
  exact hq
set_option maxHeartbeats 4000000 in
set_option maxRecDepth 100000 in
theorem wsX4_isPass (l : Launch) (D : va_G) (x0 : Int32) (sz : Nat) (cs : List Cl) (hs : ShL [] cs) : Met l yX4_isPass (Cond.code yX4_isPass cX4_isPass 1 (some .boolean) :: gG) { frames := 1, cells := 0, slots := 0, locals := 64 } (cPre D [] cs sz [.int x0]) (vp_Si (fun r => (r = 0) ∨ (0 ≤ x0.toInt ∧ x0.toInt ≤ 5 ∧ r = 1))) 0 0 (fun _ => False) := by
  obtain rfl := ShL.nil hs
  refine (sX4_isPass l D x0 sz  ).mono (fun _ _ h => h) (fun a st o t _ hq => ?_) (fun _ h => h)
  exact hq
set_option maxHeartbeats 4000000 in
set_option maxRecDepth 100000 in
theorem wtX6_beginProgram (l : Launch) (D : va_G) (T : Value → Prop) (h h0 h_0 h_14 h_15 h_16 h0_0 h_0_0 : Nat) (a_h0_0 : ClassId) (n_h0_0 : Nat) (sz : Nat) (k_n_h0_0 : n_h0_0 ≤ 1000) (k_p_h0_0 : 1 ≤ n_h0_0) (cs : List Cl) (hs : ShL [kC h (eX6 PR h_0 h_14 h_15 h_16), kC h0 (eX8 n_h0_0 h0_0), kC h0_0 (eArr n_h0_0 (-2147483648) 2147483647 a_h0_0), kC h_0 (eX10 (fun v _ => T v) h_0_0)] cs) : Met l yX6_beginProgram (Cond.code yX6_beginProgram cX6_beginProgram 2 none :: gG) { frames := 3, cells := 0, slots := 0, locals := 107 } (cPre D [(a_h0_0, .int)] cs sz [.ref h, .ref h0]) (va_Qv (fun (u : va_W) => (True) ∧ ShL [kC h (eX6 (fun v w => v = .ref h0 ∧ w = .null) h_0 h_14 h_15 h_16), kC h0 (eX8 n_h0_0 h0_0), kC h0_0 (eArr n_h0_0 (-2147483648) 2147483647 a_h0_0), kC h_0 (eX10 (fun v _ => T v) h_0_0)] u) (fun u t => cB D (va_A cs sz) [] u t) (va_A cs sz)) 0 0 (va_A cs sz) := by
  obtain ⟨c0, cs0, rfl, g0, hs0⟩ := ShL.cons hs
  obtain ⟨_, rfl, h_1, h_2, v3_, h_4, h_5, h_6, h_7, h_8, h_9, h_10, h_11, h_12, h_13, rfl, ⟨h_3, rfl⟩, k0_7_lo, k0_7_hi, k0_9_lo, k0_9_hi, k0_13_lo, k0_13_hi⟩ := kC.of g0
  obtain ⟨c1, cs1, rfl, g1, hs1⟩ := ShL.cons hs0
  obtain ⟨_, rfl, h0_1, rfl, k1_1_lo, k1_1_hi⟩ := kC.of g1
  obtain ⟨c2, cs2, rfl, g2, hs2⟩ := ShL.cons hs1
  obtain ⟨_, rfl, f_h0_0, rfl, q_f_h0_0⟩ := kC.of g2
  obtain ⟨c3, cs3, rfl, g3, hs3⟩ := ShL.cons hs2
  obtain ⟨_, rfl, h_0_1, h_0_2, h_0_3, h_0_4, h_0_5, rfl, hT, k3_1_lo, k3_1_hi⟩ := kC.of g3
  obtain rfl := ShL.nil hs3
  refine (tX6_beginProgram l D h h0 h_0 h_1 h_2 h_3 h_4 h_5 h_6 h_7 h_8 h_9 h_10 h_11 h_12 h_13 h_14 h_15 h_16 h0_0 h0_1 n_h0_0 a_h0_0 f_h0_0 h_0_0 h_0_1 h_0_2 h_0_3 h_0_4 h_0_5 sz (by omega) (by omega) (by omega) (by omega) (by omega) (by omega) (by omega) (by omega) (by omega) (by omega) (by omega) (by omega) ).mono (fun _ _ h => h) (fun a st o t _ hq => ?_) (fun _ h => h)
  obtain ⟨⟨_, ho, hp, hB⟩, hF⟩ := hq
  exact ⟨⟨[(h, .inr (6, [.ref h_0, .int 0, .int (-1), .ref h0, .null, .int 0, .int h_6, .int 0, .int 0, .int 300, .int h_10, .int h_11, .int h_12, .int 0, .ref h_14, .ref h_15, .ref h_16])), (h0, .inr (8, [.ref h0_0, .int 0])), (h0_0, .inl (a_h0_0, n_h0_0, .inl f_h0_0)), (h_0, .inr (10, [.ref h_0_0, .int h_0_1, .int 0, .int 0, .int 0, .int 0]))], ho, ⟨trivial, ⟨⟨rfl, (0), ((-1)), (.ref h0), (.null), (0), (h_6), (0), (0), (300), (h_10), (h_11), (h_12), (0), rfl, ⟨rfl, rfl⟩, by first | omega | decide, by first | omega | decide | (have : (0 : Int32).toInt = 0 := (by decide); omega), by first | omega | decide, by first | omega | decide | (have : (0 : Int32).toInt = 0 := (by decide); omega), by first | omega | decide, by first | omega | decide | (have : (0 : Int32).toInt = 0 := (by decide); omega)⟩, ⟨rfl, (0), rfl, by first | omega | decide, by first | omega | decide | (have : (0 : Int32).toInt = 0 := (by decide); omega)⟩, ⟨rfl, _, rfl, q_f_h0_0⟩, ⟨rfl, (h_0_1), (0), (0), (0), (0), rfl, hT, by first | omega | decide, by first | omega | decide | (have : (0 : Int32).toInt = 0 := (by decide); omega)⟩, trivial⟩⟩, hB⟩, hF⟩
set_option maxHeartbeats 4000000 in
set_option maxRecDepth 100000 in
theorem wtX6_beginRule (l : Launch) (D : va_G) (T : Value → Prop) (h h0 h0_0 h0_1 h0_3 h0_4 h0_0_0 h0_1_0 h_0 h_14 h_15 h_16 h_0_0 : Nat) (a_h0_0_0 a_h0_1_0 : ClassId) (n_h0_0_0 n_h0_1_0 : Nat) (sz : Nat) (k_n_h0_0_0 : n_h0_0_0 ≤ 1000) (k_p_h0_0_0 : 1 ≤ n_h0_0_0) (k_n_h0_1_0 : n_h0_1_0 ≤ 1000) (k_p_h0_1_0 : 1 ≤ n_h0_1_0) (cs : List Cl) (hs : ShL [kC h0 (eX9 h0_0 h0_1 h0_3 h0_4), kC h0_0 (eX8 n_h0_0_0 h0_0_0), kC h0_0_0 (eArr n_h0_0_0 (-2147483648) 2147483647 a_h0_0_0), kC h0_1 (eX8 n_h0_1_0 h0_1_0), kC h0_1_0 (eArr n_h0_1_0 (-2147483648) 2147483647 a_h0_1_0), kC h (eX6 PR h_0 h_14 h_15 h_16), kC h_0 (eX10 (fun v _ => T v) h_0_0)] cs) : Met l yX6_beginRule (Cond.code yX6_beginRule cX6_beginRule 2 none :: gG) { frames := 3, cells := 0, slots := 0, locals := 107 } (cPre D [(a_h0_0_0, .int), (a_h0_1_0, .int)] cs sz [.ref h, .ref h0]) (va_Qv (fun (u : va_W) => (True) ∧ ShL [kC h0 (eX9 h0_0 h0_1 h0_3 h0_4), kC h0_0 (eX8 n_h0_0_0 h0_0_0), kC h0_0_0 (eArr n_h0_0_0 (-2147483648) 2147483647 a_h0_0_0), kC h0_1 (eX8 n_h0_1_0 h0_1_0), kC h0_1_0 (eArr n_h0_1_0 (-2147483648) 2147483647 a_h0_1_0), kC h (eX6 (fun v w => v = .ref h0_0 ∧ w = .ref h0) h_0 h_14 h_15 h_16), kC h_0 (eX10 (fun v _ => T v) h_0_0)] u) (fun u t => cB D (va_A cs sz) [] u t) (va_A cs sz)) 0 0 (va_A cs sz) := by
  obtain ⟨c0, cs0, rfl, g0, hs0⟩ := ShL.cons hs
  obtain ⟨_, rfl, h0_2, rfl⟩ := kC.of g0
  obtain ⟨c1, cs1, rfl, g1, hs1⟩ := ShL.cons hs0
  obtain ⟨_, rfl, h0_0_1, rfl, k1_1_lo, k1_1_hi⟩ := kC.of g1
  obtain ⟨c2, cs2, rfl, g2, hs2⟩ := ShL.cons hs1
  obtain ⟨_, rfl, f_h0_0_0, rfl, q_f_h0_0_0⟩ := kC.of g2
  obtain ⟨c3, cs3, rfl, g3, hs3⟩ := ShL.cons hs2
  obtain ⟨_, rfl, h0_1_1, rfl, k3_1_lo, k3_1_hi⟩ := kC.of g3
  obtain ⟨c4, cs4, rfl, g4, hs4⟩ := ShL.cons hs3
  obtain ⟨_, rfl, f_h0_1_0, rfl, q_f_h0_1_0⟩ := kC.of g4
  obtain ⟨c5, cs5, rfl, g5, hs5⟩ := ShL.cons hs4
  obtain ⟨_, rfl, h_1, h_2, v3_, h_4, h_5, h_6, h_7, h_8, h_9, h_10, h_11, h_12, h_13, rfl, ⟨h_3, rfl⟩, k5_7_lo, k5_7_hi, k5_9_lo, k5_9_hi, k5_13_lo, k5_13_hi⟩ := kC.of g5
  obtain ⟨c6, cs6, rfl, g6, hs6⟩ := ShL.cons hs5
  obtain ⟨_, rfl, h_0_1, h_0_2, h_0_3, h_0_4, h_0_5, rfl, hT, k6_1_lo, k6_1_hi⟩ := kC.of g6
  obtain rfl := ShL.nil hs6
  refine (tX6_beginRule l D h h0 h0_0 h0_1 h0_2 h0_3 h0_4 h0_0_0 h0_0_1 n_h0_0_0 a_h0_0_0 f_h0_0_0 h0_1_0 h0_1_1 n_h0_1_0 a_h0_1_0 f_h0_1_0 h_0 h_1 h_2 h_3 h_4 h_5 h_6 h_7 h_8 h_9 h_10 h_11 h_12 h_13 h_14 h_15 h_16 h_0_0 h_0_1 h_0_2 h_0_3 h_0_4 h_0_5 sz (by omega) (by omega) (by omega) (by omega) (by omega) (by omega) (by omega) (by omega) (by omega) (by omega) (by omega) (by omega) (by omega) (by omega) (by omega) (by omega) ).mono (fun _ _ h => h) (fun a st o t _ hq => ?_) (fun _ h => h)
  obtain ⟨⟨_, ho, hp, hB⟩, hF⟩ := hq
  exact ⟨⟨[(h0, .inr (9, [.ref h0_0, .ref h0_1, .int 0, .ref h0_3, .ref h0_4])), (h0_0, .inr (8, [.ref h0_0_0, .int 0])), (h0_0_0, .inl (a_h0_0_0, n_h0_0_0, .inl f_h0_0_0)), (h0_1, .inr (8, [.ref h0_1_0, .int 0])), (h0_1_0, .inl (a_h0_1_0, n_h0_1_0, .inl f_h0_1_0)), (h, .inr (6, [.ref h_0, .int 0, .int (-1), .ref h0_0, .ref h0, .int 5, .int 3, .int 0, .int 0, .int 40, .int 0, .int 0, .int h_12, .int 0, .ref h_14, .ref h_15, .ref h_16])), (h_0, .inr (10, [.ref h_0_0, .int h_0_1, .int 0, .int 0, .int 0, .int 0]))], ho, ⟨trivial, ⟨⟨rfl, (0), rfl⟩, ⟨rfl, (0), rfl, by first | omega | decide, by first | omega | decide | (have : (0 : Int32).toInt = 0 := (by decide); omega)⟩, ⟨rfl, _, rfl, q_f_h0_0_0⟩, ⟨rfl, (0), rfl, by first | omega | decide, by first | omega | decide | (have : (0 : Int32).toInt = 0 := (by decide); omega)⟩, ⟨rfl, _, rfl, q_f_h0_1_0⟩, ⟨rfl, (0), ((-1)), (.ref h0_0), (.ref h0), (5), (3), (0), (0), (40), (0), (0), (h_12), (0), rfl, ⟨rfl, rfl⟩, by first | omega | decide, by first | omega | decide | (have : (0 : Int32).toInt = 0 := (by decide); omega), by first | omega | decide, by first | omega | decide | (have : (0 : Int32).toInt = 0 := (by decide); omega), by first | omega | decide, by first | omega | decide | (have : (0 : Int32).toInt = 0 := (by decide); omega)⟩, ⟨rfl, (h_0_1), (0), (0), (0), (0), rfl, hT, by first | omega | decide, by first | omega | decide | (have : (0 : Int32).toInt = 0 := (by decide); omega)⟩, trivial⟩⟩, hB⟩, hF⟩
set_option maxHeartbeats 4000000 in
set_option maxRecDepth 100000 in
theorem wtX6_readAll_P (l : Launch) (D : va_G) (adK adV : Nat → Nat) (tq : Nat) (T : Value → Prop) (h h_0 h_14 h_15 h_16 h_3 h_0_0 h_3_0 : Nat) (a_h_0_0 a_h_3_0 a_h_14 a_h_15 a_h_16 : ClassId) (n_h_3_0 : Nat) (sz : Nat) (k_n_h_3_0 : n_h_3_0 ≤ 1000) (k_p_h_3_0 : 1 ≤ n_h_3_0) (cs : List Cl) (hs : ShL [kC h (eX6 (fun v w => v = .ref h_3 ∧ w = .null) h_0 h_14 h_15 h_16), kC h_0 (eX10 (fun v _ => T v) h_0_0), kC h_0_0 (eArr 800 (-2147483648) 2147483647 a_h_0_0), kC h_3 (eX8 n_h_3_0 h_3_0), kC h_3_0 (eArr n_h_3_0 (-2147483648) 2147483647 a_h_3_0), kC h_14 (eArr 8 (-2147483648) 2147483647 a_h_14), kC h_15 (eArr 8 (-2147483648) 2147483647 a_h_15), kC h_16 (eArr 8 (-2147483648) 2147483647 a_h_16)] cs) : Met l yX6_readAll (Cond.code yX6_readAll cX6_readAll 2 (some .boolean) :: gG) { frames := 8, cells := 0, slots := 0, locals := 365 } (cPS RX10 ixT adK adV tq D [(a_h_0_0, .int), (a_h_3_0, .int), (a_h_14, .int), (a_h_15, .int), (a_h_16, .int)] cs sz [.ref h]) (va_Qi (fun (r : Int32) (u : va_W) => (0 ≤ r.toInt ∧ r.toInt ≤ 1) ∧ ShL [kC h (eX6 PR h_0 h_14 h_15 h_16), kC h_0 (eX10 PTr h_0_0), kC h_0_0 (eArr 800 (-2147483648) 2147483647 a_h_0_0), kC h_3 (eX8 n_h_3_0 h_3_0), kC h_3_0 (eArr n_h_3_0 (-2147483648) 2147483647 a_h_3_0), kC h_14 (eArr 8 (-2147483648) 2147483647 a_h_14), kC h_15 (eArr 8 (-2147483648) 2147483647 a_h_15), kC h_16 (eArr 8 (-2147483648) 2147483647 a_h_16)] u) (fun u t => cB D (va_A cs sz) [] u t) (va_A cs sz)) 0 0 (va_A cs sz) := by
  obtain ⟨c0, cs0, rfl, g0, hs0⟩ := ShL.cons hs
  obtain ⟨_, rfl, h_1, h_2, v3_, v4_, h_5, h_6, h_7, h_8, h_9, h_10, h_11, h_12, h_13, rfl, ⟨rfl, rfl⟩, k0_7_lo, k0_7_hi, k0_9_lo, k0_9_hi, k0_13_lo, k0_13_hi⟩ := kC.of g0
  obtain ⟨c1, cs1, rfl, g1, hs1⟩ := ShL.cons hs0
  obtain ⟨_, rfl, h_0_1, h_0_2, h_0_3, h_0_4, h_0_5, rfl, hT, k1_1_lo, k1_1_hi⟩ := kC.of g1
  obtain ⟨c2, cs2, rfl, g2, hs2⟩ := ShL.cons hs1
  obtain ⟨_, rfl, f_h_0_0, rfl, q_f_h_0_0⟩ := kC.of g2
  obtain ⟨c3, cs3, rfl, g3, hs3⟩ := ShL.cons hs2
  obtain ⟨_, rfl, h_3_1, rfl, k3_1_lo, k3_1_hi⟩ := kC.of g3
  obtain ⟨c4, cs4, rfl, g4, hs4⟩ := ShL.cons hs3
  obtain ⟨_, rfl, f_h_3_0, rfl, q_f_h_3_0⟩ := kC.of g4
  obtain ⟨c5, cs5, rfl, g5, hs5⟩ := ShL.cons hs4
  obtain ⟨_, rfl, f_h_14, rfl, q_f_h_14⟩ := kC.of g5
  obtain ⟨c6, cs6, rfl, g6, hs6⟩ := ShL.cons hs5
  obtain ⟨_, rfl, f_h_15, rfl, q_f_h_15⟩ := kC.of g6
  obtain ⟨c7, cs7, rfl, g7, hs7⟩ := ShL.cons hs6
  obtain ⟨_, rfl, f_h_16, rfl, q_f_h_16⟩ := kC.of g7
  obtain rfl := ShL.nil hs7
  refine (tX6_readAll_P l D adK adV tq h h_0 h_1 h_2 h_3 h_5 h_6 h_7 h_8 h_9 h_10 h_11 h_12 h_13 h_14 h_15 h_16 h_0_0 h_0_1 h_0_2 h_0_3 h_0_4 h_0_5 a_h_0_0 f_h_0_0 h_3_0 h_3_1 n_h_3_0 a_h_3_0 f_h_3_0 a_h_14 f_h_14 a_h_15 f_h_15 a_h_16 f_h_16 sz (by omega) (by omega) (by omega) (by omega) (by omega) (by omega) (by omega) (by omega) (by omega) (by omega) (by omega) (by omega) ).mono (fun _ _ h => h) (fun a st o t _ hq => ?_) (fun _ h => h)
  obtain ⟨⟨r, ⟨jX_F_h_1, jX_F_h_2, jX_F_h_5, jX_F_h_6, jX_F_h_7, jX_F_h_8, jX_F_h_10, jX_F_h_11, jX_F_h_12, jX_F_h_13, jX_F_h_0_1, jX_F_h_0_2, jX_F_h_0_3, jX_F_h_0_4, jX_F_h_0_5, jX_F_h_3_1, jX_C_h_3_0, jX_C_h_14, jX_C_h_15, jX_C_h_16⟩, ho, hp, hB⟩, hF⟩ := hq
  obtain ⟨p0, p1, p2, p3, p4, p5, p6, p7, p8, p9, p10, p11, p12, p13, p14⟩ := hp
  exact ⟨⟨r, [(h, .inr (6, [.ref h_0, .int jX_F_h_1, .int jX_F_h_2, .ref h_3, .null, .int jX_F_h_5, .int jX_F_h_6, .int jX_F_h_7, .int jX_F_h_8, .int h_9, .int jX_F_h_10, .int jX_F_h_11, .int jX_F_h_12, .int jX_F_h_13, .ref h_14, .ref h_15, .ref h_16])), (h_0, .inr (10, [.ref h_0_0, .int jX_F_h_0_1, .int jX_F_h_0_2, .int jX_F_h_0_3, .int jX_F_h_0_4, .int jX_F_h_0_5])), (h_0_0, .inl (a_h_0_0, 800, .inl f_h_0_0)), (h_3, .inr (8, [.ref h_3_0, .int jX_F_h_3_1])), (h_3_0, .inl (a_h_3_0, n_h_3_0, .inl jX_C_h_3_0)), (h_14, .inl (a_h_14, 8, .inl jX_C_h_14)), (h_15, .inl (a_h_15, 8, .inl jX_C_h_15)), (h_16, .inl (a_h_16, 8, .inl jX_C_h_16))], ho, ⟨⟨by omega, by omega⟩, ⟨⟨rfl, (jX_F_h_1), (jX_F_h_2), (.ref h_3), (.null), (jX_F_h_5), (jX_F_h_6), (jX_F_h_7), (jX_F_h_8), (h_9), (jX_F_h_10), (jX_F_h_11), (jX_F_h_12), (jX_F_h_13), rfl, ⟨_, rfl⟩, by first | omega | decide, by first | omega | decide | (have : (0 : Int32).toInt = 0 := (by decide); omega), by first | omega | decide, by first | omega | decide | (have : (0 : Int32).toInt = 0 := (by decide); omega), by first | omega | decide, by first | omega | decide | (have : (0 : Int32).toInt = 0 := (by decide); omega)⟩, ⟨rfl, (jX_F_h_0_1), (jX_F_h_0_2), (jX_F_h_0_3), (jX_F_h_0_4), (jX_F_h_0_5), rfl, trivial, by first | omega | decide, by first | omega | decide | (have : (0 : Int32).toInt = 0 := (by decide); omega)⟩, ⟨rfl, _, rfl, q_f_h_0_0⟩, ⟨rfl, (jX_F_h_3_1), rfl, by first | omega | decide, by first | omega | decide | (have : (0 : Int32).toInt = 0 := (by decide); omega)⟩, ⟨rfl, _, rfl, cr_all _⟩, ⟨rfl, _, rfl, cr_all _⟩, ⟨rfl, _, rfl, cr_all _⟩, ⟨rfl, _, rfl, cr_all _⟩, trivial⟩⟩, hB⟩, hF⟩
set_option maxHeartbeats 4000000 in
set_option maxRecDepth 100000 in
theorem wtX6_readAll_L (l : Launch) (D : va_G) (adK adV : Nat → Nat) (tq : Nat) (T : Value → Prop) (h h_0 h_14 h_15 h_16 h_4_0 h_4 h_0_0 h_4_0_0 h_4_1 h_4_3 h_4_4 h_4_1_0 : Nat) (a_h_0_0 a_h_4_0_0 a_h_14 a_h_15 a_h_16 a_h_4_1_0 : ClassId) (n_h_4_0_0 n_h_4_1_0 : Nat) (sz : Nat) (k_n_h_4_0_0 : n_h_4_0_0 ≤ 1000) (k_p_h_4_0_0 : 1 ≤ n_h_4_0_0) (k_n_h_4_1_0 : n_h_4_1_0 ≤ 1000) (k_p_h_4_1_0 : 1 ≤ n_h_4_1_0) (cs : List Cl) (hs : ShL [kC h (eX6 (fun v w => v = .ref h_4_0 ∧ w = .ref h_4) h_0 h_14 h_15 h_16), kC h_0 (eX10 (fun v _ => T v) h_0_0), kC h_0_0 (eArr 800 (-2147483648) 2147483647 a_h_0_0), kC h_4_0 (eX8 n_h_4_0_0 h_4_0_0), kC h_4_0_0 (eArr n_h_4_0_0 (-2147483648) 2147483647 a_h_4_0_0), kC h_14 (eArr 8 (-2147483648) 2147483647 a_h_14), kC h_15 (eArr 8 (-2147483648) 2147483647 a_h_15), kC h_16 (eArr 8 (-2147483648) 2147483647 a_h_16), kC h_4 (eX9 h_4_0 h_4_1 h_4_3 h_4_4), kC h_4_1 (eX8 n_h_4_1_0 h_4_1_0), kC h_4_1_0 (eArr n_h_4_1_0 (-2147483648) 2147483647 a_h_4_1_0)] cs) : Met l yX6_readAll (Cond.code yX6_readAll cX6_readAll 2 (some .boolean) :: gG) { frames := 8, cells := 0, slots := 0, locals := 365 } (cPS RX10 ixT adK adV tq D [(a_h_0_0, .int), (a_h_4_0_0, .int), (a_h_14, .int), (a_h_15, .int), (a_h_16, .int), (a_h_4_1_0, .int)] cs sz [.ref h]) (va_Qi (fun (r : Int32) (u : va_W) => (0 ≤ r.toInt ∧ r.toInt ≤ 1) ∧ ShL [kC h (eX6 PR h_0 h_14 h_15 h_16), kC h_0 (eX10 PTr h_0_0), kC h_0_0 (eArr 800 (-2147483648) 2147483647 a_h_0_0), kC h_4_0 (eX8 n_h_4_0_0 h_4_0_0), kC h_4_0_0 (eArr n_h_4_0_0 (-2147483648) 2147483647 a_h_4_0_0), kC h_14 (eArr 8 (-2147483648) 2147483647 a_h_14), kC h_15 (eArr 8 (-2147483648) 2147483647 a_h_15), kC h_16 (eArr 8 (-2147483648) 2147483647 a_h_16), kC h_4 (eX9 h_4_0 h_4_1 h_4_3 h_4_4), kC h_4_1 (eX8 n_h_4_1_0 h_4_1_0), kC h_4_1_0 (eArr n_h_4_1_0 (-2147483648) 2147483647 a_h_4_1_0)] u) (fun u t => cB D (va_A cs sz) [] u t) (va_A cs sz)) 0 0 (va_A cs sz) := by
  obtain ⟨c0, cs0, rfl, g0, hs0⟩ := ShL.cons hs
  obtain ⟨_, rfl, h_1, h_2, v3_, v4_, h_5, h_6, h_7, h_8, h_9, h_10, h_11, h_12, h_13, rfl, ⟨rfl, rfl⟩, k0_7_lo, k0_7_hi, k0_9_lo, k0_9_hi, k0_13_lo, k0_13_hi⟩ := kC.of g0
  obtain ⟨c1, cs1, rfl, g1, hs1⟩ := ShL.cons hs0
  obtain ⟨_, rfl, h_0_1, h_0_2, h_0_3, h_0_4, h_0_5, rfl, hT, k1_1_lo, k1_1_hi⟩ := kC.of g1
  obtain ⟨c2, cs2, rfl, g2, hs2⟩ := ShL.cons hs1
  obtain ⟨_, rfl, f_h_0_0, rfl, q_f_h_0_0⟩ := kC.of g2
  obtain ⟨c3, cs3, rfl, g3, hs3⟩ := ShL.cons hs2
  obtain ⟨_, rfl, h_4_0_1, rfl, k3_1_lo, k3_1_hi⟩ := kC.of g3
  obtain ⟨c4, cs4, rfl, g4, hs4⟩ := ShL.cons hs3
  obtain ⟨_, rfl, f_h_4_0_0, rfl, q_f_h_4_0_0⟩ := kC.of g4
  obtain ⟨c5, cs5, rfl, g5, hs5⟩ := ShL.cons hs4
  obtain ⟨_, rfl, f_h_14, rfl, q_f_h_14⟩ := kC.of g5
  obtain ⟨c6, cs6, rfl, g6, hs6⟩ := ShL.cons hs5
  obtain ⟨_, rfl, f_h_15, rfl, q_f_h_15⟩ := kC.of g6
  obtain ⟨c7, cs7, rfl, g7, hs7⟩ := ShL.cons hs6
  obtain ⟨_, rfl, f_h_16, rfl, q_f_h_16⟩ := kC.of g7
  obtain ⟨c8, cs8, rfl, g8, hs8⟩ := ShL.cons hs7
  obtain ⟨_, rfl, h_4_2, rfl⟩ := kC.of g8
  obtain ⟨c9, cs9, rfl, g9, hs9⟩ := ShL.cons hs8
  obtain ⟨_, rfl, h_4_1_1, rfl, k9_1_lo, k9_1_hi⟩ := kC.of g9
  obtain ⟨c10, cs10, rfl, g10, hs10⟩ := ShL.cons hs9
  obtain ⟨_, rfl, f_h_4_1_0, rfl, q_f_h_4_1_0⟩ := kC.of g10
  obtain rfl := ShL.nil hs10
  refine (tX6_readAll_L l D adK adV tq h h_0 h_1 h_2 h_4_0 h_4 h_5 h_6 h_7 h_8 h_9 h_10 h_11 h_12 h_13 h_14 h_15 h_16 h_0_0 h_0_1 h_0_2 h_0_3 h_0_4 h_0_5 a_h_0_0 f_h_0_0 h_4_0_0 h_4_0_1 n_h_4_0_0 a_h_4_0_0 f_h_4_0_0 a_h_14 f_h_14 a_h_15 f_h_15 a_h_16 f_h_16 h_4_1 h_4_2 h_4_3 h_4_4 h_4_1_0 h_4_1_1 n_h_4_1_0 a_h_4_1_0 f_h_4_1_0 sz (by omega) (by omega) (by omega) (by omega) (by omega) (by omega) (by omega) (by omega) (by omega) (by omega) (by omega) (by omega) (by omega) (by omega) (by omega) (by omega) ).mono (fun _ _ h => h) (fun a st o t _ hq => ?_) (fun _ h => h)
  obtain ⟨⟨r, ⟨jX_F_h_1, jX_F_h_2, jX_F_h_5, jX_F_h_6, jX_F_h_7, jX_F_h_8, jX_F_h_10, jX_F_h_11, jX_F_h_12, jX_F_h_13, jX_F_h_0_1, jX_F_h_0_2, jX_F_h_0_3, jX_F_h_0_4, jX_F_h_0_5, jX_F_h_4_0_1, jX_C_h_4_0_0, jX_C_h_14, jX_C_h_15, jX_C_h_16, jX_F_h_4_2, jX_F_h_4_1_1, jX_C_h_4_1_0, jX_F_h_3⟩, ho, hp, hB⟩, hF⟩ := hq
  obtain ⟨p0, p1, p2, p3, p4, p5, p6, p7, p8, p9, p10, p11, p12, p13, p14, p15, p16, p17, p18, p19⟩ := hp
  exact ⟨⟨r, [(h, .inr (6, [.ref h_0, .int jX_F_h_1, .int jX_F_h_2, jX_F_h_3, .ref h_4, .int jX_F_h_5, .int jX_F_h_6, .int jX_F_h_7, .int jX_F_h_8, .int h_9, .int jX_F_h_10, .int jX_F_h_11, .int jX_F_h_12, .int jX_F_h_13, .ref h_14, .ref h_15, .ref h_16])), (h_0, .inr (10, [.ref h_0_0, .int jX_F_h_0_1, .int jX_F_h_0_2, .int jX_F_h_0_3, .int jX_F_h_0_4, .int jX_F_h_0_5])), (h_0_0, .inl (a_h_0_0, 800, .inl f_h_0_0)), (h_4_0, .inr (8, [.ref h_4_0_0, .int jX_F_h_4_0_1])), (h_4_0_0, .inl (a_h_4_0_0, n_h_4_0_0, .inl jX_C_h_4_0_0)), (h_14, .inl (a_h_14, 8, .inl jX_C_h_14)), (h_15, .inl (a_h_15, 8, .inl jX_C_h_15)), (h_16, .inl (a_h_16, 8, .inl jX_C_h_16)), (h_4, .inr (9, [.ref h_4_0, .ref h_4_1, .int jX_F_h_4_2, .ref h_4_3, .ref h_4_4])), (h_4_1, .inr (8, [.ref h_4_1_0, .int jX_F_h_4_1_1])), (h_4_1_0, .inl (a_h_4_1_0, n_h_4_1_0, .inl jX_C_h_4_1_0))], ho, ⟨⟨by omega, by omega⟩, ⟨⟨rfl, (jX_F_h_1), (jX_F_h_2), jX_F_h_3, (.ref h_4), (jX_F_h_5), (jX_F_h_6), (jX_F_h_7), (jX_F_h_8), (h_9), (jX_F_h_10), (jX_F_h_11), (jX_F_h_12), (jX_F_h_13), rfl, (by rcases p19 with q | q <;> exact ⟨_, q⟩), by first | omega | decide, by first | omega | decide | (have : (0 : Int32).toInt = 0 := (by decide); omega), by first | omega | decide, by first | omega | decide | (have : (0 : Int32).toInt = 0 := (by decide); omega), by first | omega | decide, by first | omega | decide | (have : (0 : Int32).toInt = 0 := (by decide); omega)⟩, ⟨rfl, (jX_F_h_0_1), (jX_F_h_0_2), (jX_F_h_0_3), (jX_F_h_0_4), (jX_F_h_0_5), rfl, trivial, by first | omega | decide, by first | omega | decide | (have : (0 : Int32).toInt = 0 := (by decide); omega)⟩, ⟨rfl, _, rfl, q_f_h_0_0⟩, ⟨rfl, (jX_F_h_4_0_1), rfl, by first | omega | decide, by first | omega | decide | (have : (0 : Int32).toInt = 0 := (by decide); omega)⟩, ⟨rfl, _, rfl, cr_all _⟩, ⟨rfl, _, rfl, cr_all _⟩, ⟨rfl, _, rfl, cr_all _⟩, ⟨rfl, _, rfl, cr_all _⟩, ⟨rfl, (jX_F_h_4_2), rfl⟩, ⟨rfl, (jX_F_h_4_1_1), rfl, by first | omega | decide, by first | omega | decide | (have : (0 : Int32).toInt = 0 := (by decide); omega)⟩, ⟨rfl, _, rfl, cr_all _⟩, trivial⟩⟩, hB⟩, hF⟩
