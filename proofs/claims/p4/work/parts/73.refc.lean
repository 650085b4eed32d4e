def MInv (I : Nat → Int) (F : Nat → Int → Int) : Prop := SW (F 0) (F 1) ∧ RWa (I 23) (F 24) (F 25) (F 26) ∧ IW (I 23) (F 49) (F 50) ∧ 0 ≤ I 7 ∧ I 7 ≤ 800 ∧ 0 ≤ I 11 ∧ I 11 ≤ 9999
theorem IW_up {r r' : Int} {a b : Int → Int} (h : r ≤ r') (hI : IW r a b) : IW r' a b := by
  intro k k0 k5
  obtain ⟨h1, h2, h3⟩ := hI k k0 k5
  refine ⟨h1, h2, fun i i0 i1 => ?_⟩
  rcases h3 i i0 i1 with q | q
  · exact Or.inl ⟨q.1, by omega⟩
  · exact Or.inr q
theorem feed_okx {tape : Int → Int} {taped x0 x1 x2 x3 x4 : Int} (h0 : 0 ≤ taped) (h8 : taped ≤ 800) {K : Int → (Int → Int) → Int → Prop} (hK1 : 780 < taped → ∀ f, K (-1) f taped) (hK2 : taped ≤ 780 → ∀ f, K (taped + 20) f (taped + 20)) : wp_feed tape taped x0 x1 x2 x3 x4 K := by
  refine ⟨⟨by omega, by omega⟩, fun hle => ?_, fun hgt => hK1 (by omega) _⟩
  refine wl3_rule (fun (k : Int) (_ : Int → Int) (t : Int) => 0 ≤ k ∧ k ≤ 20 ∧ t = taped + k) (fun (k : Int) _ _ => (20 - k).toNat) ?_ ⟨by omega, by omega, by omega⟩
  rintro P k f t ⟨k0, k20, rfl⟩ ih
  have st : k < 20 → ∀ s, wp_feed_71 k f (taped + k) P s := fun h s => ⟨⟨by omega, by omega⟩, ⟨by omega, by omega⟩, ⟨by omega, by omega⟩, ih _ _ _ ⟨by omega, by omega, by omega⟩ (by omega)⟩
  exact ⟨fun h => by rw [show k = 20 by omega]; exact hK2 (by omega) _, fun h => ⟨fun _ => ⟨fun _ => ⟨fun _ => ⟨fun _ => st h _, fun _ => st h _⟩, fun _ => st h _⟩, fun _ => st h _⟩, fun _ => st h _⟩⟩

set_option maxHeartbeats 4000000 in
set_option maxRecDepth 100000 in
theorem q_feed (l : Launch) (D : va_G) (h : Nat) (ad : Nat → Nat) (ca : Nat → ClassId) (I : Nat → Int) (F : Nat → Int → Int) (sz : Nat) (x0 : Int32) (x1 : Int32) (x2 : Int32) (x3 : Int32) (x4 : Int32) (hr : rngS I F) (hM : MInv I F) : Met l yX12_feed (Cond.code yX12_feed cX12_feed 8 (some .int) :: gG) { frames := 1, cells := 0, slots := 0, locals := 64 } (cPre D (tM ca) (wM h ad ca I F) sz [.ref h, .int x0, .int x1, .int x2, .int x3, .int x4]) (va_Qi (fun (r : Int32) (u : (Nat → Int) × (Nat → Int → Int)) => ((780 < I 7 ∧ r = zI (-1) ∧ u.1 7 = I 7) ∨ (I 7 ≤ 780 ∧ r = zI (I 7 + 20) ∧ u.1 7 = I 7 + 20)) ∧ MInv u.1 u.2 ∧ rngS u.1 u.2) (fun u t => cB D (va_A (wM h ad ca I F) sz) [] (wM h ad ca u.1 u.2) t) (va_A (wM h ad ca I F) sz)) 0 0 (va_A (wM h ad ca I F) sz) := by
  obtain ⟨hS, hR, hI, h0, h8, v0, v1⟩ := hM
  have m := mt_feed D h ad ca I F hr x0.toInt x1.toInt x2.toInt x3.toInt x4.toInt (rng_toInt x0) (rng_toInt x1) (rng_toInt x2) (rng_toInt x3) (rng_toInt x4) (fun (r : Int) (c0 : (Int → Int)) (c1 : Int) => ((780 < I 7 ∧ r = (-1) ∧ (sI I 7 c1) 7 = I 7) ∨ (I 7 ≤ 780 ∧ r = (I 7 + 20) ∧ (sI I 7 c1) 7 = I 7 + 20)) ∧ MInv (sI I 7 c1) (sF F 6 c0)) (feed_okx h0 h8 (fun q _ => ⟨Or.inl ⟨q, rfl, rfl⟩, hS, hR, hI, h0, h8, v0, v1⟩) (fun q _ => ⟨Or.inr ⟨q, rfl, rfl⟩, hS, hR, hI, (by show 0 ≤ I 7 + 20; omega), (by show I 7 + 20 ≤ 800; omega), v0, v1⟩)) l sz
  rw [← zI_back x0, ← zI_back x1, ← zI_back x2, ← zI_back x3, ← zI_back x4] at m
  refine m.mono (fun _ _ h => h) (fun a st o t _ hq => ?_) (fun _ h => h)
  obtain ⟨⟨r, u, ho, ⟨⟨x, hx, gx, hK⟩, hr1⟩, hB⟩, hF⟩ := hq
  refine ⟨⟨r, ((sI I 7 u.2), (sF F 6 u.1)), ho, ⟨?_, hK.2, hr1⟩, hB⟩, hF⟩
  rcases hK.1 with ⟨q1, q2, q3⟩ | ⟨q1, q2, q3⟩
  · exact Or.inl ⟨q1, hx.trans (congrArg zI q2), q3⟩
  · exact Or.inr ⟨q1, hx.trans (congrArg zI q2), q3⟩
set_option maxHeartbeats 4000000 in
set_option maxRecDepth 100000 in
theorem q_end (l : Launch) (D : va_G) (h : Nat) (ad : Nat → Nat) (ca : Nat → ClassId) (I : Nat → Int) (F : Nat → Int → Int) (sz : Nat) (x0 : Int32) (hr : rngS I F) (hM : MInv I F) : Met l yX12_end (Cond.code yX12_end cX12_end 2 (some .boolean) :: gG) { frames := 2, cells := 0, slots := 0, locals := 86 } (cPre D (tM ca) (wM h ad ca I F) sz [.ref h, .int x0]) (va_Qi (fun (r : Int32) (u : (Nat → Int) × (Nat → Int → Int)) => (((0 ≤ x0.toInt ∧ x0.toInt ≤ I 7) ∧ r = zI (1) ∧ u.1 7 = x0.toInt) ∨ (¬ (0 ≤ x0.toInt ∧ x0.toInt ≤ I 7) ∧ r = zI (0) ∧ u.1 7 = I 7)) ∧ MInv u.1 u.2 ∧ rngS u.1 u.2) (fun u t => cB D (va_A (wM h ad ca I F) sz) [] (wM h ad ca u.1 u.2) t) (va_A (wM h ad ca I F) sz)) 0 0 (va_A (wM h ad ca I F) sz) := by
  obtain ⟨hS, hR, hI, h0, h8, v0, v1⟩ := hM
  have m := mt_end D h ad ca I F hr x0.toInt (rng_toInt x0) (fun (r : Int) (c0 : Int) => (((0 ≤ x0.toInt ∧ x0.toInt ≤ I 7) ∧ r = (1) ∧ (sI I 7 c0) 7 = x0.toInt) ∨ (¬ (0 ≤ x0.toInt ∧ x0.toInt ≤ I 7) ∧ r = (0) ∧ (sI I 7 c0) 7 = I 7)) ∧ MInv (sI I 7 c0) F) (isIn_c (fun a b => u1 ⟨Or.inl ⟨⟨a, b⟩, rfl, rfl⟩, hS, hR, hI, a, (by show x0.toInt ≤ 800; omega), v0, v1⟩) (fun q => u0 ⟨Or.inr ⟨by omega, rfl, rfl⟩, hS, hR, hI, h0, h8, v0, v1⟩)) l sz
  rw [← zI_back x0] at m
  refine m.mono (fun _ _ h => h) (fun a st o t _ hq => ?_) (fun _ h => h)
  obtain ⟨⟨r, u, ho, ⟨⟨x, hx, gx, hK⟩, hr1⟩, hB⟩, hF⟩ := hq
  refine ⟨⟨r, ((sI I 7 u), F), ho, ⟨?_, hK.2, hr1⟩, hB⟩, hF⟩
  rcases hK.1 with ⟨q1, q2, q3⟩ | ⟨q1, q2, q3⟩
  · exact Or.inl ⟨q1, hx.trans (congrArg zI q2), q3⟩
  · exact Or.inr ⟨q1, hx.trans (congrArg zI q2), q3⟩
set_option maxHeartbeats 4000000 in
set_option maxRecDepth 100000 in
theorem q_program (l : Launch) (D : va_G) (adK adV : Nat → Nat) (tq : Nat) (h : Nat) (ad : Nat → Nat) (ca : Nat → ClassId) (I : Nat → Int) (F : Nat → Int → Int) (sz : Nat) (x0 : Int32) (hr : rngS I F) (hM : MInv I F) : Met l yX12_program (Cond.code yX12_program cX12_program 3 (some .int) :: gG) { frames := 215, cells := 0, slots := 0, locals := 4954 } (cPS RX12 ixM adK adV tq D (tM ca) (wM h ad ca I F) sz [.ref h, .int x0]) (va_Qi (fun (r : Int32) (u : (Nat → Int) × (Nat → Int → Int)) => (u.1 7 = 0) ∧ MInv u.1 u.2 ∧ rngS u.1 u.2) (fun u t => cB D (va_A (wM h ad ca I F) sz) [] (wM h ad ca u.1 u.2) t) (va_A (wM h ad ca I F) sz)) 0 0 (va_A (wM h ad ca I F) sz) := by
  obtain ⟨hS, hR, hI, h0, h8, v0, v1⟩ := hM
  have m := mt_program D h ad ca I F hr adK adV tq x0.toInt (rng_toInt x0) (fun (r : Int) (c0 : (Int → Int)) (c1 : (Int → Int)) (c2 : (Int → Int)) (c3 : (Int → Int)) (c4 : Int) (c5 : Int) (c6 : Int) (c7 : Int) (c8 : Int) (c9 : Int) (c10 : Int) (c11 : Int) (c12 : Int) (c13 : Int) (c14 : Int) (c15 : Int) (c16 : Int) (c17 : Int) (c18 : Int) (c19 : Int) (c20 : Int) (c21 : Int) => ((sI (sI (sI (sI (sI (sI (sI (sI (sI (sI (sI (sI (sI (sI (sI (sI (sI (sI I 4 c4) 5 c5) 7 c6) 8 c7) 9 c8) 10 c9) 11 c10) 12 c11) 13 c12) 14 c13) 15 c14) 16 c15) 17 c16) 18 c17) 19 c18) 20 c19) 21 c20) 22 c21) 7 = 0) ∧ MInv (sI (sI (sI (sI (sI (sI (sI (sI (sI (sI (sI (sI (sI (sI (sI (sI (sI (sI I 4 c4) 5 c5) 7 c6) 8 c7) 9 c8) 10 c9) 11 c10) 12 c11) 13 c12) 14 c13) 15 c14) 16 c15) 17 c16) 18 c17) 19 c18) 20 c19) 21 c20) 22 c21) (sF (sF (sF (sF F 0 c0) 1 c1) 2 c2) 3 c3)) (program_ok hS h0 h8 v0 v1 (fun _ _ _ _ _ _ _ _ _ _ _ _ _ _ _ _ _ _ _ _ _ _ s a b => ⟨rfl, s, hR, hI, (by decide : (0 : Int) ≤ 0), (by decide : (0 : Int) ≤ 800), a, b⟩)) l sz
  rw [← zI_back x0] at m
  refine m.mono (fun _ _ h => h) (fun a st o t _ hq => ?_) (fun _ h => h)
  obtain ⟨⟨r, u, ho, ⟨⟨x, hx, gx, hK⟩, hr1⟩, hB⟩, hF⟩ := hq
  exact ⟨⟨r, ((sI (sI (sI (sI (sI (sI (sI (sI (sI (sI (sI (sI (sI (sI (sI (sI (sI (sI I 4 u.2.2.2.2.1) 5 u.2.2.2.2.2.1) 7 u.2.2.2.2.2.2.1) 8 u.2.2.2.2.2.2.2.1) 9 u.2.2.2.2.2.2.2.2.1) 10 u.2.2.2.2.2.2.2.2.2.1) 11 u.2.2.2.2.2.2.2.2.2.2.1) 12 u.2.2.2.2.2.2.2.2.2.2.2.1) 13 u.2.2.2.2.2.2.2.2.2.2.2.2.1) 14 u.2.2.2.2.2.2.2.2.2.2.2.2.2.1) 15 u.2.2.2.2.2.2.2.2.2.2.2.2.2.2.1) 16 u.2.2.2.2.2.2.2.2.2.2.2.2.2.2.2.1) 17 u.2.2.2.2.2.2.2.2.2.2.2.2.2.2.2.2.1) 18 u.2.2.2.2.2.2.2.2.2.2.2.2.2.2.2.2.2.1) 19 u.2.2.2.2.2.2.2.2.2.2.2.2.2.2.2.2.2.2.1) 20 u.2.2.2.2.2.2.2.2.2.2.2.2.2.2.2.2.2.2.2.1) 21 u.2.2.2.2.2.2.2.2.2.2.2.2.2.2.2.2.2.2.2.2.1) 22 u.2.2.2.2.2.2.2.2.2.2.2.2.2.2.2.2.2.2.2.2.2), (sF (sF (sF (sF F 0 u.1) 1 u.2.1) 2 u.2.2.1) 3 u.2.2.2.1)), ho, ⟨hK.1, hK.2, hr1⟩, hB⟩, hF⟩
set_option maxHeartbeats 4000000 in
set_option maxRecDepth 100000 in
theorem q_rule (l : Launch) (D : va_G) (adK adV : Nat → Nat) (tq : Nat) (h : Nat) (ad : Nat → Nat) (ca : Nat → ClassId) (I : Nat → Int) (F : Nat → Int → Int) (sz : Nat) (hr : rngS I F) (hM : MInv I F) : Met l yX12_rule (Cond.code yX12_rule cX12_rule 4 (some .int) :: gG) { frames := 112, cells := 0, slots := 0, locals := 2670 } (cPS RX12 ixM adK adV tq D (tM ca) (wM h ad ca I F) sz [.ref h]) (va_Qi (fun (r : Int32) (u : (Nat → Int) × (Nat → Int → Int)) => (u.1 7 = 0) ∧ MInv u.1 u.2 ∧ rngS u.1 u.2) (fun u t => cB D (va_A (wM h ad ca I F) sz) [] (wM h ad ca u.1 u.2) t) (va_A (wM h ad ca I F) sz)) 0 0 (va_A (wM h ad ca I F) sz) := by
  obtain ⟨hS, hR, hI, h0, h8, v0, v1⟩ := hM
  have m := mt_rule D h ad ca I F hr adK adV tq   (fun (r : Int) (c0 : (Int → Int)) (c1 : Int) (c2 : Int) (c3 : Int) (c4 : Int) (c5 : Int) (c6 : Int) (c7 : Int) (c8 : Int) (c9 : Int) (c10 : Int) (c11 : Int) (c12 : Int) (c13 : Int) (c14 : Int) (c15 : Int) (c16 : Int) (c17 : Int) (c18 : Int) (c19 : (Int → Int)) (c20 : (Int → Int)) (c21 : (Int → Int)) (c22 : (Int → Int)) => ((sI (sI (sI (sI (sI (sI (sI (sI (sI (sI (sI (sI (sI (sI (sI (sI (sI (sI I 5 c1) 7 c2) 8 c3) 9 c4) 10 c5) 11 c6) 12 c7) 13 c8) 14 c9) 15 c10) 16 c11) 17 c12) 18 c13) 19 c14) 20 c15) 21 c16) 22 c17) 23 c18) 7 = 0) ∧ MInv (sI (sI (sI (sI (sI (sI (sI (sI (sI (sI (sI (sI (sI (sI (sI (sI (sI (sI I 5 c1) 7 c2) 8 c3) 9 c4) 10 c5) 11 c6) 12 c7) 13 c8) 14 c9) 15 c10) 16 c11) 17 c12) 18 c13) 19 c14) 20 c15) 21 c16) 22 c17) 23 c18) (sF (sF (sF (sF (sF F 3 c0) 24 c19) 25 c20) 26 c21) 27 c22)) (rule_ok hR h0 h8 v0 v1 (fun _ _ _ _ _ _ _ _ _ _ _ _ _ _ _ _ _ _ _ _ _ _ _ r le a b => ⟨rfl, hS, r, IW_up le hI, (by decide : (0 : Int) ≤ 0), (by decide : (0 : Int) ≤ 800), a, b⟩)) l sz
  refine m.mono (fun _ _ h => h) (fun a st o t _ hq => ?_) (fun _ h => h)
  obtain ⟨⟨r, u, ho, ⟨⟨x, hx, gx, hK⟩, hr1⟩, hB⟩, hF⟩ := hq
  exact ⟨⟨r, ((sI (sI (sI (sI (sI (sI (sI (sI (sI (sI (sI (sI (sI (sI (sI (sI (sI (sI I 5 u.2.1) 7 u.2.2.1) 8 u.2.2.2.1) 9 u.2.2.2.2.1) 10 u.2.2.2.2.2.1) 11 u.2.2.2.2.2.2.1) 12 u.2.2.2.2.2.2.2.1) 13 u.2.2.2.2.2.2.2.2.1) 14 u.2.2.2.2.2.2.2.2.2.1) 15 u.2.2.2.2.2.2.2.2.2.2.1) 16 u.2.2.2.2.2.2.2.2.2.2.2.1) 17 u.2.2.2.2.2.2.2.2.2.2.2.2.1) 18 u.2.2.2.2.2.2.2.2.2.2.2.2.2.1) 19 u.2.2.2.2.2.2.2.2.2.2.2.2.2.2.1) 20 u.2.2.2.2.2.2.2.2.2.2.2.2.2.2.2.1) 21 u.2.2.2.2.2.2.2.2.2.2.2.2.2.2.2.2.1) 22 u.2.2.2.2.2.2.2.2.2.2.2.2.2.2.2.2.2.1) 23 u.2.2.2.2.2.2.2.2.2.2.2.2.2.2.2.2.2.2.1), (sF (sF (sF (sF (sF F 3 u.1) 24 u.2.2.2.2.2.2.2.2.2.2.2.2.2.2.2.2.2.2.2.1) 25 u.2.2.2.2.2.2.2.2.2.2.2.2.2.2.2.2.2.2.2.2.1) 26 u.2.2.2.2.2.2.2.2.2.2.2.2.2.2.2.2.2.2.2.2.2.1) 27 u.2.2.2.2.2.2.2.2.2.2.2.2.2.2.2.2.2.2.2.2.2.2)), ho, ⟨hK.1, hK.2, hr1⟩, hB⟩, hF⟩
set_option maxHeartbeats 4000000 in
set_option maxRecDepth 100000 in
theorem q_fault (l : Launch) (D : va_G) (h : Nat) (ad : Nat → Nat) (ca : Nat → ClassId) (I : Nat → Int) (F : Nat → Int → Int) (sz : Nat) (x0 : Int32) (hr : rngS I F) (hM : MInv I F) : Met l yX12_fault (Cond.code yX12_fault cX12_fault 2 (some .int) :: gG) { frames := 1, cells := 0, slots := 0, locals := 64 } (cPre D (tM ca) (wM h ad ca I F) sz [.ref h, .int x0]) (vp_Si (fun _ => True)) 0 0 (fun _ => False) := by
  obtain ⟨hS, hR, hI, h0, h8, v0, v1⟩ := hM
  have m := mt_fault D h ad ca I F hr x0.toInt (rng_toInt x0) (fun _ => True) (fault_ok (fun _ => trivial)) l sz
  rw [← zI_back x0] at m
  refine m.mono (fun _ _ h => h) (fun a st o t _ hq => ?_) (fun _ h => h)
  obtain ⟨r, ho, -, hh⟩ := hq
  exact ⟨r, ho, trivial, hh⟩
set_option maxHeartbeats 4000000 in
set_option maxRecDepth 100000 in
theorem q_at (l : Launch) (D : va_G) (h : Nat) (ad : Nat → Nat) (ca : Nat → ClassId) (I : Nat → Int) (F : Nat → Int → Int) (sz : Nat) (x0 : Int32) (x1 : Int32) (hr : rngS I F) (hM : MInv I F) : Met l yX12_at (Cond.code yX12_at cX12_at 3 (some .int) :: gG) { frames := 3, cells := 0, slots := 0, locals := 106 } (cPre D (tM ca) (wM h ad ca I F) sz [.ref h, .int x0, .int x1]) (vp_Si (fun _ => True)) 0 0 (fun _ => False) := by
  obtain ⟨hS, hR, hI, h0, h8, v0, v1⟩ := hM
  have m := mt_at D h ad ca I F hr x0.toInt x1.toInt (rng_toInt x0) (rng_toInt x1) (fun _ => True) (at_ok hS (fun _ => trivial)) l sz
  rw [← zI_back x0, ← zI_back x1] at m
  refine m.mono (fun _ _ h => h) (fun a st o t _ hq => ?_) (fun _ h => h)
  obtain ⟨r, ho, -, hh⟩ := hq
  exact ⟨r, ho, trivial, hh⟩
set_option maxHeartbeats 4000000 in
set_option maxRecDepth 100000 in
theorem q_size (l : Launch) (D : va_G) (h : Nat) (ad : Nat → Nat) (ca : Nat → ClassId) (I : Nat → Int) (F : Nat → Int → Int) (sz : Nat) (x0 : Int32) (x1 : Int32) (hr : rngS I F) (hM : MInv I F) : Met l yX12_size (Cond.code yX12_size cX12_size 3 (some .int) :: gG) { frames := 710, cells := 0, slots := 0, locals := 15614 } (cPre D (tM ca) (wM h ad ca I F) sz [.ref h, .int x0, .int x1]) (va_Qi (fun (r : Int32) (u : (Nat → Int) × (Nat → Int → Int)) => (u.1 7 = I 7) ∧ MInv u.1 u.2 ∧ rngS u.1 u.2) (fun u t => cB D (va_A (wM h ad ca I F) sz) [] (wM h ad ca u.1 u.2) t) (va_A (wM h ad ca I F) sz)) 0 0 (va_A (wM h ad ca I F) sz) := by
  obtain ⟨hS, hR, hI, h0, h8, v0, v1⟩ := hM
  have m := mt_size D h ad ca I F hr x0.toInt x1.toInt (rng_toInt x0) (rng_toInt x1) (fun (r : Int) (c0 : (Int → Int)) (c1 : Int) => ((sI I 4 c1) 7 = I 7) ∧ MInv (sI I 4 c1) (sF F 2 c0)) (size_ok hS (fun _ _ _ => ⟨rfl, hS, hR, hI, h0, h8, v0, v1⟩)) l sz
  rw [← zI_back x0, ← zI_back x1] at m
  refine m.mono (fun _ _ h => h) (fun a st o t _ hq => ?_) (fun _ h => h)
  obtain ⟨⟨r, u, ho, ⟨⟨x, hx, gx, hK⟩, hr1⟩, hB⟩, hF⟩ := hq
  exact ⟨⟨r, ((sI I 4 u.2), (sF F 2 u.1)), ho, ⟨hK.1, hK.2, hr1⟩, hB⟩, hF⟩
set_option maxHeartbeats 4000000 in
set_option maxRecDepth 100000 in
theorem q_run (l : Launch) (D : va_G) (h : Nat) (ad : Nat → Nat) (ca : Nat → ClassId) (I : Nat → Int) (F : Nat → Int → Int) (sz : Nat) (x0 : Int32) (x1 : Int32) (x2 : Int32) (x3 : Int32) (hr : rngS I F) (hM : MInv I F) : Met l yX12_run (Cond.code yX12_run cX12_run 5 (some .int) :: gG) { frames := 711, cells := 0, slots := 0, locals := 15337 } (cPre D (tM ca) (wM h ad ca I F) sz [.ref h, .int x0, .int x1, .int x2, .int x3]) (va_Qi (fun (r : Int32) (u : (Nat → Int) × (Nat → Int → Int)) => (u.1 7 = I 7) ∧ MInv u.1 u.2 ∧ rngS u.1 u.2) (fun u t => cB D (va_A (wM h ad ca I F) sz) [] (wM h ad ca u.1 u.2) t) (va_A (wM h ad ca I F) sz)) 0 0 (va_A (wM h ad ca I F) sz) := by
  obtain ⟨hS, hR, hI, h0, h8, v0, v1⟩ := hM
  have m := mt_run D h ad ca I F hr x0.toInt x1.toInt x2.toInt x3.toInt (rng_toInt x0) (rng_toInt x1) (rng_toInt x2) (rng_toInt x3) (fun (r : Int) (c0 : (Int → Int)) (c1 : Int) (c2 : (Int → Int)) (c3 : (Int → Int)) (c4 : Int) (c5 : Int) (c6 : Int) (c7 : Int) => ((sI (sI (sI (sI (sI I 4 c1) 30 c4) 31 c5) 32 c6) 33 c7) 7 = I 7) ∧ MInv (sI (sI (sI (sI (sI I 4 c1) 30 c4) 31 c5) 32 c6) 33 c7) (sF (sF (sF F 2 c0) 28 c2) 29 c3)) (run_ok hS (fun _ _ _ _ _ _ _ _ _ => ⟨rfl, hS, hR, hI, h0, h8, v0, v1⟩)) l sz
  rw [← zI_back x0, ← zI_back x1, ← zI_back x2, ← zI_back x3] at m
  refine m.mono (fun _ _ h => h) (fun a st o t _ hq => ?_) (fun _ h => h)
  obtain ⟨⟨r, u, ho, ⟨⟨x, hx, gx, hK⟩, hr1⟩, hB⟩, hF⟩ := hq
  exact ⟨⟨r, ((sI (sI (sI (sI (sI I 4 u.2.1) 30 u.2.2.2.2.1) 31 u.2.2.2.2.2.1) 32 u.2.2.2.2.2.2.1) 33 u.2.2.2.2.2.2.2), (sF (sF (sF F 2 u.1) 28 u.2.2.1) 29 u.2.2.2.1)), ho, ⟨hK.1, hK.2, hr1⟩, hB⟩, hF⟩
set_option maxHeartbeats 4000000 in
set_option maxRecDepth 100000 in
theorem q_judge (l : Launch) (D : va_G) (h : Nat) (ad : Nat → Nat) (ca : Nat → ClassId) (I : Nat → Int) (F : Nat → Int → Int) (sz : Nat) (x0 : Int32) (x1 : Int32) (x2 : Int32) (hr : rngS I F) (hM : MInv I F) : Met l yX12_judge (Cond.code yX12_judge cX12_judge 4 (some .int) :: gG) { frames := 712, cells := 0, slots := 0, locals := 15361 } (cPre D (tM ca) (wM h ad ca I F) sz [.ref h, .int x0, .int x1, .int x2]) (va_Qi (fun (r : Int32) (u : (Nat → Int) × (Nat → Int → Int)) => (u.1 7 = I 7) ∧ MInv u.1 u.2 ∧ rngS u.1 u.2) (fun u t => cB D (va_A (wM h ad ca I F) sz) [] (wM h ad ca u.1 u.2) t) (va_A (wM h ad ca I F) sz)) 0 0 (va_A (wM h ad ca I F) sz) := by
  obtain ⟨hS, hR, hI, h0, h8, v0, v1⟩ := hM
  have m := mt_judge D h ad ca I F hr x0.toInt x1.toInt x2.toInt (rng_toInt x0) (rng_toInt x1) (rng_toInt x2) (fun (r : Int) (c0 : (Int → Int)) (c1 : Int) (c2 : (Int → Int)) (c3 : (Int → Int)) (c4 : Int) (c5 : Int) (c6 : Int) (c7 : Int) (c8 : (Int → Int)) (c9 : (Int → Int)) (c10 : (Int → Int)) (c11 : Int) (c12 : Int) (c13 : Int) (c14 : Int) => ((sI (sI (sI (sI (sI (sI (sI (sI (sI I 4 c1) 30 c4) 31 c5) 32 c6) 33 c7) 37 c11) 38 c12) 39 c13) 40 c14) 7 = I 7) ∧ MInv (sI (sI (sI (sI (sI (sI (sI (sI (sI I 4 c1) 30 c4) 31 c5) 32 c6) 33 c7) 37 c11) 38 c12) 39 c13) 40 c14) (sF (sF (sF (sF (sF (sF F 2 c0) 28 c2) 29 c3) 34 c8) 35 c9) 36 c10)) (judge_ok hS (fun _ _ _ _ _ _ _ _ _ _ _ _ _ _ _ _ => ⟨rfl, hS, hR, hI, h0, h8, v0, v1⟩)) l sz
  rw [← zI_back x0, ← zI_back x1, ← zI_back x2] at m
  refine m.mono (fun _ _ h => h) (fun a st o t _ hq => ?_) (fun _ h => h)
  obtain ⟨⟨r, u, ho, ⟨⟨x, hx, gx, hK⟩, hr1⟩, hB⟩, hF⟩ := hq
  exact ⟨⟨r, ((sI (sI (sI (sI (sI (sI (sI (sI (sI I 4 u.2.1) 30 u.2.2.2.2.1) 31 u.2.2.2.2.2.1) 32 u.2.2.2.2.2.2.1) 33 u.2.2.2.2.2.2.2.1) 37 u.2.2.2.2.2.2.2.2.2.2.2.1) 38 u.2.2.2.2.2.2.2.2.2.2.2.2.1) 39 u.2.2.2.2.2.2.2.2.2.2.2.2.2.1) 40 u.2.2.2.2.2.2.2.2.2.2.2.2.2.2), (sF (sF (sF (sF (sF (sF F 2 u.1) 28 u.2.2.1) 29 u.2.2.2.1) 34 u.2.2.2.2.2.2.2.2.1) 35 u.2.2.2.2.2.2.2.2.2.1) 36 u.2.2.2.2.2.2.2.2.2.2.1)), ho, ⟨hK.1, hK.2, hr1⟩, hB⟩, hF⟩
set_option maxHeartbeats 4000000 in
set_option maxRecDepth 100000 in
theorem q_ruleOf (l : Launch) (D : va_G) (h : Nat) (ad : Nat → Nat) (ca : Nat → ClassId) (I : Nat → Int) (F : Nat → Int → Int) (sz : Nat) (x0 : Int32) (x1 : Int32) (hr : rngS I F) (hM : MInv I F) : Met l yX12_ruleOf (Cond.code yX12_ruleOf cX12_ruleOf 8 (some .int) :: gG) { frames := 105, cells := 0, slots := 0, locals := 2575 } (cPre D (tM ca) (wM h ad ca I F) sz [.ref h, .int x0, .int x1]) (va_Qi (fun (r : Int32) (u : (Nat → Int) × (Nat → Int → Int)) => (u.1 7 = I 7) ∧ MInv u.1 u.2 ∧ rngS u.1 u.2) (fun u t => cB D (va_A (wM h ad ca I F) sz) [] (wM h ad ca u.1 u.2) t) (va_A (wM h ad ca I F) sz)) 0 0 (va_A (wM h ad ca I F) sz) := by
  obtain ⟨hS, hR, hI, h0, h8, v0, v1⟩ := hM
  have m := mt_ruleOf D h ad ca I F hr x0.toInt x1.toInt (rng_toInt x0) (rng_toInt x1) (fun (r : Int) (c0 : Int) (c1 : (Int → Int)) (c2 : (Int → Int)) (c3 : Int) (c4 : (Int → Int)) => ((sI (sI I 33 c0) 43 c3) 7 = I 7) ∧ MInv (sI (sI I 33 c0) 43 c3) (sF (sF (sF F 41 c1) 42 c2) 44 c4)) (ruleOf_ok hR (fun _ _ _ _ _ _ => ⟨rfl, hS, hR, hI, h0, h8, v0, v1⟩)) l sz
  rw [← zI_back x0, ← zI_back x1] at m
  refine m.mono (fun _ _ h => h) (fun a st o t _ hq => ?_) (fun _ h => h)
  obtain ⟨⟨r, u, ho, ⟨⟨x, hx, gx, hK⟩, hr1⟩, hB⟩, hF⟩ := hq
  exact ⟨⟨r, ((sI (sI I 33 u.1) 43 u.2.2.2.1), (sF (sF (sF F 41 u.2.1) 42 u.2.2.1) 44 u.2.2.2.2)), ho, ⟨hK.1, hK.2, hr1⟩, hB⟩, hF⟩
set_option maxHeartbeats 4000000 in
set_option maxRecDepth 100000 in
theorem q_places (l : Launch) (D : va_G) (h : Nat) (ad : Nat → Nat) (ca : Nat → ClassId) (I : Nat → Int) (F : Nat → Int → Int) (sz : Nat) (x0 : Int32) (x1 : Int32) (hr : rngS I F) (hM : MInv I F) : Met l yX12_places (Cond.code yX12_places cX12_places 5 (some .int) :: gG) { frames := 608, cells := 0, slots := 0, locals := 13159 } (cPre D (tM ca) (wM h ad ca I F) sz [.ref h, .int x0, .int x1]) (va_Qi (fun (r : Int32) (u : (Nat → Int) × (Nat → Int → Int)) => (u.1 7 = I 7) ∧ MInv u.1 u.2 ∧ rngS u.1 u.2) (fun u t => cB D (va_A (wM h ad ca I F) sz) [] (wM h ad ca u.1 u.2) t) (va_A (wM h ad ca I F) sz)) 0 0 (va_A (wM h ad ca I F) sz) := by
  obtain ⟨hS, hR, hI, h0, h8, v0, v1⟩ := hM
  have m := mt_places D h ad ca I F hr x0.toInt x1.toInt (rng_toInt x0) (rng_toInt x1) (fun (r : Int) (c0 : (Int → Int)) (c1 : Int) (c2 : (Int → Int)) (c3 : Int) => ((sI (sI I 4 c1) 46 c3) 7 = I 7) ∧ MInv (sI (sI I 4 c1) 46 c3) (sF (sF F 2 c0) 45 c2)) (places_ok hR hS (fun _ _ _ _ _ => ⟨rfl, hS, hR, hI, h0, h8, v0, v1⟩)) l sz
  rw [← zI_back x0, ← zI_back x1] at m
  refine m.mono (fun _ _ h => h) (fun a st o t _ hq => ?_) (fun _ h => h)
  obtain ⟨⟨r, u, ho, ⟨⟨x, hx, gx, hK⟩, hr1⟩, hB⟩, hF⟩ := hq
  exact ⟨⟨r, ((sI (sI I 4 u.2.1) 46 u.2.2.2), (sF (sF F 2 u.1) 45 u.2.2.1)), ho, ⟨hK.1, hK.2, hr1⟩, hB⟩, hF⟩
set_option maxHeartbeats 4000000 in
set_option maxRecDepth 100000 in
theorem q_apply (l : Launch) (D : va_G) (h : Nat) (ad : Nat → Nat) (ca : Nat → ClassId) (I : Nat → Int) (F : Nat → Int → Int) (sz : Nat) (x0 : Int32) (x1 : Int32) (x2 : Int32) (x3 : Int32) (hr : rngS I F) (hM : MInv I F) : Met l yX12_apply (Cond.code yX12_apply cX12_apply 6 (some .boolean) :: gG) { frames := 609, cells := 0, slots := 0, locals := 13184 } (cPre D (tM ca) (wM h ad ca I F) sz [.ref h, .int x0, .int x1, .int x2, .int x3]) (va_Qi (fun (r : Int32) (u : (Nat → Int) × (Nat → Int → Int)) => (u.1 7 = I 7) ∧ MInv u.1 u.2 ∧ rngS u.1 u.2) (fun u t => cB D (va_A (wM h ad ca I F) sz) [] (wM h ad ca u.1 u.2) t) (va_A (wM h ad ca I F) sz)) 0 0 (va_A (wM h ad ca I F) sz) := by
  obtain ⟨hS, hR, hI, h0, h8, v0, v1⟩ := hM
  have m := mt_apply D h ad ca I F hr x0.toInt x1.toInt x2.toInt x3.toInt (rng_toInt x0) (rng_toInt x1) (rng_toInt x2) (rng_toInt x3) (fun (r : Int) (c0 : (Int → Int)) (c1 : (Int → Int)) (c2 : (Int → Int)) (c3 : (Int → Int)) (c4 : Int) (c5 : Int) (c6 : (Int → Int)) (c7 : Int) => ((sI (sI (sI I 4 c4) 5 c5) 46 c7) 7 = I 7) ∧ MInv (sI (sI (sI I 4 c4) 5 c5) 46 c7) (sF (sF (sF (sF (sF F 0 c0) 1 c1) 2 c2) 3 c3) 45 c6)) (apply_ok hR hS (fun _ _ _ _ _ _ _ _ _ s => ⟨rfl, s, hR, hI, h0, h8, v0, v1⟩)) l sz
  rw [← zI_back x0, ← zI_back x1, ← zI_back x2, ← zI_back x3] at m
  refine m.mono (fun _ _ h => h) (fun a st o t _ hq => ?_) (fun _ h => h)
  obtain ⟨⟨r, u, ho, ⟨⟨x, hx, gx, hK⟩, hr1⟩, hB⟩, hF⟩ := hq
  exact ⟨⟨r, ((sI (sI (sI I 4 u.2.2.2.2.1) 5 u.2.2.2.2.2.1) 46 u.2.2.2.2.2.2.2), (sF (sF (sF (sF (sF F 0 u.1) 1 u.2.1) 2 u.2.2.1) 3 u.2.2.2.1) 45 u.2.2.2.2.2.2.1)), ho, ⟨hK.1, hK.2, hr1⟩, hB⟩, hF⟩
set_option maxHeartbeats 4000000 in
set_option maxRecDepth 100000 in
theorem q_item (l : Launch) (D : va_G) (h : Nat) (ad : Nat → Nat) (ca : Nat → ClassId) (I : Nat → Int) (F : Nat → Int → Int) (sz : Nat) (x0 : Int32) (x1 : Int32) (hr : rngS I F) (hM : MInv I F) : Met l yX12_item (Cond.code yX12_item cX12_item 3 (some .int) :: gG) { frames := 3, cells := 0, slots := 0, locals := 106 } (cPre D (tM ca) (wM h ad ca I F) sz [.ref h, .int x0, .int x1]) (va_Qi (fun (r : Int32) (u : (Nat → Int) × (Nat → Int → Int)) => (u.1 7 = I 7) ∧ MInv u.1 u.2 ∧ rngS u.1 u.2) (fun u t => cB D (va_A (wM h ad ca I F) sz) [] (wM h ad ca u.1 u.2) t) (va_A (wM h ad ca I F) sz)) 0 0 (va_A (wM h ad ca I F) sz) := by
  obtain ⟨hS, hR, hI, h0, h8, v0, v1⟩ := hM
  have m := mt_item D h ad ca I F hr x0.toInt x1.toInt (rng_toInt x0) (rng_toInt x1) (fun (r : Int) (c0 : (Int → Int)) (c1 : (Int → Int)) => (I 7 = I 7) ∧ MInv I (sF (sF F 49 c0) 50 c1)) (item_ok hR hI (fun _ _ _ h => ⟨rfl, hS, hR, h, h0, h8, v0, v1⟩)) l sz
  rw [← zI_back x0, ← zI_back x1] at m
  refine m.mono (fun _ _ h => h) (fun a st o t _ hq => ?_) (fun _ h => h)
  obtain ⟨⟨r, u, ho, ⟨⟨x, hx, gx, hK⟩, hr1⟩, hB⟩, hF⟩ := hq
  exact ⟨⟨r, (I, (sF (sF F 49 u.1) 50 u.2)), ho, ⟨hK.1, hK.2, hr1⟩, hB⟩, hF⟩
set_option maxHeartbeats 4000000 in
set_option maxRecDepth 100000 in
theorem q_clear (l : Launch) (D : va_G) (h : Nat) (ad : Nat → Nat) (ca : Nat → ClassId) (I : Nat → Int) (F : Nat → Int → Int) (sz : Nat) (x0 : Int32) (hr : rngS I F) (hM : MInv I F) : Met l yX12_clear (Cond.code yX12_clear cX12_clear 2 (some .boolean) :: gG) { frames := 3, cells := 0, slots := 0, locals := 106 } (cPre D (tM ca) (wM h ad ca I F) sz [.ref h, .int x0]) (va_Qi (fun (r : Int32) (u : (Nat → Int) × (Nat → Int → Int)) => (r = zI (if 0 ≤ x0.toInt ∧ x0.toInt ≤ 5 then 1 else 0) ∧ u.1 7 = I 7) ∧ MInv u.1 u.2 ∧ rngS u.1 u.2) (fun u t => cB D (va_A (wM h ad ca I F) sz) [] (wM h ad ca u.1 u.2) t) (va_A (wM h ad ca I F) sz)) 0 0 (va_A (wM h ad ca I F) sz) := by
  obtain ⟨hS, hR, hI, h0, h8, v0, v1⟩ := hM
  have m := mt_clear D h ad ca I F hr x0.toInt (rng_toInt x0) (fun (r : Int) (c0 : (Int → Int)) => (r = (if 0 ≤ x0.toInt ∧ x0.toInt ≤ 5 then 1 else 0) ∧ I 7 = I 7) ∧ MInv I (sF F 50 c0)) (clear_ok hI (fun _ h => ⟨⟨rfl, rfl⟩, hS, hR, h, h0, h8, v0, v1⟩)) l sz
  rw [← zI_back x0] at m
  refine m.mono (fun _ _ h => h) (fun a st o t _ hq => ?_) (fun _ h => h)
  obtain ⟨⟨r, u, ho, ⟨⟨x, hx, gx, hK⟩, hr1⟩, hB⟩, hF⟩ := hq
  exact ⟨⟨r, (I, (sF F 50 u)), ho, ⟨⟨hx.trans (congrArg zI hK.1.1), hK.1.2⟩, hK.2, hr1⟩, hB⟩, hF⟩
set_option maxHeartbeats 4000000 in
set_option maxRecDepth 100000 in
theorem q_make (l : Launch) (D : va_G) (h : Nat) (ad : Nat → Nat) (ca : Nat → ClassId) (I : Nat → Int) (F : Nat → Int → Int) (sz : Nat) (x0 : Int32) (x1 : Int32) (x2 : Int32) (hr : rngS I F) (hM : MInv I F) : Met l yX12_make (Cond.code yX12_make cX12_make 4 (some .int) :: gG) { frames := 1109, cells := 0, slots := 0, locals := 25696 } (cPre D (tM ca) (wM h ad ca I F) sz [.ref h, .int x0, .int x1, .int x2]) (va_Qi (fun (r : Int32) (u : (Nat → Int) × (Nat → Int → Int)) => (u.1 7 = I 7) ∧ MInv u.1 u.2 ∧ rngS u.1 u.2) (fun u t => cB D (va_A (wM h ad ca I F) sz) [] (wM h ad ca u.1 u.2) t) (va_A (wM h ad ca I F) sz)) 0 0 (va_A (wM h ad ca I F) sz) := by
  obtain ⟨hS, hR, hI, h0, h8, v0, v1⟩ := hM
  have m := mt_make D h ad ca I F hr x0.toInt x1.toInt x2.toInt (rng_toInt x0) (rng_toInt x1) (rng_toInt x2) (fun (r : Int) (c0 : (Int → Int)) (c1 : (Int → Int)) (c2 : (Int → Int)) (c3 : (Int → Int)) (c4 : Int) (c5 : Int) (c6 : (Int → Int)) (c7 : Int) (c8 : (Int → Int)) (c9 : Int) => ((sI (sI (sI (sI I 4 c4) 5 c5) 46 c7) 48 c9) 7 = I 7) ∧ MInv (sI (sI (sI (sI I 4 c4) 5 c5) 46 c7) 48 c9) (sF (sF (sF (sF (sF (sF F 0 c0) 1 c1) 2 c2) 3 c3) 45 c6) 47 c8)) (make_ok hR hI hS (fun _ _ _ _ _ _ _ _ _ _ _ s => ⟨rfl, s, hR, hI, h0, h8, v0, v1⟩)) l sz
  rw [← zI_back x0, ← zI_back x1, ← zI_back x2] at m
  refine m.mono (fun _ _ h => h) (fun a st o t _ hq => ?_) (fun _ h => h)
  obtain ⟨⟨r, u, ho, ⟨⟨x, hx, gx, hK⟩, hr1⟩, hB⟩, hF⟩ := hq
  exact ⟨⟨r, ((sI (sI (sI (sI I 4 u.2.2.2.2.1) 5 u.2.2.2.2.2.1) 46 u.2.2.2.2.2.2.2.1) 48 u.2.2.2.2.2.2.2.2.2), (sF (sF (sF (sF (sF (sF F 0 u.1) 1 u.2.1) 2 u.2.2.1) 3 u.2.2.2.1) 45 u.2.2.2.2.2.2.1) 47 u.2.2.2.2.2.2.2.2.1)), ho, ⟨hK.1, hK.2, hr1⟩, hB⟩, hF⟩
set_option maxHeartbeats 4000000 in
set_option maxRecDepth 100000 in
theorem q_blame (l : Launch) (D : va_G) (h : Nat) (ad : Nat → Nat) (ca : Nat → ClassId) (I : Nat → Int) (F : Nat → Int → Int) (sz : Nat) (x0 : Int32) (x1 : Int32) (hr : rngS I F) (hM : MInv I F) : Met l yX12_blame (Cond.code yX12_blame cX12_blame 4 (some .int) :: gG) { frames := 1109, cells := 0, slots := 0, locals := 25696 } (cPre D (tM ca) (wM h ad ca I F) sz [.ref h, .int x0, .int x1]) (va_Qi (fun (r : Int32) (u : (Nat → Int) × (Nat → Int → Int)) => (u.1 7 = I 7) ∧ MInv u.1 u.2 ∧ rngS u.1 u.2) (fun u t => cB D (va_A (wM h ad ca I F) sz) [] (wM h ad ca u.1 u.2) t) (va_A (wM h ad ca I F) sz)) 0 0 (va_A (wM h ad ca I F) sz) := by
  obtain ⟨hS, hR, hI, h0, h8, v0, v1⟩ := hM
  have m := mt_blame D h ad ca I F hr x0.toInt x1.toInt (rng_toInt x0) (rng_toInt x1) (fun (r : Int) (c0 : (Int → Int)) (c1 : (Int → Int)) (c2 : Int) (c3 : Int) (c4 : (Int → Int)) (c5 : (Int → Int)) (c6 : Int) (c7 : Int) (c8 : Int) (c9 : Int) (c10 : (Int → Int)) (c11 : (Int → Int)) (c12 : (Int → Int)) (c13 : Int) (c14 : Int) (c15 : Int) (c16 : Int) (c17 : (Int → Int)) (c18 : Int) (c19 : (Int → Int)) (c20 : Int) => ((sI (sI (sI (sI (sI (sI (sI (sI (sI (sI (sI (sI I 4 c2) 5 c3) 30 c6) 31 c7) 32 c8) 33 c9) 37 c13) 38 c14) 39 c15) 40 c16) 46 c18) 48 c20) 7 = I 7) ∧ MInv (sI (sI (sI (sI (sI (sI (sI (sI (sI (sI (sI (sI I 4 c2) 5 c3) 30 c6) 31 c7) 32 c8) 33 c9) 37 c13) 38 c14) 39 c15) 40 c16) 46 c18) 48 c20) (sF (sF (sF (sF (sF (sF (sF (sF (sF F 2 c0) 3 c1) 28 c4) 29 c5) 34 c10) 35 c11) 36 c12) 45 c17) 47 c19)) (blame_ok hR hI hS (fun _ _ _ _ _ _ _ _ _ _ _ _ _ _ _ _ _ _ _ _ _ _ => ⟨rfl, hS, hR, hI, h0, h8, v0, v1⟩)) l sz
  rw [← zI_back x0, ← zI_back x1] at m
  refine m.mono (fun _ _ h => h) (fun a st o t _ hq => ?_) (fun _ h => h)
  obtain ⟨⟨r, u, ho, ⟨⟨x, hx, gx, hK⟩, hr1⟩, hB⟩, hF⟩ := hq
  exact ⟨⟨r, ((sI (sI (sI (sI (sI (sI (sI (sI (sI (sI (sI (sI I 4 u.2.2.1) 5 u.2.2.2.1) 30 u.2.2.2.2.2.2.1) 31 u.2.2.2.2.2.2.2.1) 32 u.2.2.2.2.2.2.2.2.1) 33 u.2.2.2.2.2.2.2.2.2.1) 37 u.2.2.2.2.2.2.2.2.2.2.2.2.2.1) 38 u.2.2.2.2.2.2.2.2.2.2.2.2.2.2.1) 39 u.2.2.2.2.2.2.2.2.2.2.2.2.2.2.2.1) 40 u.2.2.2.2.2.2.2.2.2.2.2.2.2.2.2.2.1) 46 u.2.2.2.2.2.2.2.2.2.2.2.2.2.2.2.2.2.2.1) 48 u.2.2.2.2.2.2.2.2.2.2.2.2.2.2.2.2.2.2.2.2), (sF (sF (sF (sF (sF (sF (sF (sF (sF F 2 u.1) 3 u.2.1) 28 u.2.2.2.2.1) 29 u.2.2.2.2.2.1) 34 u.2.2.2.2.2.2.2.2.2.2.1) 35 u.2.2.2.2.2.2.2.2.2.2.2.1) 36 u.2.2.2.2.2.2.2.2.2.2.2.2.1) 45 u.2.2.2.2.2.2.2.2.2.2.2.2.2.2.2.2.2.1) 47 u.2.2.2.2.2.2.2.2.2.2.2.2.2.2.2.2.2.2.2.1)), ho, ⟨hK.1, hK.2, hr1⟩, hB⟩, hF⟩
set_option maxHeartbeats 4000000 in
set_option maxRecDepth 100000 in
theorem q_cut (l : Launch) (D : va_G) (h : Nat) (ad : Nat → Nat) (ca : Nat → ClassId) (I : Nat → Int) (F : Nat → Int → Int) (sz : Nat) (x0 : Int32) (x1 : Int32) (x2 : Int32) (hr : rngS I F) (hM : MInv I F) : Met l yX12_cut (Cond.code yX12_cut cX12_cut 5 (some .int) :: gG) { frames := 1111, cells := 0, slots := 0, locals := 25741 } (cPre D (tM ca) (wM h ad ca I F) sz [.ref h, .int x0, .int x1, .int x2]) (va_Qi (fun (r : Int32) (u : (Nat → Int) × (Nat → Int → Int)) => (u.1 7 = I 7) ∧ MInv u.1 u.2 ∧ rngS u.1 u.2) (fun u t => cB D (va_A (wM h ad ca I F) sz) [] (wM h ad ca u.1 u.2) t) (va_A (wM h ad ca I F) sz)) 0 0 (va_A (wM h ad ca I F) sz) := by
  obtain ⟨hS, hR, hI, h0, h8, v0, v1⟩ := hM
  have m := mt_cut D h ad ca I F hr x0.toInt x1.toInt x2.toInt (rng_toInt x0) (rng_toInt x1) (rng_toInt x2) (fun (r : Int) (c0 : (Int → Int)) (c1 : (Int → Int)) (c2 : (Int → Int)) (c3 : (Int → Int)) (c4 : Int) (c5 : Int) (c6 : (Int → Int)) (c7 : (Int → Int)) (c8 : Int) (c9 : Int) (c10 : Int) (c11 : Int) (c12 : (Int → Int)) (c13 : (Int → Int)) (c14 : (Int → Int)) (c15 : Int) (c16 : Int) (c17 : Int) (c18 : Int) (c19 : (Int → Int)) (c20 : Int) (c21 : (Int → Int)) (c22 : Int) (c23 : (Int → Int)) (c24 : Int) (c25 : (Int → Int)) => ((sI (sI (sI (sI (sI (sI (sI (sI (sI (sI (sI (sI (sI I 4 c4) 5 c5) 30 c8) 31 c9) 32 c10) 33 c11) 37 c15) 38 c16) 39 c17) 40 c18) 46 c20) 48 c22) 52 c24) 7 = I 7) ∧ MInv (sI (sI (sI (sI (sI (sI (sI (sI (sI (sI (sI (sI (sI I 4 c4) 5 c5) 30 c8) 31 c9) 32 c10) 33 c11) 37 c15) 38 c16) 39 c17) 40 c18) 46 c20) 48 c22) 52 c24) (sF (sF (sF (sF (sF (sF (sF (sF (sF (sF (sF (sF (sF F 0 c0) 1 c1) 2 c2) 3 c3) 28 c6) 29 c7) 34 c12) 35 c13) 36 c14) 45 c19) 47 c21) 51 c23) 53 c25)) (cut_ok hR hI hS (fun _ _ _ _ _ _ _ _ _ _ _ _ _ _ _ _ _ _ _ _ _ _ _ _ _ _ _ s => ⟨rfl, s, hR, hI, h0, h8, v0, v1⟩)) l sz
  rw [← zI_back x0, ← zI_back x1, ← zI_back x2] at m
  refine m.mono (fun _ _ h => h) (fun a st o t _ hq => ?_) (fun _ h => h)
  obtain ⟨⟨r, u, ho, ⟨⟨x, hx, gx, hK⟩, hr1⟩, hB⟩, hF⟩ := hq
  exact ⟨⟨r, ((sI (sI (sI (sI (sI (sI (sI (sI (sI (sI (sI (sI (sI I 4 u.2.2.2.2.1) 5 u.2.2.2.2.2.1) 30 u.2.2.2.2.2.2.2.2.1) 31 u.2.2.2.2.2.2.2.2.2.1) 32 u.2.2.2.2.2.2.2.2.2.2.1) 33 u.2.2.2.2.2.2.2.2.2.2.2.1) 37 u.2.2.2.2.2.2.2.2.2.2.2.2.2.2.2.1) 38 u.2.2.2.2.2.2.2.2.2.2.2.2.2.2.2.2.1) 39 u.2.2.2.2.2.2.2.2.2.2.2.2.2.2.2.2.2.1) 40 u.2.2.2.2.2.2.2.2.2.2.2.2.2.2.2.2.2.2.1) 46 u.2.2.2.2.2.2.2.2.2.2.2.2.2.2.2.2.2.2.2.2.1) 48 u.2.2.2.2.2.2.2.2.2.2.2.2.2.2.2.2.2.2.2.2.2.2.1) 52 u.2.2.2.2.2.2.2.2.2.2.2.2.2.2.2.2.2.2.2.2.2.2.2.2.1), (sF (sF (sF (sF (sF (sF (sF (sF (sF (sF (sF (sF (sF F 0 u.1) 1 u.2.1) 2 u.2.2.1) 3 u.2.2.2.1) 28 u.2.2.2.2.2.2.1) 29 u.2.2.2.2.2.2.2.1) 34 u.2.2.2.2.2.2.2.2.2.2.2.2.1) 35 u.2.2.2.2.2.2.2.2.2.2.2.2.2.1) 36 u.2.2.2.2.2.2.2.2.2.2.2.2.2.2.1) 45 u.2.2.2.2.2.2.2.2.2.2.2.2.2.2.2.2.2.2.2.1) 47 u.2.2.2.2.2.2.2.2.2.2.2.2.2.2.2.2.2.2.2.2.2.1) 51 u.2.2.2.2.2.2.2.2.2.2.2.2.2.2.2.2.2.2.2.2.2.2.2.1) 53 u.2.2.2.2.2.2.2.2.2.2.2.2.2.2.2.2.2.2.2.2.2.2.2.2.2)), ho, ⟨hK.1, hK.2, hr1⟩, hB⟩, hF⟩
set_option maxHeartbeats 4000000 in
set_option maxRecDepth 100000 in
theorem q_registers (l : Launch) (D : va_G) (h : Nat) (ad : Nat → Nat) (ca : Nat → ClassId) (I : Nat → Int) (F : Nat → Int → Int) (sz : Nat) (x0 : Int32) (x1 : Int32) (hr : rngS I F) (hM : MInv I F) : Met l yX12_registers (Cond.code yX12_registers cX12_registers 5 (some .int) :: gG) { frames := 813, cells := 0, slots := 0, locals := 18306 } (cPre D (tM ca) (wM h ad ca I F) sz [.ref h, .int x0, .int x1]) (va_Qi (fun (r : Int32) (u : (Nat → Int) × (Nat → Int → Int)) => (u.1 7 = I 7) ∧ MInv u.1 u.2 ∧ rngS u.1 u.2) (fun u t => cB D (va_A (wM h ad ca I F) sz) [] (wM h ad ca u.1 u.2) t) (va_A (wM h ad ca I F) sz)) 0 0 (va_A (wM h ad ca I F) sz) := by
  obtain ⟨hS, hR, hI, h0, h8, v0, v1⟩ := hM
  have m := mt_registers D h ad ca I F hr x0.toInt x1.toInt (rng_toInt x0) (rng_toInt x1) (fun (r : Int) (c0 : (Int → Int)) (c1 : Int) (c2 : (Int → Int)) (c3 : (Int → Int)) => ((sI I 4 c1) 7 = I 7) ∧ MInv (sI I 4 c1) (sF (sF (sF F 2 c0) 54 c2) 55 c3)) (registers_ok hS (fun _ _ _ _ _ => ⟨rfl, hS, hR, hI, h0, h8, v0, v1⟩)) l sz
  rw [← zI_back x0, ← zI_back x1] at m
  refine m.mono (fun _ _ h => h) (fun a st o t _ hq => ?_) (fun _ h => h)
  obtain ⟨⟨r, u, ho, ⟨⟨x, hx, gx, hK⟩, hr1⟩, hB⟩, hF⟩ := hq
  exact ⟨⟨r, ((sI I 4 u.2.1), (sF (sF (sF F 2 u.1) 54 u.2.2.1) 55 u.2.2.2)), ho, ⟨hK.1, hK.2, hr1⟩, hB⟩, hF⟩
set_option maxHeartbeats 4000000 in
set_option maxRecDepth 100000 in
theorem q_clash (l : Launch) (D : va_G) (h : Nat) (ad : Nat → Nat) (ca : Nat → ClassId) (I : Nat → Int) (F : Nat → Int → Int) (sz : Nat) (x0 : Int32) (x1 : Int32) (x2 : Int32) (hr : rngS I F) (hM : MInv I F) : Met l yX12_clash (Cond.code yX12_clash cX12_clash 4 (some .int) :: gG) { frames := 813, cells := 0, slots := 0, locals := 18306 } (cPre D (tM ca) (wM h ad ca I F) sz [.ref h, .int x0, .int x1, .int x2]) (va_Qi (fun (r : Int32) (u : (Nat → Int) × (Nat → Int → Int)) => (u.1 7 = I 7) ∧ MInv u.1 u.2 ∧ rngS u.1 u.2) (fun u t => cB D (va_A (wM h ad ca I F) sz) [] (wM h ad ca u.1 u.2) t) (va_A (wM h ad ca I F) sz)) 0 0 (va_A (wM h ad ca I F) sz) := by
  obtain ⟨hS, hR, hI, h0, h8, v0, v1⟩ := hM
  have m := mt_clash D h ad ca I F hr x0.toInt x1.toInt x2.toInt (rng_toInt x0) (rng_toInt x1) (rng_toInt x2) (fun (r : Int) (c0 : (Int → Int)) (c1 : Int) (c2 : (Int → Int)) => ((sI I 4 c1) 7 = I 7) ∧ MInv (sI I 4 c1) (sF (sF F 2 c0) 54 c2)) (clash_ok hS (fun _ _ _ _ => ⟨rfl, hS, hR, hI, h0, h8, v0, v1⟩)) l sz
  rw [← zI_back x0, ← zI_back x1, ← zI_back x2] at m
  refine m.mono (fun _ _ h => h) (fun a st o t _ hq => ?_) (fun _ h => h)
  obtain ⟨⟨r, u, ho, ⟨⟨x, hx, gx, hK⟩, hr1⟩, hB⟩, hF⟩ := hq
  exact ⟨⟨r, ((sI I 4 u.2.1), (sF (sF F 2 u.1) 54 u.2.2)), ho, ⟨hK.1, hK.2, hr1⟩, hB⟩, hF⟩
