section BB
variable {ad : Nat → Nat} {ca : Nat → ClassId} {rf : RFt} {σ u : Sg} {cel : Nat → Cl} {I I1 : Nat → Int} {F F1 : Nat → Int → Int} {T : Value → Prop}
def Rq (σ : Sg) (I : Nat → Int) (F : Nat → Int → Int) : Prop := F 6 = σ.2.1 4 ∧ I 7 = σ.1 3 1 ∧ I 14 = σ.1 2 1 ∧ I 20 = σ.1 2 2 ∧ I 23 = σ.1 0 1 ∧ F 50 = σ.2.1 69
def Bts (σ : Sg) : Prop := ∀ j, 0 ≤ j → j < 800 → 0 ≤ σ.2.1 4 j ∧ σ.2.1 4 j ≤ 255
/-- class and reference alike, in what the reading methods show -/
def RelB (ad : Nat → Nat) (ca : Nat → ClassId) (cel : Nat → Cl) (I : Nat → Int) (F : Nat → Int → Int) : Prop := ∃ (rf : RFt) (σ : Sg), InvK ad ca (pTp tTT) (cK ad ca rf σ) cel ∧ rngK σ ∧ Rq σ I F ∧ Bts σ
theorem Rq_kp (h : Rq σ I F) (k : Kp I F I1 F1) : Rq σ I1 F1 := by
  obtain ⟨a1, a2, a3, a4, a5, a6⟩ := h
  obtain ⟨b1, b2, b3, b4, b5, b6⟩ := k
  exact ⟨b5.trans a1, b1.trans a2, b2.trans a3, b3.trans a4, b4.trans a5, b6.trans a6⟩
theorem RelB.opn (h : RelB ad ca cel I F) : ∃ (rf : RFt) (σ : Sg), wN NC cel = wK ad ca rf σ ∧ InvC ad ca (pTp tTT) (cK ad ca rf σ) ∧ rngK σ ∧ RFok ad rf ∧ OkX σ ∧ Rq σ I F ∧ Bts σ := by
  obtain ⟨rf, σ, hI, g, hr, hb⟩ := h
  have e := sgO_cel hI.1 hI.2
  have hI' := InvC_cg hI.1 e
  have g' : rngK (sgO σ cel) := sgO_rng g
  exact ⟨rfX cel, sgO σ cel, wN_cg e, hI', g', rfX_ok hI.1, ok_of hI' g', ⟨hr.1, hr.2.1, hr.2.2.1, hr.2.2.2.1, hr.2.2.2.2.1, hr.2.2.2.2.2⟩, hb⟩
theorem RelB.cls (hI : InvC ad ca (pTp T) (cK ad ca rf σ)) (g : rngK u) (fr : FrX σ u) (ok : OkX u) (hr : Rq u I F) (hb : Bts u) : RelB ad ca (cK ad ca rf u) I F := ⟨rf, u, ⟨inv_of hI g fr ok, fun _ _ => rfl⟩, g, hr, hb⟩
theorem kp_ne {k : Nat} (h : kpB k = false) : k ≠ 0 ∧ k ≠ 2 ∧ k ≠ 3 ∧ k ≠ 4 ∧ k ≠ 5 ∧ k ≠ 6 ∧ k ≠ 7 ∧ k ≠ 69 := by
  refine ⟨?_, ?_, ?_, ?_, ?_, ?_, ?_, ?_⟩ <;> (intro e; rw [e] at h; cases h)
theorem FrX.of (h1 : ∀ a b, a ≠ 0 → a ≠ 2 → a ≠ 3 → u.1 a b = σ.1 a b) (h2 : ∀ a, a ≠ 4 → a ≠ 5 → a ≠ 6 → a ≠ 7 → a ≠ 69 → u.2.1 a = σ.2.1 a) (h3 : u.2.2.2 2 = σ.2.2.2 2) (h4 : u.2.2.2 3 = σ.2.2.2 3) : FrX σ u := by
  refine ⟨fun k _ hk => ?_, h3, h4⟩
  obtain ⟨k0, k2, k3, k4, k5, k6, k7, k69⟩ := kp_ne hk
  exact ⟨funext fun b => h1 k b k0 k2 k3, h2 k k4 k5 k6 k7 k69⟩
theorem met_cls {l : Launch} {y : MethodName} {ws : List Cond} {rm : Room} {Pc : Array Value → State → Prop} {D : va_G} {A : Nat → Prop} {r0 : Int} {σ1 : Sg} (hM : Met l y ws rm Pc (va_Qi (fun (r : Int32) (u : Sg) => (∃ x : Int, r = zI x ∧ rng x ∧ (x = r0 ∧ u = σ1)) ∧ rngK u) (fun u t => cB D A [] (wK ad ca rf u) t) A) 0 0 A) :
    Met l y ws rm Pc (va_Qi (fun (r : Int32) (c' : Nat → Cl) => r = zI r0 ∧ (c' = cK ad ca rf σ1 ∧ rngK σ1)) (fun c' t => cB D A [] (wN NC c') t) A) 0 0 A := by
  refine hM.mono (fun _ _ h => h) (fun a st o t _ hq => ?_) (fun _ h => h)
  obtain ⟨⟨r, u, ho, ⟨⟨x, hx, gx, e1, e2⟩, g⟩, hB⟩, hF⟩ := hq
  subst e1
  subst e2
  exact ⟨⟨r, cK ad ca rf u, ho, ⟨hx, rfl, g⟩, hB⟩, hF⟩
set_option maxHeartbeats 4000000 in
set_option maxRecDepth 100000 in
theorem b_feed (hB : RelB ad ca cel I F) (hM : MInv I F) (hR : rngS I F) (y1 y2 y3 y4 y5 : Int32) : ∃ (r0 : Int) (Q : (Nat → Cl) → Prop) (R : (Nat → Int) → (Nat → Int → Int) → Prop), (∀ (l : Launch) (D : va_G) (sz : Nat), Met l yX11_feed (Cond.code yX11_feed cX11_feed 7 (some .int) :: gG) { frames := 2, cells := 0, slots := 0, locals := 86 } (cPre D (tC ca) (wN NC cel) sz [.ref (ad 0), .int y1, .int y2, .int y3, .int y4, .int y5]) (va_Qi (fun (r : Int32) (c' : Nat → Cl) => r = zI r0 ∧ Q c') (fun c' t => cB D (va_A (wN NC cel) sz) [] (wN NC c') t) (va_A (wN NC cel) sz)) 0 0 (va_A (wN NC cel) sz)) ∧ (∀ (l : Launch) (D : va_G) (h : Nat) (adM : Nat → Nat) (caM : Nat → ClassId) (sz : Nat), Met l yX12_feed (Cond.code yX12_feed cX12_feed 8 (some .int) :: gG) { frames := 1, cells := 0, slots := 0, locals := 64 } (cPre D (tM caM) (wM h adM caM I F) sz [.ref h, .int y1, .int y2, .int y3, .int y4, .int y5]) (va_Qi (fun (r : Int32) (u : (Nat → Int) × (Nat → Int → Int)) => (r = zI r0 ∧ R u.1 u.2) ∧ MInv u.1 u.2 ∧ rngS u.1 u.2) (fun u t => cB D (va_A (wM h adM caM I F) sz) [] (wM h adM caM u.1 u.2) t) (va_A (wM h adM caM I F) sz)) 0 0 (va_A (wM h adM caM I F) sz)) ∧ ∀ c' I' F', Q c' → R I' F' → RelB ad ca c' I' F' := by
  obtain ⟨rf, σ, hW, hI, g, hrf, ok, ⟨e1, e2, e3, e4, e5, e6⟩, hb⟩ := hB.opn
  obtain ⟨hS, hRr, hIt, h0, h8, v0, v1⟩ := hM
  obtain ⟨r0, σ1, hc, hm, f1, f2, f3, f4, f5⟩ := feed_both (σ := σ) (x0 := y1.toInt) (x1 := y2.toInt) (x2 := y3.toInt) (x3 := y4.toInt) (x4 := y5.toInt) ok.2.2.2.1.1 ok.2.2.2.1.2
  refine ⟨r0, fun c' => c' = cK ad ca rf σ1 ∧ rngK σ1, fun I' F' => Rq σ1 I' F', ?_, ?_, ?_⟩
  · intro l D sz
    rw [hW]
    have m := mk_S_feed D ad ca rf σ g hrf y1.toInt y2.toInt y3.toInt y4.toInt y5.toInt (rng_toInt y1) (rng_toInt y2) (rng_toInt y3) (rng_toInt y4) (rng_toInt y5) (fun x u => x = r0 ∧ u = σ1) (hc _ ⟨rfl, rfl⟩) l sz
    rw [← zI_back y1, ← zI_back y2, ← zI_back y3, ← zI_back y4, ← zI_back y5] at m
    exact met_cls m
  · intro l D h adM caM sz
    rw [← e1, ← e2] at hm
    have m := mt_feed D h adM caM I F hR y1.toInt y2.toInt y3.toInt y4.toInt y5.toInt (rng_toInt y1) (rng_toInt y2) (rng_toInt y3) (rng_toInt y4) (rng_toInt y5) (fun (r : Int) (c0 : (Int → Int)) (c1 : Int) => r = r0 ∧ Rq σ1 (sI I 7 c1) (sF F 6 c0) ∧ MInv (sI I 7 c1) (sF F 6 c0)) (hm _ ⟨rfl, ⟨rfl, rfl, by show I 14 = _; rw [f1 2 1 (Or.inl (by decide)), e3], by show I 20 = _; rw [f1 2 2 (Or.inl (by decide)), e4], by show I 23 = _; rw [f1 0 1 (Or.inl (by decide)), e5], by show F 50 = _; rw [f2 69 (by decide), e6]⟩, ⟨hS, hRr, hIt, f4.1, f4.2, v0, v1⟩⟩) l sz
    rw [← zI_back y1, ← zI_back y2, ← zI_back y3, ← zI_back y4, ← zI_back y5] at m
    refine m.mono (fun _ _ h => h) (fun a st o t _ hq => ?_) (fun _ h => h)
    obtain ⟨⟨r, u, ho, ⟨⟨x, hx, gx, hx0, hRel, hMI⟩, hr1⟩, hB⟩, hF⟩ := hq
    exact ⟨⟨r, ((sI I 7 u.2), (sF F 6 u.1)), ho, ⟨⟨by rw [hx, hx0], hRel⟩, hMI, hr1⟩, hB⟩, hF⟩
  · rintro c' I' F' ⟨rfl, g1⟩ hq
    exact RelB.cls hI g1 (FrX.of (fun a b _ _ z => f1 a b (Or.inl z)) (fun a z _ _ _ _ => f2 a z) (by rw [f3]) (by rw [f3])) ⟨by unfold RdOk; rw [f1 2 7 (Or.inl (by decide)), f1 2 9 (Or.inl (by decide)), f1 2 13 (Or.inl (by decide))]; exact ok.1, by unfold RowOk; rw [f3]; exact ok.2.1, by rw [f1 0 1 (Or.inl (by decide))]; exact ok.2.2.1, f4, by rw [f2 69 (by decide)]; exact ok.2.2.2.2⟩ hq (f5 hb)
set_option maxHeartbeats 4000000 in
set_option maxRecDepth 100000 in
theorem b_end (hB : RelB ad ca cel I F) (hM : MInv I F) (hR : rngS I F) (y1 : Int32) : ∃ (r0 : Int) (Q : (Nat → Cl) → Prop) (R : (Nat → Int) → (Nat → Int → Int) → Prop), (∀ (l : Launch) (D : va_G) (sz : Nat), Met l yX11_end (Cond.code yX11_end cX11_end 2 (some .boolean) :: gG) { frames := 2, cells := 0, slots := 0, locals := 85 } (cPre D (tC ca) (wN NC cel) sz [.ref (ad 0), .int y1]) (va_Qi (fun (r : Int32) (c' : Nat → Cl) => r = zI r0 ∧ Q c') (fun c' t => cB D (va_A (wN NC cel) sz) [] (wN NC c') t) (va_A (wN NC cel) sz)) 0 0 (va_A (wN NC cel) sz)) ∧ (∀ (l : Launch) (D : va_G) (h : Nat) (adM : Nat → Nat) (caM : Nat → ClassId) (sz : Nat), Met l yX12_end (Cond.code yX12_end cX12_end 2 (some .boolean) :: gG) { frames := 2, cells := 0, slots := 0, locals := 86 } (cPre D (tM caM) (wM h adM caM I F) sz [.ref h, .int y1]) (va_Qi (fun (r : Int32) (u : (Nat → Int) × (Nat → Int → Int)) => (r = zI r0 ∧ R u.1 u.2) ∧ MInv u.1 u.2 ∧ rngS u.1 u.2) (fun u t => cB D (va_A (wM h adM caM I F) sz) [] (wM h adM caM u.1 u.2) t) (va_A (wM h adM caM I F) sz)) 0 0 (va_A (wM h adM caM I F) sz)) ∧ ∀ c' I' F', Q c' → R I' F' → RelB ad ca c' I' F' := by
  obtain ⟨rf, σ, hW, hI, g, hrf, ok, ⟨e1, e2, e3, e4, e5, e6⟩, hb⟩ := hB.opn
  obtain ⟨hS, hRr, hIt, h0, h8, v0, v1⟩ := hM
  obtain ⟨r0, σ1, hc, hm, f1, f2, f4⟩ := end_both (σ := σ) (x := y1.toInt) ok.2.2.2.1.1 ok.2.2.2.1.2
  refine ⟨r0, fun c' => c' = cK ad ca rf σ1 ∧ rngK σ1, fun I' F' => Rq σ1 I' F', ?_, ?_, ?_⟩
  · intro l D sz
    rw [hW]
    have m := mk_S_end D ad ca rf σ g hrf y1.toInt (rng_toInt y1) (fun x u => x = r0 ∧ u = σ1) (hc _ ⟨rfl, rfl⟩) l sz
    rw [← zI_back y1] at m
    exact met_cls m
  · intro l D h adM caM sz
    rw [← e2] at hm
    have m := mt_end D h adM caM I F hR y1.toInt (rng_toInt y1) (fun (r : Int) (c0 : Int) => r = r0 ∧ Rq σ1 (sI I 7 c0) F ∧ MInv (sI I 7 c0) F) (hm _ ⟨rfl, ⟨by show F 6 = _; rw [f2, e1], rfl, by show I 14 = _; rw [f1 2 1 (Or.inl (by decide)), e3], by show I 20 = _; rw [f1 2 2 (Or.inl (by decide)), e4], by show I 23 = _; rw [f1 0 1 (Or.inl (by decide)), e5], by show F 50 = _; rw [f2, e6]⟩, ⟨hS, hRr, hIt, f4.1, f4.2, v0, v1⟩⟩) l sz
    rw [← zI_back y1] at m
    refine m.mono (fun _ _ h => h) (fun a st o t _ hq => ?_) (fun _ h => h)
    obtain ⟨⟨r, u, ho, ⟨⟨x, hx, gx, hx0, hRel, hMI⟩, hr1⟩, hB⟩, hF⟩ := hq
    exact ⟨⟨r, ((sI I 7 u), F), ho, ⟨⟨by rw [hx, hx0], hRel⟩, hMI, hr1⟩, hB⟩, hF⟩
  · rintro c' I' F' ⟨rfl, g1⟩ hq
    exact RelB.cls hI g1 (FrX.of (fun a b _ _ z => f1 a b (Or.inl z)) (fun a _ _ _ _ _ => by rw [f2]) (by rw [f2]) (by rw [f2])) ⟨by unfold RdOk; rw [f1 2 7 (Or.inl (by decide)), f1 2 9 (Or.inl (by decide)), f1 2 13 (Or.inl (by decide))]; exact ok.1, by unfold RowOk; rw [f2]; exact ok.2.1, by rw [f1 0 1 (Or.inl (by decide))]; exact ok.2.2.1, f4, by rw [f2]; exact ok.2.2.2.2⟩ hq (by unfold Bts; rw [f2]; exact hb)
set_option maxHeartbeats 4000000 in
set_option maxRecDepth 100000 in
theorem b_program (hB : RelB ad ca cel I F) (hM : MInv I F) (hR : rngS I F) (y1 : Int32) : ∃ (r0 : Int) (Q : (Nat → Cl) → Prop) (R : (Nat → Int) → (Nat → Int → Int) → Prop), (∀ (l : Launch) (D : va_G) (adK adV : Nat → Nat) (tq : Nat) (sz : Nat), Met l yX11_program (Cond.code yX11_program cX11_program 3 (some .int) :: gG) { frames := 9, cells := 0, slots := 0, locals := 386 } (cPS RX10 ixT adK adV tq D (tC ca) (wN NC cel) sz [.ref (ad 0), .int y1]) (va_Qi (fun (r : Int32) (c' : Nat → Cl) => r = zI r0 ∧ Q c') (fun c' t => cB D (va_A (wN NC cel) sz) [] (wN NC c') t) (va_A (wN NC cel) sz)) 0 0 (va_A (wN NC cel) sz)) ∧ (∀ (l : Launch) (D : va_G) (adK adV : Nat → Nat) (tq : Nat) (h : Nat) (adM : Nat → Nat) (caM : Nat → ClassId) (sz : Nat), Met l yX12_program (Cond.code yX12_program cX12_program 3 (some .int) :: gG) { frames := 215, cells := 0, slots := 0, locals := 4954 } (cPS RX12 ixM adK adV tq D (tM caM) (wM h adM caM I F) sz [.ref h, .int y1]) (va_Qi (fun (r : Int32) (u : (Nat → Int) × (Nat → Int → Int)) => (r = zI r0 ∧ R u.1 u.2) ∧ MInv u.1 u.2 ∧ rngS u.1 u.2) (fun u t => cB D (va_A (wM h adM caM I F) sz) [] (wM h adM caM u.1 u.2) t) (va_A (wM h adM caM I F) sz)) 0 0 (va_A (wM h adM caM I F) sz)) ∧ ∀ c' I' F', Q c' → R I' F' → RelB ad ca c' I' F' := by
  obtain ⟨rf, σ, hW, hI, g, hrf, ok, ⟨e1, e2, e3, e4, e5, e6⟩, hb⟩ := hB.opn
  obtain ⟨hS, hRr, hIt, h0, h8, v0, v1⟩ := hM
  obtain ⟨r0, σ1, hc, ⟨hp0, ⟨p1, p2, p3, p4⟩, hpR, hpW⟩, fresh', many', made', at', token', tokenAt', value', wrong', wrongAt', fk', depth', cP', cS', pM', lL', fp', iR', iT', hm, ⟨hk, hp⟩, hv0, hv1⟩ := program_both (σ := σ) (slot := F 0) (slotLong := F 1) (row := F 2) (fresh := F 3) (many := I 4) (made := I 5) (at0 := I 8) (token := I 9) (tokenAt := I 10) (value := I 11) (wrong := I 12) (wrongAt := I 13) (fk := I 14) (depth := I 15) (cP := I 16) (cS := I 17) (pM := I 18) (lL := I 19) (fp := I 20) (iR := I 21) (iT := I 22) (x := y1.toInt) ⟨ok.2.2.2.1.1, ok.2.2.2.1.2, hb⟩ hS ⟨v0, v1⟩ ok.1 ok.2.1
  refine ⟨r0, fun c' => c' = cK ad ca rf σ1 ∧ rngK σ1, fun I' F' => Rq σ1 I' F', ?_, ?_, ?_⟩
  · intro l D adK adV tq sz
    rw [hW]
    have m := mk_S_program D ad ca rf σ g hrf adK adV tq y1.toInt (rng_toInt y1) (fun x u => x = r0 ∧ u = σ1) (hc _ ⟨rfl, rfl⟩) l sz
    rw [← zI_back y1] at m
    exact met_cls m
  · intro l D adK adV tq h adM caM sz
    rw [← e1, ← e2] at hm
    have m := mt_program D h adM caM I F hR adK adV tq y1.toInt (rng_toInt y1) (fun (r : Int) (c0 : (Int → Int)) (c1 : (Int → Int)) (c2 : (Int → Int)) (c3 : (Int → Int)) (c4 : Int) (c5 : Int) (c6 : Int) (c7 : Int) (c8 : Int) (c9 : Int) (c10 : Int) (c11 : Int) (c12 : Int) (c13 : Int) (c14 : Int) (c15 : Int) (c16 : Int) (c17 : Int) (c18 : Int) (c19 : Int) (c20 : Int) (c21 : Int) => r = r0 ∧ Rq σ1 (sI (sI (sI (sI (sI (sI (sI (sI (sI (sI (sI (sI (sI (sI (sI (sI (sI (sI I 4 c4) 5 c5) 7 c6) 8 c7) 9 c8) 10 c9) 11 c10) 12 c11) 13 c12) 14 c13) 15 c14) 16 c15) 17 c16) 18 c17) 19 c18) 20 c19) 21 c20) 22 c21) (sF (sF (sF (sF F 0 c0) 1 c1) 2 c2) 3 c3) ∧ MInv (sI (sI (sI (sI (sI (sI (sI (sI (sI (sI (sI (sI (sI (sI (sI (sI (sI (sI I 4 c4) 5 c5) 7 c6) 8 c7) 9 c8) 10 c9) 11 c10) 12 c11) 13 c12) 14 c13) 15 c14) 16 c15) 17 c16) 18 c17) 19 c18) 20 c19) 21 c20) 22 c21) (sF (sF (sF (sF F 0 c0) 1 c1) 2 c2) 3 c3)) (hm _ (fun slot1 slotLong1 row1 sw _ => ⟨rfl, ⟨by show F 6 = _; rw [p2 4 (by decide) (by decide) (by decide), e1], hp0.symm, hk, hp, by show I 23 = _; rw [p1 0 1 (by decide) (by decide), e5], by show F 50 = _; rw [p2 69 (by decide) (by decide) (by decide), e6]⟩, ⟨sw, hRr, hIt, (by decide : (0 : Int) ≤ 0), (by decide : (0 : Int) ≤ 800), hv0, hv1⟩⟩)) l sz
    rw [← zI_back y1] at m
    refine m.mono (fun _ _ h => h) (fun a st o t _ hq => ?_) (fun _ h => h)
    obtain ⟨⟨r, u, ho, ⟨⟨x, hx, gx, hx0, hRel, hMI⟩, hr1⟩, hB⟩, hF⟩ := hq
    exact ⟨⟨r, ((sI (sI (sI (sI (sI (sI (sI (sI (sI (sI (sI (sI (sI (sI (sI (sI (sI (sI I 4 u.2.2.2.2.1) 5 u.2.2.2.2.2.1) 7 u.2.2.2.2.2.2.1) 8 u.2.2.2.2.2.2.2.1) 9 u.2.2.2.2.2.2.2.2.1) 10 u.2.2.2.2.2.2.2.2.2.1) 11 u.2.2.2.2.2.2.2.2.2.2.1) 12 u.2.2.2.2.2.2.2.2.2.2.2.1) 13 u.2.2.2.2.2.2.2.2.2.2.2.2.1) 14 u.2.2.2.2.2.2.2.2.2.2.2.2.2.1) 15 u.2.2.2.2.2.2.2.2.2.2.2.2.2.2.1) 16 u.2.2.2.2.2.2.2.2.2.2.2.2.2.2.2.1) 17 u.2.2.2.2.2.2.2.2.2.2.2.2.2.2.2.2.1) 18 u.2.2.2.2.2.2.2.2.2.2.2.2.2.2.2.2.2.1) 19 u.2.2.2.2.2.2.2.2.2.2.2.2.2.2.2.2.2.2.1) 20 u.2.2.2.2.2.2.2.2.2.2.2.2.2.2.2.2.2.2.2.1) 21 u.2.2.2.2.2.2.2.2.2.2.2.2.2.2.2.2.2.2.2.2.1) 22 u.2.2.2.2.2.2.2.2.2.2.2.2.2.2.2.2.2.2.2.2.2), (sF (sF (sF (sF F 0 u.1) 1 u.2.1) 2 u.2.2.1) 3 u.2.2.2.1)), ho, ⟨⟨by rw [hx, hx0], hRel⟩, hMI, hr1⟩, hB⟩, hF⟩
  · rintro c' I' F' ⟨rfl, g1⟩ hq
    exact RelB.cls hI g1 (FrX.of (fun a b _ z2 z3 => p1 a b z2 z3) (fun a _ z5 z6 z7 _ => p2 a z5 z6 z7) (p4 2 (by decide)).2 (p4 3 (by decide)).2) ⟨hpR, hpW, by rw [p1 0 1 (by decide) (by decide)]; exact ok.2.2.1, by rw [hp0]; decide, by rw [p2 69 (by decide) (by decide) (by decide)]; exact ok.2.2.2.2⟩ hq (by unfold Bts; rw [p2 4 (by decide) (by decide) (by decide)]; exact hb)
set_option maxHeartbeats 4000000 in
set_option maxRecDepth 100000 in
theorem b_rule (hB : RelB ad ca cel I F) (hM : MInv I F) (hR : rngS I F) : ∃ (r0 : Int) (Q : (Nat → Cl) → Prop) (R : (Nat → Int) → (Nat → Int → Int) → Prop), (∀ (l : Launch) (D : va_G) (adK adV : Nat → Nat) (tq : Nat) (sz : Nat), Met l yX11_rule (Cond.code yX11_rule cX11_rule 2 (some .int) :: gG) { frames := 9, cells := 0, slots := 0, locals := 386 } (cPS RX10 ixT adK adV tq D (tC ca) (wN NC cel) sz [.ref (ad 0)]) (va_Qi (fun (r : Int32) (c' : Nat → Cl) => r = zI r0 ∧ Q c') (fun c' t => cB D (va_A (wN NC cel) sz) [] (wN NC c') t) (va_A (wN NC cel) sz)) 0 0 (va_A (wN NC cel) sz)) ∧ (∀ (l : Launch) (D : va_G) (adK adV : Nat → Nat) (tq : Nat) (h : Nat) (adM : Nat → Nat) (caM : Nat → ClassId) (sz : Nat), Met l yX12_rule (Cond.code yX12_rule cX12_rule 4 (some .int) :: gG) { frames := 112, cells := 0, slots := 0, locals := 2670 } (cPS RX12 ixM adK adV tq D (tM caM) (wM h adM caM I F) sz [.ref h]) (va_Qi (fun (r : Int32) (u : (Nat → Int) × (Nat → Int → Int)) => (r = zI r0 ∧ R u.1 u.2) ∧ MInv u.1 u.2 ∧ rngS u.1 u.2) (fun u t => cB D (va_A (wM h adM caM I F) sz) [] (wM h adM caM u.1 u.2) t) (va_A (wM h adM caM I F) sz)) 0 0 (va_A (wM h adM caM I F) sz)) ∧ ∀ c' I' F', Q c' → R I' F' → RelB ad ca c' I' F' := by
  obtain ⟨rf, σ, hW, hI, g, hrf, ok, ⟨e1, e2, e3, e4, e5, e6⟩, hb⟩ := hB.opn
  obtain ⟨hS, hRr, hIt, h0, h8, v0, v1⟩ := hM
  obtain ⟨r0, σ1, hc, ⟨hp0, ⟨hle, h12⟩, ⟨p1, p2, p3, p4, p5, p6⟩, hpR, hpW⟩, fresh', made', at', token', tokenAt', value', wrong', wrongAt', fk', depth', cP', cS', pM', lL', fp', iR', iT', rule', rR', rL', lt', hm, ⟨hk, hp⟩, hW', hv0, hv1⟩ := rule_both (σ := σ) (fresh := F 3) (rule := F 24) (rR := F 25) (rL := F 26) (lt := F 27) (made := I 5) (at0 := I 8) (token := I 9) (tokenAt := I 10) (value := I 11) (wrong := I 12) (wrongAt := I 13) (fk := I 14) (depth := I 15) (cP := I 16) (cS := I 17) (pM := I 18) (lL := I 19) (fp := I 20) (iR := I 21) (iT := I 22) ⟨ok.2.2.2.1.1, ok.2.2.2.1.2, hb⟩ ok.2.2.1 (by rw [e5] at hRr; exact hRr) ⟨v0, v1⟩ ok.1 ok.2.1
  refine ⟨r0, fun c' => c' = cK ad ca rf σ1 ∧ rngK σ1, fun I' F' => Rq σ1 I' F', ?_, ?_, ?_⟩
  · intro l D adK adV tq sz
    rw [hW]
    have m := mk_S_rule D ad ca rf σ g hrf adK adV tq   (fun x u => x = r0 ∧ u = σ1) (hc _ ⟨rfl, rfl⟩) l sz
    exact met_cls m
  · intro l D adK adV tq h adM caM sz
    rw [← e1, ← e2, ← e5] at hm
    have m := mt_rule D h adM caM I F hR adK adV tq   (fun (r : Int) (c0 : (Int → Int)) (c1 : Int) (c2 : Int) (c3 : Int) (c4 : Int) (c5 : Int) (c6 : Int) (c7 : Int) (c8 : Int) (c9 : Int) (c10 : Int) (c11 : Int) (c12 : Int) (c13 : Int) (c14 : Int) (c15 : Int) (c16 : Int) (c17 : Int) (c18 : Int) (c19 : (Int → Int)) (c20 : (Int → Int)) (c21 : (Int → Int)) (c22 : (Int → Int)) => r = r0 ∧ Rq σ1 (sI (sI (sI (sI (sI (sI (sI (sI (sI (sI (sI (sI (sI (sI (sI (sI (sI (sI I 5 c1) 7 c2) 8 c3) 9 c4) 10 c5) 11 c6) 12 c7) 13 c8) 14 c9) 15 c10) 16 c11) 17 c12) 18 c13) 19 c14) 20 c15) 21 c16) 22 c17) 23 c18) (sF (sF (sF (sF (sF F 3 c0) 24 c19) 25 c20) 26 c21) 27 c22) ∧ MInv (sI (sI (sI (sI (sI (sI (sI (sI (sI (sI (sI (sI (sI (sI (sI (sI (sI (sI I 5 c1) 7 c2) 8 c3) 9 c4) 10 c5) 11 c6) 12 c7) 13 c8) 14 c9) 15 c10) 16 c11) 17 c12) 18 c13) 19 c14) 20 c15) 21 c16) 22 c17) 23 c18) (sF (sF (sF (sF (sF F 3 c0) 24 c19) 25 c20) 26 c21) 27 c22)) (hm _ ⟨rfl, ⟨by show F 6 = _; rw [p2 4 (by decide) (by decide) (by decide), e1], hp0.symm, hk, hp, rfl, by show F 50 = _; rw [p2 69 (by decide) (by decide) (by decide), e6]⟩, ⟨hS, hW', IW_up (by rw [e5]; exact hle) hIt, (by decide : (0 : Int) ≤ 0), (by decide : (0 : Int) ≤ 800), hv0, hv1⟩⟩) l sz
    refine m.mono (fun _ _ h => h) (fun a st o t _ hq => ?_) (fun _ h => h)
    obtain ⟨⟨r, u, ho, ⟨⟨x, hx, gx, hx0, hRel, hMI⟩, hr1⟩, hB⟩, hF⟩ := hq
    exact ⟨⟨r, ((sI (sI (sI (sI (sI (sI (sI (sI (sI (sI (sI (sI (sI (sI (sI (sI (sI (sI I 5 u.2.1) 7 u.2.2.1) 8 u.2.2.2.1) 9 u.2.2.2.2.1) 10 u.2.2.2.2.2.1) 11 u.2.2.2.2.2.2.1) 12 u.2.2.2.2.2.2.2.1) 13 u.2.2.2.2.2.2.2.2.1) 14 u.2.2.2.2.2.2.2.2.2.1) 15 u.2.2.2.2.2.2.2.2.2.2.1) 16 u.2.2.2.2.2.2.2.2.2.2.2.1) 17 u.2.2.2.2.2.2.2.2.2.2.2.2.1) 18 u.2.2.2.2.2.2.2.2.2.2.2.2.2.1) 19 u.2.2.2.2.2.2.2.2.2.2.2.2.2.2.1) 20 u.2.2.2.2.2.2.2.2.2.2.2.2.2.2.2.1) 21 u.2.2.2.2.2.2.2.2.2.2.2.2.2.2.2.2.1) 22 u.2.2.2.2.2.2.2.2.2.2.2.2.2.2.2.2.2.1) 23 u.2.2.2.2.2.2.2.2.2.2.2.2.2.2.2.2.2.2.1), (sF (sF (sF (sF (sF F 3 u.1) 24 u.2.2.2.2.2.2.2.2.2.2.2.2.2.2.2.2.2.2.2.1) 25 u.2.2.2.2.2.2.2.2.2.2.2.2.2.2.2.2.2.2.2.2.1) 26 u.2.2.2.2.2.2.2.2.2.2.2.2.2.2.2.2.2.2.2.2.2.1) 27 u.2.2.2.2.2.2.2.2.2.2.2.2.2.2.2.2.2.2.2.2.2.2)), ho, ⟨⟨by rw [hx, hx0], hRel⟩, hMI, hr1⟩, hB⟩, hF⟩
  · rintro c' I' F' ⟨rfl, g1⟩ hq
    exact RelB.cls hI g1 (FrX.of (fun a b z0 z2 z3 => p1 a b z2 z3 (Or.inl z0)) (fun a _ z5 z6 z7 _ => p2 a z5 z6 z7) (p6 2 (by decide)) (p6 3 (by decide))) ⟨hpR, hpW, ⟨by have := ok.2.2.1.1; omega, h12⟩, by rw [hp0]; decide, by rw [p2 69 (by decide) (by decide) (by decide)]; exact ok.2.2.2.2⟩ hq (by unfold Bts; rw [p2 4 (by decide) (by decide) (by decide)]; exact hb)
set_option maxHeartbeats 4000000 in
set_option maxRecDepth 100000 in
theorem b_fault (hB : RelB ad ca cel I F) (hR : rngS I F) (y1 : Int32) : ∃ r0 : Int, (∀ (l : Launch) (D : va_G) (sz : Nat), Met l yX11_fault (Cond.code yX11_fault cX11_fault 2 (some .int) :: gG) { frames := 1, cells := 0, slots := 0, locals := 64 } (cPre D (tC ca) (wN NC cel) sz [.ref (ad 0), .int y1]) (vp_Si (fun r => r = zI r0)) 0 0 (fun _ => False)) ∧ ∀ (l : Launch) (D : va_G) (h : Nat) (adM : Nat → Nat) (caM : Nat → ClassId) (sz : Nat), Met l yX12_fault (Cond.code yX12_fault cX12_fault 2 (some .int) :: gG) { frames := 1, cells := 0, slots := 0, locals := 64 } (cPre D (tM caM) (wM h adM caM I F) sz [.ref h, .int y1]) (vp_Si (fun r => r = zI r0)) 0 0 (fun _ => False) := by
  obtain ⟨rf, σ, hW, hI, g, hrf, ok, ⟨e1, e2, e3, e4, e5, e6⟩, hb⟩ := hB.opn
  obtain ⟨r0, hc, hm⟩ := fault_both (σ := σ) (x := y1.toInt)
  refine ⟨r0, ?_, ?_⟩
  · intro l D sz
    rw [hW]
    have m := mk_S_fault D ad ca rf σ g hrf y1.toInt (rng_toInt y1) (fun x => x = r0) (hc _ rfl) l sz
    rw [← zI_back y1] at m
    refine m.mono (fun _ _ h => h) (fun a st o t _ hq => ?_) (fun _ h => h)
    obtain ⟨r, ho, ⟨x, hx, gx, e⟩, hh⟩ := hq
    exact ⟨r, ho, by rw [hx, e], hh⟩
  · intro l D h adM caM sz
    rw [← e3, ← e4] at hm
    have m := mt_fault D h adM caM I F hR y1.toInt (rng_toInt y1) (fun x => x = r0) (hm _ rfl) l sz
    rw [← zI_back y1] at m
    refine m.mono (fun _ _ h => h) (fun a st o t _ hq => ?_) (fun _ h => h)
    obtain ⟨r, ho, ⟨x, hx, gx, e⟩, hh⟩ := hq
    exact ⟨r, ho, by rw [hx, e], hh⟩
set_option maxHeartbeats 4000000 in
set_option maxRecDepth 100000 in
theorem b_item (hB : RelB ad ca cel I F) (hM : MInv I F) (hR : rngS I F) (y1 y2 : Int32) : ∃ (r0 : Int) (Q : (Nat → Cl) → Prop) (R : (Nat → Int) → (Nat → Int → Int) → Prop), (∀ (l : Launch) (D : va_G) (sz : Nat), Met l yX11_item (Cond.code yX11_item cX11_item 5 (some .int) :: gG) { frames := 3, cells := 0, slots := 0, locals := 106 } (cPre D (tC ca) (wN NC cel) sz [.ref (ad 0), .int y1, .int y2]) (va_Qi (fun (r : Int32) (c' : Nat → Cl) => r = zI r0 ∧ Q c') (fun c' t => cB D (va_A (wN NC cel) sz) [] (wN NC c') t) (va_A (wN NC cel) sz)) 0 0 (va_A (wN NC cel) sz)) ∧ (∀ (l : Launch) (D : va_G) (h : Nat) (adM : Nat → Nat) (caM : Nat → ClassId) (sz : Nat), Met l yX12_item (Cond.code yX12_item cX12_item 3 (some .int) :: gG) { frames := 3, cells := 0, slots := 0, locals := 106 } (cPre D (tM caM) (wM h adM caM I F) sz [.ref h, .int y1, .int y2]) (va_Qi (fun (r : Int32) (u : (Nat → Int) × (Nat → Int → Int)) => (r = zI r0 ∧ R u.1 u.2) ∧ MInv u.1 u.2 ∧ rngS u.1 u.2) (fun u t => cB D (va_A (wM h adM caM I F) sz) [] (wM h adM caM u.1 u.2) t) (va_A (wM h adM caM I F) sz)) 0 0 (va_A (wM h adM caM I F) sz)) ∧ ∀ c' I' F', Q c' → R I' F' → RelB ad ca c' I' F' := by
  obtain ⟨rf, σ, hW, hI, g, hrf, ok, ⟨e1, e2, e3, e4, e5, e6⟩, hb⟩ := hB.opn
  obtain ⟨hS, hRr, hIt, h0, h8, v0, v1⟩ := hM
  obtain ⟨r0, σ1, items', hc, hm, fr, hIW, -⟩ := item_both (σ := σ) (items := F 49) (x := y1.toInt) (y := y2.toInt) (by rw [e5, e6] at hIt; exact hIt) ok.2.2.1
  refine ⟨r0, fun c' => c' = cK ad ca rf σ1 ∧ rngK σ1, fun I' F' => Rq σ1 I' F', ?_, ?_, ?_⟩
  · intro l D sz
    rw [hW]
    have m := mk_S_item D ad ca rf σ g hrf y1.toInt y2.toInt (rng_toInt y1) (rng_toInt y2) (fun x u => x = r0 ∧ u = σ1) (hc _ ⟨rfl, rfl⟩) l sz
    rw [← zI_back y1, ← zI_back y2] at m
    exact met_cls m
  · intro l D h adM caM sz
    rw [← e5, ← e6] at hm
    have m := mt_item D h adM caM I F hR y1.toInt y2.toInt (rng_toInt y1) (rng_toInt y2) (fun (r : Int) (c0 : (Int → Int)) (c1 : (Int → Int)) => r = r0 ∧ Rq σ1 I (sF (sF F 49 c0) 50 c1) ∧ MInv I (sF (sF F 49 c0) 50 c1)) (hm _ ⟨rfl, ⟨by show F 6 = _; rw [fr.2.1 4 (by decide), e1], by show I 7 = _; rw [fr.1, e2], by show I 14 = _; rw [fr.1, e3], by show I 20 = _; rw [fr.1, e4], by show I 23 = _; rw [fr.1, e5], rfl⟩, ⟨hS, hRr, by show IW (I 23) items' (σ1.2.1 69); rw [e5, ← fr.1]; exact hIW, h0, h8, v0, v1⟩⟩) l sz
    rw [← zI_back y1, ← zI_back y2] at m
    refine m.mono (fun _ _ h => h) (fun a st o t _ hq => ?_) (fun _ h => h)
    obtain ⟨⟨r, u, ho, ⟨⟨x, hx, gx, hx0, hRel, hMI⟩, hr1⟩, hB⟩, hF⟩ := hq
    exact ⟨⟨r, (I, (sF (sF F 49 u.1) 50 u.2)), ho, ⟨⟨by rw [hx, hx0], hRel⟩, hMI, hr1⟩, hB⟩, hF⟩
  · rintro c' I' F' ⟨rfl, g1⟩ hq
    exact RelB.cls hI g1 (FrX.of (fun a b _ _ _ => by rw [fr.1]) (fun a _ _ _ _ z => fr.2.1 a z) (fr.2.2.2.1 2 (by decide)) (fr.2.2.2.1 3 (by decide))) ⟨by unfold RdOk; rw [fr.1]; exact ok.1, by unfold RowOk; rw [fr.2.2.1]; exact ok.2.1, by rw [fr.1]; exact ok.2.2.1, by rw [fr.1]; exact ok.2.2.2.1, fun j => by
      by_cases q : (j : Int) ≤ 5
      · have := hIW j (by omega) q; exact ⟨this.1, this.2.1⟩
      · rw [fr.2.2.2.2 j (by omega)]; exact ok.2.2.2.2 j⟩ hq (by unfold Bts; rw [fr.2.1 4 (by decide)]; exact hb)
set_option maxHeartbeats 4000000 in
set_option maxRecDepth 100000 in
theorem b_clear (hB : RelB ad ca cel I F) (hM : MInv I F) (hR : rngS I F) (y1 : Int32) : ∃ (r0 : Int) (Q : (Nat → Cl) → Prop) (R : (Nat → Int) → (Nat → Int → Int) → Prop), (∀ (l : Launch) (D : va_G) (sz : Nat), Met l yX11_clear (Cond.code yX11_clear cX11_clear 2 (some .boolean) :: gG) { frames := 3, cells := 0, slots := 0, locals := 105 } (cPre D (tC ca) (wN NC cel) sz [.ref (ad 0), .int y1]) (va_Qi (fun (r : Int32) (c' : Nat → Cl) => r = zI r0 ∧ Q c') (fun c' t => cB D (va_A (wN NC cel) sz) [] (wN NC c') t) (va_A (wN NC cel) sz)) 0 0 (va_A (wN NC cel) sz)) ∧ (∀ (l : Launch) (D : va_G) (h : Nat) (adM : Nat → Nat) (caM : Nat → ClassId) (sz : Nat), Met l yX12_clear (Cond.code yX12_clear cX12_clear 2 (some .boolean) :: gG) { frames := 3, cells := 0, slots := 0, locals := 106 } (cPre D (tM caM) (wM h adM caM I F) sz [.ref h, .int y1]) (va_Qi (fun (r : Int32) (u : (Nat → Int) × (Nat → Int → Int)) => (r = zI r0 ∧ R u.1 u.2) ∧ MInv u.1 u.2 ∧ rngS u.1 u.2) (fun u t => cB D (va_A (wM h adM caM I F) sz) [] (wM h adM caM u.1 u.2) t) (va_A (wM h adM caM I F) sz)) 0 0 (va_A (wM h adM caM I F) sz)) ∧ ∀ c' I' F', Q c' → R I' F' → RelB ad ca c' I' F' := by
  obtain ⟨rf, σ, hW, hI, g, hrf, ok, ⟨e1, e2, e3, e4, e5, e6⟩, hb⟩ := hB.opn
  obtain ⟨hS, hRr, hIt, h0, h8, v0, v1⟩ := hM
  obtain ⟨r0, σ1, hc, hm, fr, hIW, -⟩ := clear_both (σ := σ) (items := F 49) (x := y1.toInt) (by rw [e5, e6] at hIt; exact hIt)
  refine ⟨r0, fun c' => c' = cK ad ca rf σ1 ∧ rngK σ1, fun I' F' => Rq σ1 I' F', ?_, ?_, ?_⟩
  · intro l D sz
    rw [hW]
    have m := mk_S_clear D ad ca rf σ g hrf y1.toInt (rng_toInt y1) (fun x u => x = r0 ∧ u = σ1) (hc _ ⟨rfl, rfl⟩) l sz
    rw [← zI_back y1] at m
    exact met_cls m
  · intro l D h adM caM sz
    rw [← e6] at hm
    have m := mt_clear D h adM caM I F hR y1.toInt (rng_toInt y1) (fun (r : Int) (c0 : (Int → Int)) => r = r0 ∧ Rq σ1 I (sF F 50 c0) ∧ MInv I (sF F 50 c0)) (hm _ ⟨rfl, ⟨by show F 6 = _; rw [fr.2.1 4 (by decide), e1], by show I 7 = _; rw [fr.1, e2], by show I 14 = _; rw [fr.1, e3], by show I 20 = _; rw [fr.1, e4], by show I 23 = _; rw [fr.1, e5], rfl⟩, ⟨hS, hRr, by show IW (I 23) (F 49) (σ1.2.1 69); rw [e5, ← fr.1]; exact hIW, h0, h8, v0, v1⟩⟩) l sz
    rw [← zI_back y1] at m
    refine m.mono (fun _ _ h => h) (fun a st o t _ hq => ?_) (fun _ h => h)
    obtain ⟨⟨r, u, ho, ⟨⟨x, hx, gx, hx0, hRel, hMI⟩, hr1⟩, hB⟩, hF⟩ := hq
    exact ⟨⟨r, (I, (sF F 50 u)), ho, ⟨⟨by rw [hx, hx0], hRel⟩, hMI, hr1⟩, hB⟩, hF⟩
  · rintro c' I' F' ⟨rfl, g1⟩ hq
    exact RelB.cls hI g1 (FrX.of (fun a b _ _ _ => by rw [fr.1]) (fun a _ _ _ _ z => fr.2.1 a z) (fr.2.2.2.1 2 (by decide)) (fr.2.2.2.1 3 (by decide))) ⟨by unfold RdOk; rw [fr.1]; exact ok.1, by unfold RowOk; rw [fr.2.2.1]; exact ok.2.1, by rw [fr.1]; exact ok.2.2.1, by rw [fr.1]; exact ok.2.2.2.1, fun j => by
      by_cases q : (j : Int) ≤ 5
      · have := hIW j (by omega) q; exact ⟨this.1, this.2.1⟩
      · rw [fr.2.2.2.2 j (by omega)]; exact ok.2.2.2.2 j⟩ hq (by unfold Bts; rw [fr.2.1 4 (by decide)]; exact hb)
end BB
