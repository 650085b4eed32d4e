section BX
variable {ad : Nat → Nat} {ca : Nat → ClassId} {cel : Nat → Cl} {I : Nat → Int} {F : Nat → Int → Int}
/-- class and reference alike -/
def RelX (ad : Nat → Nat) (ca : Nat → ClassId) (cel : Nat → Cl) (I : Nat → Int) (F : Nat → Int → Int) : Prop := ∃ (rf : Nat → Nat → Option Nat) (σ : Sg) (LX RX : Int → List Int), wN NC cel = wK ad ca rf σ ∧ rngK σ ∧ RFok ad rf ∧ Twn σ I F LX RX
def MInv (_ : Nat → Int) (_ : Nat → Int → Int) : Prop := True
theorem met_clx {l : Launch} {y : MethodName} {ws : List Cond} {rm : Room} {Pc : Array Value → State → Prop} {D : va_G} {A : Nat → Prop} {rf : Nat → Nat → Option Nat} {PC : Int → Sg → Prop} (hM : Met l y ws rm Pc (va_Qi (fun (r : Int32) (u : Sg) => (∃ x : Int, r = zI x ∧ rng x ∧ PC x u) ∧ rngK u) (fun u t => cB D A [] (wK ad ca rf u) t) A) 0 0 A) :
    Met l y ws rm Pc (va_Qi (fun (r : Int32) (c' : Nat → Cl) => ∃ (x : Int) (u : Sg), r = zI x ∧ PC x u ∧ c' = cK ad ca rf u ∧ rngK u) (fun c' t => cB D A [] (wN NC c') t) A) 0 0 A := by
  refine hM.mono (fun _ _ h => h) (fun a st o t _ hq => ?_) (fun _ h => h)
  obtain ⟨⟨r, u, ho, ⟨⟨x, hx, gx, hP⟩, g⟩, hB⟩, hF⟩ := hq
  exact ⟨⟨r, cK ad ca rf u, ho, ⟨x, u, hx, hP, rfl, g⟩, hB⟩, hF⟩
theorem he_7 {M : va_W} (hB : RelX ad ca cel I F) : ∃ fs, (wN NC cel ++ M)[0]? = some (ad 0, .inr (11, fs)) := by
  obtain ⟨rf, σ, _, _, hW, -⟩ := hB
  rw [hW]
  exact ⟨_, (List.getElem?_append_left (by show 0 < ((List.range NC).map _).length; rw [List.length_map, List.length_range]; decide)).trans (cx0 σ)⟩
set_option maxHeartbeats 4000000 in
set_option maxRecDepth 100000 in
theorem b_feed (hB : RelX ad ca cel I F) (hR : rngS I F) (y1 y2 y3 y4 y5 : Int32) : ∃ (Q : Int32 → (Nat → Cl) → Prop) (R : Int32 → (Nat → Int) → (Nat → Int → Int) → Prop), (∀ (l : Launch) (D : va_G) (sz : Nat), Met l yX11_feed (Cond.code yX11_feed cX11_feed 7 (some .int) :: gG) { frames := 2, cells := 0, slots := 0, locals := 86 } (cPre D (tC ca) (wN NC cel) sz [.ref (ad 0), .int y1, .int y2, .int y3, .int y4, .int y5]) (va_Qi (fun (r : Int32) (c' : Nat → Cl) => Q r c') (fun c' t => cB D (va_A (wN NC cel) sz) [] (wN NC c') t) (va_A (wN NC cel) sz)) 0 0 (va_A (wN NC cel) sz)) ∧ (∀ (l : Launch) (D : va_G) (h : Nat) (adM : Nat → Nat) (caM : Nat → ClassId) (sz : Nat), Met l yX12_feed (Cond.code yX12_feed cX12_feed 8 (some .int) :: gG) { frames := 1, cells := 0, slots := 0, locals := 64 } (cPre D (tM caM) (wM h adM caM I F) sz [.ref h, .int y1, .int y2, .int y3, .int y4, .int y5]) (va_Qi (fun (r : Int32) (u : (Nat → Int) × (Nat → Int → Int)) => R r u.1 u.2 ∧ MInv u.1 u.2 ∧ rngS u.1 u.2) (fun u t => cB D (va_A (wM h adM caM I F) sz) [] (wM h adM caM u.1 u.2) t) (va_A (wM h adM caM I F) sz)) 0 0 (va_A (wM h adM caM I F) sz)) ∧ ∀ r r' c' I' F', Q r c' → R r' I' F' → r = r' ∧ RelX ad ca c' I' F' := by
  obtain ⟨rf, σ, LX, RX, hW, g, hrf, hT⟩ := hB
  obtain ⟨PC, PR, hc, hm, hrel⟩ := p_feed (x0 := y1.toInt) (x1 := y2.toInt) (x2 := y3.toInt) (x3 := y4.toInt) (x4 := y5.toInt) hT
  refine ⟨(fun r c' => ∃ (x : Int) (u : Sg), r = zI x ∧ PC x u ∧ c' = cK ad ca rf u ∧ rngK u), (fun r I' F' => ∃ x : Int, r = zI x ∧ PR x I' F'), ?_, ?_, ?_⟩
  · intro l D sz
    rw [hW]
    have m := mk_S_feed D ad ca rf σ g hrf y1.toInt y2.toInt y3.toInt y4.toInt y5.toInt (rng_toInt y1) (rng_toInt y2) (rng_toInt y3) (rng_toInt y4) (rng_toInt y5) PC hc l sz
    rw [← zI_back y1, ← zI_back y2, ← zI_back y3, ← zI_back y4, ← zI_back y5] at m
    exact met_clx m
  · intro l D h adM caM sz
    have m := mt_feed D h adM caM I F hR y1.toInt y2.toInt y3.toInt y4.toInt y5.toInt (rng_toInt y1) (rng_toInt y2) (rng_toInt y3) (rng_toInt y4) (rng_toInt y5) (fun (r : Int) (c0 : (Int → Int)) (c1 : Int) => PR r (sI I 7 c1) (sF F 6 c0)) hm l sz
    rw [← zI_back y1, ← zI_back y2, ← zI_back y3, ← zI_back y4, ← zI_back y5] at m
    refine m.mono (fun _ _ h => h) (fun a st o t _ hq => ?_) (fun _ h => h)
    obtain ⟨⟨r, u, ho, ⟨⟨x, hx, gx, hK⟩, hr1⟩, hB⟩, hF⟩ := hq
    exact ⟨⟨r, ((sI I 7 u.2), (sF F 6 u.1)), ho, ⟨⟨x, hx, hK⟩, trivial, hr1⟩, hB⟩, hF⟩
  · rintro r r' c' I' F' ⟨x, u, hx, hP, rfl, gu⟩ ⟨x', hx', hP'⟩
    obtain ⟨e, LX', RX', hT'⟩ := hrel _ _ _ _ _ hP hP'
    exact ⟨by rw [hx, hx', e], rf, u, LX', RX', rfl, gu, hrf, hT'⟩
set_option maxHeartbeats 4000000 in
set_option maxRecDepth 100000 in
theorem b_end (hB : RelX ad ca cel I F) (hR : rngS I F) (y1 : Int32) : ∃ (Q : Int32 → (Nat → Cl) → Prop) (R : Int32 → (Nat → Int) → (Nat → Int → Int) → Prop), (∀ (l : Launch) (D : va_G) (sz : Nat), Met l yX11_end (Cond.code yX11_end cX11_end 2 (some .boolean) :: gG) { frames := 2, cells := 0, slots := 0, locals := 85 } (cPre D (tC ca) (wN NC cel) sz [.ref (ad 0), .int y1]) (va_Qi (fun (r : Int32) (c' : Nat → Cl) => Q r c') (fun c' t => cB D (va_A (wN NC cel) sz) [] (wN NC c') t) (va_A (wN NC cel) sz)) 0 0 (va_A (wN NC cel) sz)) ∧ (∀ (l : Launch) (D : va_G) (h : Nat) (adM : Nat → Nat) (caM : Nat → ClassId) (sz : Nat), Met l yX12_end (Cond.code yX12_end cX12_end 2 (some .boolean) :: gG) { frames := 2, cells := 0, slots := 0, locals := 86 } (cPre D (tM caM) (wM h adM caM I F) sz [.ref h, .int y1]) (va_Qi (fun (r : Int32) (u : (Nat → Int) × (Nat → Int → Int)) => R r u.1 u.2 ∧ MInv u.1 u.2 ∧ rngS u.1 u.2) (fun u t => cB D (va_A (wM h adM caM I F) sz) [] (wM h adM caM u.1 u.2) t) (va_A (wM h adM caM I F) sz)) 0 0 (va_A (wM h adM caM I F) sz)) ∧ ∀ r r' c' I' F', Q r c' → R r' I' F' → r = r' ∧ RelX ad ca c' I' F' := by
  obtain ⟨rf, σ, LX, RX, hW, g, hrf, hT⟩ := hB
  obtain ⟨PC, PR, hc, hm, hrel⟩ := p_end (x0 := y1.toInt) hT
  refine ⟨(fun r c' => ∃ (x : Int) (u : Sg), r = zI x ∧ PC x u ∧ c' = cK ad ca rf u ∧ rngK u), (fun r I' F' => ∃ x : Int, r = zI x ∧ PR x I' F'), ?_, ?_, ?_⟩
  · intro l D sz
    rw [hW]
    have m := mk_S_end D ad ca rf σ g hrf y1.toInt (rng_toInt y1) PC hc l sz
    rw [← zI_back y1] at m
    exact met_clx m
  · intro l D h adM caM sz
    have m := mt_end D h adM caM I F hR y1.toInt (rng_toInt y1) (fun (r : Int) (c0 : Int) => PR r (sI I 7 c0) F) hm l sz
    rw [← zI_back y1] at m
    refine m.mono (fun _ _ h => h) (fun a st o t _ hq => ?_) (fun _ h => h)
    obtain ⟨⟨r, u, ho, ⟨⟨x, hx, gx, hK⟩, hr1⟩, hB⟩, hF⟩ := hq
    exact ⟨⟨r, ((sI I 7 u), F), ho, ⟨⟨x, hx, hK⟩, trivial, hr1⟩, hB⟩, hF⟩
  · rintro r r' c' I' F' ⟨x, u, hx, hP, rfl, gu⟩ ⟨x', hx', hP'⟩
    obtain ⟨e, LX', RX', hT'⟩ := hrel _ _ _ _ _ hP hP'
    exact ⟨by rw [hx, hx', e], rf, u, LX', RX', rfl, gu, hrf, hT'⟩
set_option maxHeartbeats 4000000 in
set_option maxRecDepth 100000 in
theorem b_program (hB : RelX ad ca cel I F) (hR : rngS I F) (y1 : Int32) : ∃ (Q : Int32 → (Nat → Cl) → Prop) (R : Int32 → (Nat → Int) → (Nat → Int → Int) → Prop), (∀ (l : Launch) (D : va_G) (adK adV : Nat → Nat) (tq : Nat) (sz : Nat), Met l yX11_program (Cond.code yX11_program cX11_program 3 (some .int) :: gG) { frames := 9, cells := 0, slots := 0, locals := 386 } (cPS RX10 ixT adK adV tq D (tC ca) (wN NC cel) sz [.ref (ad 0), .int y1]) (va_Qi (fun (r : Int32) (c' : Nat → Cl) => Q r c') (fun c' t => cB D (va_A (wN NC cel) sz) [] (wN NC c') t) (va_A (wN NC cel) sz)) 0 0 (va_A (wN NC cel) sz)) ∧ (∀ (l : Launch) (D : va_G) (adK adV : Nat → Nat) (tq : Nat) (h : Nat) (adM : Nat → Nat) (caM : Nat → ClassId) (sz : Nat), Met l yX12_program (Cond.code yX12_program cX12_program 3 (some .int) :: gG) { frames := 215, cells := 0, slots := 0, locals := 4954 } (cPS RX12 ixM adK adV tq D (tM caM) (wM h adM caM I F) sz [.ref h, .int y1]) (va_Qi (fun (r : Int32) (u : (Nat → Int) × (Nat → Int → Int)) => R r u.1 u.2 ∧ MInv u.1 u.2 ∧ rngS u.1 u.2) (fun u t => cB D (va_A (wM h adM caM I F) sz) [] (wM h adM caM u.1 u.2) t) (va_A (wM h adM caM I F) sz)) 0 0 (va_A (wM h adM caM I F) sz)) ∧ ∀ r r' c' I' F', Q r c' → R r' I' F' → r = r' ∧ RelX ad ca c' I' F' := by
  obtain ⟨rf, σ, LX, RX, hW, g, hrf, hT⟩ := hB
  obtain ⟨PC, PR, hc, hm, hrel⟩ := p_program (x0 := y1.toInt) hT
  refine ⟨(fun r c' => ∃ (x : Int) (u : Sg), r = zI x ∧ PC x u ∧ c' = cK ad ca rf u ∧ rngK u), (fun r I' F' => ∃ x : Int, r = zI x ∧ PR x I' F'), ?_, ?_, ?_⟩
  · intro l D adK adV tq sz
    rw [hW]
    have m := mk_S_program D ad ca rf σ g hrf adK adV tq y1.toInt (rng_toInt y1) PC hc l sz
    rw [← zI_back y1] at m
    exact met_clx m
  · intro l D adK adV tq h adM caM sz
    have m := mt_program D h adM caM I F hR adK adV tq y1.toInt (rng_toInt y1) (fun (r : Int) (c0 : (Int → Int)) (c1 : (Int → Int)) (c2 : (Int → Int)) (c3 : (Int → Int)) (c4 : Int) (c5 : Int) (c6 : Int) (c7 : Int) (c8 : Int) (c9 : Int) (c10 : Int) (c11 : Int) (c12 : Int) (c13 : Int) (c14 : Int) (c15 : Int) (c16 : Int) (c17 : Int) (c18 : Int) (c19 : Int) (c20 : Int) (c21 : Int) => PR r (sI (sI (sI (sI (sI (sI (sI (sI (sI (sI (sI (sI (sI (sI (sI (sI (sI (sI I 4 c4) 5 c5) 7 c6) 8 c7) 9 c8) 10 c9) 11 c10) 12 c11) 13 c12) 14 c13) 15 c14) 16 c15) 17 c16) 18 c17) 19 c18) 20 c19) 21 c20) 22 c21) (sF (sF (sF (sF F 0 c0) 1 c1) 2 c2) 3 c3)) hm l sz
    rw [← zI_back y1] at m
    refine m.mono (fun _ _ h => h) (fun a st o t _ hq => ?_) (fun _ h => h)
    obtain ⟨⟨r, u, ho, ⟨⟨x, hx, gx, hK⟩, hr1⟩, hB⟩, hF⟩ := hq
    exact ⟨⟨r, ((sI (sI (sI (sI (sI (sI (sI (sI (sI (sI (sI (sI (sI (sI (sI (sI (sI (sI I 4 u.2.2.2.2.1) 5 u.2.2.2.2.2.1) 7 u.2.2.2.2.2.2.1) 8 u.2.2.2.2.2.2.2.1) 9 u.2.2.2.2.2.2.2.2.1) 10 u.2.2.2.2.2.2.2.2.2.1) 11 u.2.2.2.2.2.2.2.2.2.2.1) 12 u.2.2.2.2.2.2.2.2.2.2.2.1) 13 u.2.2.2.2.2.2.2.2.2.2.2.2.1) 14 u.2.2.2.2.2.2.2.2.2.2.2.2.2.1) 15 u.2.2.2.2.2.2.2.2.2.2.2.2.2.2.1) 16 u.2.2.2.2.2.2.2.2.2.2.2.2.2.2.2.1) 17 u.2.2.2.2.2.2.2.2.2.2.2.2.2.2.2.2.1) 18 u.2.2.2.2.2.2.2.2.2.2.2.2.2.2.2.2.2.1) 19 u.2.2.2.2.2.2.2.2.2.2.2.2.2.2.2.2.2.2.1) 20 u.2.2.2.2.2.2.2.2.2.2.2.2.2.2.2.2.2.2.2.1) 21 u.2.2.2.2.2.2.2.2.2.2.2.2.2.2.2.2.2.2.2.2.1) 22 u.2.2.2.2.2.2.2.2.2.2.2.2.2.2.2.2.2.2.2.2.2), (sF (sF (sF (sF F 0 u.1) 1 u.2.1) 2 u.2.2.1) 3 u.2.2.2.1)), ho, ⟨⟨x, hx, hK⟩, trivial, hr1⟩, hB⟩, hF⟩
  · rintro r r' c' I' F' ⟨x, u, hx, hP, rfl, gu⟩ ⟨x', hx', hP'⟩
    obtain ⟨e, LX', RX', hT'⟩ := hrel _ _ _ _ _ hP hP'
    exact ⟨by rw [hx, hx', e], rf, u, LX', RX', rfl, gu, hrf, hT'⟩
set_option maxHeartbeats 4000000 in
set_option maxRecDepth 100000 in
theorem b_rule (hB : RelX ad ca cel I F) (hR : rngS I F) : ∃ (Q : Int32 → (Nat → Cl) → Prop) (R : Int32 → (Nat → Int) → (Nat → Int → Int) → Prop), (∀ (l : Launch) (D : va_G) (adK adV : Nat → Nat) (tq : Nat) (sz : Nat), Met l yX11_rule (Cond.code yX11_rule cX11_rule 2 (some .int) :: gG) { frames := 9, cells := 0, slots := 0, locals := 386 } (cPS RX10 ixT adK adV tq D (tC ca) (wN NC cel) sz [.ref (ad 0)]) (va_Qi (fun (r : Int32) (c' : Nat → Cl) => Q r c') (fun c' t => cB D (va_A (wN NC cel) sz) [] (wN NC c') t) (va_A (wN NC cel) sz)) 0 0 (va_A (wN NC cel) sz)) ∧ (∀ (l : Launch) (D : va_G) (adK adV : Nat → Nat) (tq : Nat) (h : Nat) (adM : Nat → Nat) (caM : Nat → ClassId) (sz : Nat), Met l yX12_rule (Cond.code yX12_rule cX12_rule 4 (some .int) :: gG) { frames := 112, cells := 0, slots := 0, locals := 2670 } (cPS RX12 ixM adK adV tq D (tM caM) (wM h adM caM I F) sz [.ref h]) (va_Qi (fun (r : Int32) (u : (Nat → Int) × (Nat → Int → Int)) => R r u.1 u.2 ∧ MInv u.1 u.2 ∧ rngS u.1 u.2) (fun u t => cB D (va_A (wM h adM caM I F) sz) [] (wM h adM caM u.1 u.2) t) (va_A (wM h adM caM I F) sz)) 0 0 (va_A (wM h adM caM I F) sz)) ∧ ∀ r r' c' I' F', Q r c' → R r' I' F' → r = r' ∧ RelX ad ca c' I' F' := by
  obtain ⟨rf, σ, LX, RX, hW, g, hrf, hT⟩ := hB
  obtain ⟨PC, PR, hc, hm, hrel⟩ := p_rule  hT
  refine ⟨(fun r c' => ∃ (x : Int) (u : Sg), r = zI x ∧ PC x u ∧ c' = cK ad ca rf u ∧ rngK u), (fun r I' F' => ∃ x : Int, r = zI x ∧ PR x I' F'), ?_, ?_, ?_⟩
  · intro l D adK adV tq sz
    rw [hW]
    have m := mk_S_rule D ad ca rf σ g hrf adK adV tq   PC hc l sz
    exact met_clx m
  · intro l D adK adV tq h adM caM sz
    have m := mt_rule D h adM caM I F hR adK adV tq   (fun (r : Int) (c0 : (Int → Int)) (c1 : Int) (c2 : Int) (c3 : Int) (c4 : Int) (c5 : Int) (c6 : Int) (c7 : Int) (c8 : Int) (c9 : Int) (c10 : Int) (c11 : Int) (c12 : Int) (c13 : Int) (c14 : Int) (c15 : Int) (c16 : Int) (c17 : Int) (c18 : Int) (c19 : (Int → Int)) (c20 : (Int → Int)) (c21 : (Int → Int)) (c22 : (Int → Int)) => PR r (sI (sI (sI (sI (sI (sI (sI (sI (sI (sI (sI (sI (sI (sI (sI (sI (sI (sI I 5 c1) 7 c2) 8 c3) 9 c4) 10 c5) 11 c6) 12 c7) 13 c8) 14 c9) 15 c10) 16 c11) 17 c12) 18 c13) 19 c14) 20 c15) 21 c16) 22 c17) 23 c18) (sF (sF (sF (sF (sF F 3 c0) 24 c19) 25 c20) 26 c21) 27 c22)) hm l sz
    refine m.mono (fun _ _ h => h) (fun a st o t _ hq => ?_) (fun _ h => h)
    obtain ⟨⟨r, u, ho, ⟨⟨x, hx, gx, hK⟩, hr1⟩, hB⟩, hF⟩ := hq
    exact ⟨⟨r, ((sI (sI (sI (sI (sI (sI (sI (sI (sI (sI (sI (sI (sI (sI (sI (sI (sI (sI I 5 u.2.1) 7 u.2.2.1) 8 u.2.2.2.1) 9 u.2.2.2.2.1) 10 u.2.2.2.2.2.1) 11 u.2.2.2.2.2.2.1) 12 u.2.2.2.2.2.2.2.1) 13 u.2.2.2.2.2.2.2.2.1) 14 u.2.2.2.2.2.2.2.2.2.1) 15 u.2.2.2.2.2.2.2.2.2.2.1) 16 u.2.2.2.2.2.2.2.2.2.2.2.1) 17 u.2.2.2.2.2.2.2.2.2.2.2.2.1) 18 u.2.2.2.2.2.2.2.2.2.2.2.2.2.1) 19 u.2.2.2.2.2.2.2.2.2.2.2.2.2.2.1) 20 u.2.2.2.2.2.2.2.2.2.2.2.2.2.2.2.1) 21 u.2.2.2.2.2.2.2.2.2.2.2.2.2.2.2.2.1) 22 u.2.2.2.2.2.2.2.2.2.2.2.2.2.2.2.2.2.1) 23 u.2.2.2.2.2.2.2.2.2.2.2.2.2.2.2.2.2.2.1), (sF (sF (sF (sF (sF F 3 u.1) 24 u.2.2.2.2.2.2.2.2.2.2.2.2.2.2.2.2.2.2.2.1) 25 u.2.2.2.2.2.2.2.2.2.2.2.2.2.2.2.2.2.2.2.2.1) 26 u.2.2.2.2.2.2.2.2.2.2.2.2.2.2.2.2.2.2.2.2.2.1) 27 u.2.2.2.2.2.2.2.2.2.2.2.2.2.2.2.2.2.2.2.2.2.2)), ho, ⟨⟨x, hx, hK⟩, trivial, hr1⟩, hB⟩, hF⟩
  · rintro r r' c' I' F' ⟨x, u, hx, hP, rfl, gu⟩ ⟨x', hx', hP'⟩
    obtain ⟨e, LX', RX', hT'⟩ := hrel _ _ _ _ _ hP hP'
    exact ⟨by rw [hx, hx', e], rf, u, LX', RX', rfl, gu, hrf, hT'⟩
set_option maxHeartbeats 4000000 in
set_option maxRecDepth 100000 in
theorem b_fault (hB : RelX ad ca cel I F) (hR : rngS I F) (y1 : Int32) : ∃ r0 : Int, (∀ (l : Launch) (D : va_G) (sz : Nat), Met l yX11_fault (Cond.code yX11_fault cX11_fault 2 (some .int) :: gG) { frames := 1, cells := 0, slots := 0, locals := 64 } (cPre D (tC ca) (wN NC cel) sz [.ref (ad 0), .int y1]) (vp_Si (fun r => r = zI r0)) 0 0 (fun _ => False)) ∧ ∀ (l : Launch) (D : va_G) (h : Nat) (adM : Nat → Nat) (caM : Nat → ClassId) (sz : Nat), Met l yX12_fault (Cond.code yX12_fault cX12_fault 2 (some .int) :: gG) { frames := 1, cells := 0, slots := 0, locals := 64 } (cPre D (tM caM) (wM h adM caM I F) sz [.ref h, .int y1]) (vp_Si (fun r => r = zI r0)) 0 0 (fun _ => False) := by
  obtain ⟨rf, σ, LX, RX, hW, g, hrf, hT⟩ := hB
  obtain ⟨r0, hc, hm⟩ := p_fault (x0 := y1.toInt) hT
  refine ⟨r0, ?_, ?_⟩
  · intro l D sz
    rw [hW]
    have m := mk_S_fault D ad ca rf σ g hrf y1.toInt (rng_toInt y1) (fun x => x = r0) hc l sz
    rw [← zI_back y1] at m
    refine m.mono (fun _ _ h => h) (fun a st o t _ hq => ?_) (fun _ h => h)
    obtain ⟨r, ho, ⟨x, hx, gx, e⟩, hh⟩ := hq
    exact ⟨r, ho, by rw [hx, e], hh⟩
  · intro l D h adM caM sz
    have m := mt_fault D h adM caM I F hR y1.toInt (rng_toInt y1) (fun x => x = r0) hm l sz
    rw [← zI_back y1] at m
    refine m.mono (fun _ _ h => h) (fun a st o t _ hq => ?_) (fun _ h => h)
    obtain ⟨r, ho, ⟨x, hx, gx, e⟩, hh⟩ := hq
    exact ⟨r, ho, by rw [hx, e], hh⟩
set_option maxHeartbeats 4000000 in
set_option maxRecDepth 100000 in
theorem b_at (hB : RelX ad ca cel I F) (hR : rngS I F) (y1 y2 : Int32) : ∃ r0 : Int, (∀ (l : Launch) (D : va_G) (sz : Nat), Met l yX11_at (Cond.code yX11_at cX11_at 4 (some .int) :: gG) { frames := 2, cells := 0, slots := 0, locals := 85 } (cPre D (tC ca) (wN NC cel) sz [.ref (ad 0), .int y1, .int y2]) (vp_Si (fun r => r = zI r0)) 0 0 (fun _ => False)) ∧ ∀ (l : Launch) (D : va_G) (h : Nat) (adM : Nat → Nat) (caM : Nat → ClassId) (sz : Nat), Met l yX12_at (Cond.code yX12_at cX12_at 3 (some .int) :: gG) { frames := 3, cells := 0, slots := 0, locals := 106 } (cPre D (tM caM) (wM h adM caM I F) sz [.ref h, .int y1, .int y2]) (vp_Si (fun r => r = zI r0)) 0 0 (fun _ => False) := by
  obtain ⟨rf, σ, LX, RX, hW, g, hrf, hT⟩ := hB
  obtain ⟨r0, hc, hm⟩ := p_at (x0 := y1.toInt) (x1 := y2.toInt) hT
  refine ⟨r0, ?_, ?_⟩
  · intro l D sz
    rw [hW]
    have m := mk_S_at D ad ca rf σ g hrf y1.toInt y2.toInt (rng_toInt y1) (rng_toInt y2) (fun x => x = r0) hc l sz
    rw [← zI_back y1, ← zI_back y2] at m
    refine m.mono (fun _ _ h => h) (fun a st o t _ hq => ?_) (fun _ h => h)
    obtain ⟨r, ho, ⟨x, hx, gx, e⟩, hh⟩ := hq
    exact ⟨r, ho, by rw [hx, e], hh⟩
  · intro l D h adM caM sz
    have m := mt_at D h adM caM I F hR y1.toInt y2.toInt (rng_toInt y1) (rng_toInt y2) (fun x => x = r0) hm l sz
    rw [← zI_back y1, ← zI_back y2] at m
    refine m.mono (fun _ _ h => h) (fun a st o t _ hq => ?_) (fun _ h => h)
    obtain ⟨r, ho, ⟨x, hx, gx, e⟩, hh⟩ := hq
    exact ⟨r, ho, by rw [hx, e], hh⟩
set_option maxHeartbeats 4000000 in
set_option maxRecDepth 100000 in
theorem b_size (hB : RelX ad ca cel I F) (hR : rngS I F) (y1 y2 : Int32) : ∃ (Q : Int32 → (Nat → Cl) → Prop) (R : Int32 → (Nat → Int) → (Nat → Int → Int) → Prop), (∀ (l : Launch) (D : va_G) (sz : Nat), Met l yX11_size (Cond.code yX11_size cX11_size 4 (some .int) :: gG) { frames := 5, cells := 0, slots := 0, locals := 152 } (cPre D (tC ca) (wN NC cel) sz [.ref (ad 0), .int y1, .int y2]) (va_Qi (fun (r : Int32) (c' : Nat → Cl) => Q r c') (fun c' t => cB D (va_A (wN NC cel) sz) [] (wN NC c') t) (va_A (wN NC cel) sz)) 0 0 (va_A (wN NC cel) sz)) ∧ (∀ (l : Launch) (D : va_G) (h : Nat) (adM : Nat → Nat) (caM : Nat → ClassId) (sz : Nat), Met l yX12_size (Cond.code yX12_size cX12_size 3 (some .int) :: gG) { frames := 710, cells := 0, slots := 0, locals := 15614 } (cPre D (tM caM) (wM h adM caM I F) sz [.ref h, .int y1, .int y2]) (va_Qi (fun (r : Int32) (u : (Nat → Int) × (Nat → Int → Int)) => R r u.1 u.2 ∧ MInv u.1 u.2 ∧ rngS u.1 u.2) (fun u t => cB D (va_A (wM h adM caM I F) sz) [] (wM h adM caM u.1 u.2) t) (va_A (wM h adM caM I F) sz)) 0 0 (va_A (wM h adM caM I F) sz)) ∧ ∀ r r' c' I' F', Q r c' → R r' I' F' → r = r' ∧ RelX ad ca c' I' F' := by
  obtain ⟨rf, σ, LX, RX, hW, g, hrf, hT⟩ := hB
  obtain ⟨PC, PR, hc, hm, hrel⟩ := p_size (x0 := y1.toInt) (x1 := y2.toInt) hT
  refine ⟨(fun r c' => ∃ (x : Int) (u : Sg), r = zI x ∧ PC x u ∧ c' = cK ad ca rf u ∧ rngK u), (fun r I' F' => ∃ x : Int, r = zI x ∧ PR x I' F'), ?_, ?_, ?_⟩
  · intro l D sz
    rw [hW]
    have m := mk_S_size D ad ca rf σ g hrf y1.toInt y2.toInt (rng_toInt y1) (rng_toInt y2) PC hc l sz
    rw [← zI_back y1, ← zI_back y2] at m
    exact met_clx m
  · intro l D h adM caM sz
    have m := mt_size D h adM caM I F hR y1.toInt y2.toInt (rng_toInt y1) (rng_toInt y2) (fun (r : Int) (c0 : (Int → Int)) (c1 : Int) => PR r (sI I 4 c1) (sF F 2 c0)) hm l sz
    rw [← zI_back y1, ← zI_back y2] at m
    refine m.mono (fun _ _ h => h) (fun a st o t _ hq => ?_) (fun _ h => h)
    obtain ⟨⟨r, u, ho, ⟨⟨x, hx, gx, hK⟩, hr1⟩, hB⟩, hF⟩ := hq
    exact ⟨⟨r, ((sI I 4 u.2), (sF F 2 u.1)), ho, ⟨⟨x, hx, hK⟩, trivial, hr1⟩, hB⟩, hF⟩
  · rintro r r' c' I' F' ⟨x, u, hx, hP, rfl, gu⟩ ⟨x', hx', hP'⟩
    obtain ⟨e, LX', RX', hT'⟩ := hrel _ _ _ _ _ hP hP'
    exact ⟨by rw [hx, hx', e], rf, u, LX', RX', rfl, gu, hrf, hT'⟩
set_option maxHeartbeats 4000000 in
set_option maxRecDepth 100000 in
theorem b_run (hB : RelX ad ca cel I F) (hR : rngS I F) (y1 y2 y3 y4 : Int32) : ∃ (Q : Int32 → (Nat → Cl) → Prop) (R : Int32 → (Nat → Int) → (Nat → Int → Int) → Prop), (∀ (l : Launch) (D : va_G) (sz : Nat), Met l yX11_run (Cond.code yX11_run cX11_run 6 (some .int) :: gG) { frames := 5, cells := 0, slots := 0, locals := 170 } (cPre D (tC ca) (wN NC cel) sz [.ref (ad 0), .int y1, .int y2, .int y3, .int y4]) (va_Qi (fun (r : Int32) (c' : Nat → Cl) => Q r c') (fun c' t => cB D (va_A (wN NC cel) sz) [] (wN NC c') t) (va_A (wN NC cel) sz)) 0 0 (va_A (wN NC cel) sz)) ∧ (∀ (l : Launch) (D : va_G) (h : Nat) (adM : Nat → Nat) (caM : Nat → ClassId) (sz : Nat), Met l yX12_run (Cond.code yX12_run cX12_run 5 (some .int) :: gG) { frames := 711, cells := 0, slots := 0, locals := 15337 } (cPre D (tM caM) (wM h adM caM I F) sz [.ref h, .int y1, .int y2, .int y3, .int y4]) (va_Qi (fun (r : Int32) (u : (Nat → Int) × (Nat → Int → Int)) => R r u.1 u.2 ∧ MInv u.1 u.2 ∧ rngS u.1 u.2) (fun u t => cB D (va_A (wM h adM caM I F) sz) [] (wM h adM caM u.1 u.2) t) (va_A (wM h adM caM I F) sz)) 0 0 (va_A (wM h adM caM I F) sz)) ∧ ∀ r r' c' I' F', Q r c' → R r' I' F' → r = r' ∧ RelX ad ca c' I' F' := by
  obtain ⟨rf, σ, LX, RX, hW, g, hrf, hT⟩ := hB
  obtain ⟨PC, PR, hc, hm, hrel⟩ := p_run (x0 := y1.toInt) (x1 := y2.toInt) (x2 := y3.toInt) (x3 := y4.toInt) hT (rng_toInt y4)
  refine ⟨(fun r c' => ∃ (x : Int) (u : Sg), r = zI x ∧ PC x u ∧ c' = cK ad ca rf u ∧ rngK u), (fun r I' F' => ∃ x : Int, r = zI x ∧ PR x I' F'), ?_, ?_, ?_⟩
  · intro l D sz
    rw [hW]
    have m := mk_S_run D ad ca rf σ g hrf y1.toInt y2.toInt y3.toInt y4.toInt (rng_toInt y1) (rng_toInt y2) (rng_toInt y3) (rng_toInt y4) PC hc l sz
    rw [← zI_back y1, ← zI_back y2, ← zI_back y3, ← zI_back y4] at m
    exact met_clx m
  · intro l D h adM caM sz
    have m := mt_run D h adM caM I F hR y1.toInt y2.toInt y3.toInt y4.toInt (rng_toInt y1) (rng_toInt y2) (rng_toInt y3) (rng_toInt y4) (fun (r : Int) (c0 : (Int → Int)) (c1 : Int) (c2 : (Int → Int)) (c3 : (Int → Int)) (c4 : Int) (c5 : Int) (c6 : Int) (c7 : Int) => PR r (sI (sI (sI (sI (sI I 4 c1) 30 c4) 31 c5) 32 c6) 33 c7) (sF (sF (sF F 2 c0) 28 c2) 29 c3)) hm l sz
    rw [← zI_back y1, ← zI_back y2, ← zI_back y3, ← zI_back y4] at m
    refine m.mono (fun _ _ h => h) (fun a st o t _ hq => ?_) (fun _ h => h)
    obtain ⟨⟨r, u, ho, ⟨⟨x, hx, gx, hK⟩, hr1⟩, hB⟩, hF⟩ := hq
    exact ⟨⟨r, ((sI (sI (sI (sI (sI I 4 u.2.1) 30 u.2.2.2.2.1) 31 u.2.2.2.2.2.1) 32 u.2.2.2.2.2.2.1) 33 u.2.2.2.2.2.2.2), (sF (sF (sF F 2 u.1) 28 u.2.2.1) 29 u.2.2.2.1)), ho, ⟨⟨x, hx, hK⟩, trivial, hr1⟩, hB⟩, hF⟩
  · rintro r r' c' I' F' ⟨x, u, hx, hP, rfl, gu⟩ ⟨x', hx', hP'⟩
    obtain ⟨e, LX', RX', hT'⟩ := hrel _ _ _ _ _ hP hP'
    exact ⟨by rw [hx, hx', e], rf, u, LX', RX', rfl, gu, hrf, hT'⟩
set_option maxHeartbeats 4000000 in
set_option maxRecDepth 100000 in
theorem b_judge (hB : RelX ad ca cel I F) (hR : rngS I F) (y1 y2 y3 : Int32) : ∃ (Q : Int32 → (Nat → Cl) → Prop) (R : Int32 → (Nat → Int) → (Nat → Int → Int) → Prop), (∀ (l : Launch) (D : va_G) (sz : Nat), Met l yX11_judge (Cond.code yX11_judge cX11_judge 7 (some .int) :: gG) { frames := 6, cells := 0, slots := 0, locals := 198 } (cPre D (tC ca) (wN NC cel) sz [.ref (ad 0), .int y1, .int y2, .int y3]) (va_Qi (fun (r : Int32) (c' : Nat → Cl) => Q r c') (fun c' t => cB D (va_A (wN NC cel) sz) [] (wN NC c') t) (va_A (wN NC cel) sz)) 0 0 (va_A (wN NC cel) sz)) ∧ (∀ (l : Launch) (D : va_G) (h : Nat) (adM : Nat → Nat) (caM : Nat → ClassId) (sz : Nat), Met l yX12_judge (Cond.code yX12_judge cX12_judge 4 (some .int) :: gG) { frames := 712, cells := 0, slots := 0, locals := 15361 } (cPre D (tM caM) (wM h adM caM I F) sz [.ref h, .int y1, .int y2, .int y3]) (va_Qi (fun (r : Int32) (u : (Nat → Int) × (Nat → Int → Int)) => R r u.1 u.2 ∧ MInv u.1 u.2 ∧ rngS u.1 u.2) (fun u t => cB D (va_A (wM h adM caM I F) sz) [] (wM h adM caM u.1 u.2) t) (va_A (wM h adM caM I F) sz)) 0 0 (va_A (wM h adM caM I F) sz)) ∧ ∀ r r' c' I' F', Q r c' → R r' I' F' → r = r' ∧ RelX ad ca c' I' F' := by
  obtain ⟨rf, σ, LX, RX, hW, g, hrf, hT⟩ := hB
  obtain ⟨PC, PR, hc, hm, hrel⟩ := p_judge (x0 := y1.toInt) (x1 := y2.toInt) (x2 := y3.toInt) hT
  refine ⟨(fun r c' => ∃ (x : Int) (u : Sg), r = zI x ∧ PC x u ∧ c' = cK ad ca rf u ∧ rngK u), (fun r I' F' => ∃ x : Int, r = zI x ∧ PR x I' F'), ?_, ?_, ?_⟩
  · intro l D sz
    rw [hW]
    have m := mk_S_judge D ad ca rf σ g hrf y1.toInt y2.toInt y3.toInt (rng_toInt y1) (rng_toInt y2) (rng_toInt y3) PC hc l sz
    rw [← zI_back y1, ← zI_back y2, ← zI_back y3] at m
    exact met_clx m
  · intro l D h adM caM sz
    have m := mt_judge D h adM caM I F hR y1.toInt y2.toInt y3.toInt (rng_toInt y1) (rng_toInt y2) (rng_toInt y3) (fun (r : Int) (c0 : (Int → Int)) (c1 : Int) (c2 : (Int → Int)) (c3 : (Int → Int)) (c4 : Int) (c5 : Int) (c6 : Int) (c7 : Int) (c8 : (Int → Int)) (c9 : (Int → Int)) (c10 : (Int → Int)) (c11 : Int) (c12 : Int) (c13 : Int) (c14 : Int) => PR r (sI (sI (sI (sI (sI (sI (sI (sI (sI I 4 c1) 30 c4) 31 c5) 32 c6) 33 c7) 37 c11) 38 c12) 39 c13) 40 c14) (sF (sF (sF (sF (sF (sF F 2 c0) 28 c2) 29 c3) 34 c8) 35 c9) 36 c10)) hm l sz
    rw [← zI_back y1, ← zI_back y2, ← zI_back y3] at m
    refine m.mono (fun _ _ h => h) (fun a st o t _ hq => ?_) (fun _ h => h)
    obtain ⟨⟨r, u, ho, ⟨⟨x, hx, gx, hK⟩, hr1⟩, hB⟩, hF⟩ := hq
    exact ⟨⟨r, ((sI (sI (sI (sI (sI (sI (sI (sI (sI I 4 u.2.1) 30 u.2.2.2.2.1) 31 u.2.2.2.2.2.1) 32 u.2.2.2.2.2.2.1) 33 u.2.2.2.2.2.2.2.1) 37 u.2.2.2.2.2.2.2.2.2.2.2.1) 38 u.2.2.2.2.2.2.2.2.2.2.2.2.1) 39 u.2.2.2.2.2.2.2.2.2.2.2.2.2.1) 40 u.2.2.2.2.2.2.2.2.2.2.2.2.2.2), (sF (sF (sF (sF (sF (sF F 2 u.1) 28 u.2.2.1) 29 u.2.2.2.1) 34 u.2.2.2.2.2.2.2.2.1) 35 u.2.2.2.2.2.2.2.2.2.1) 36 u.2.2.2.2.2.2.2.2.2.2.1)), ho, ⟨⟨x, hx, hK⟩, trivial, hr1⟩, hB⟩, hF⟩
  · rintro r r' c' I' F' ⟨x, u, hx, hP, rfl, gu⟩ ⟨x', hx', hP'⟩
    obtain ⟨e, LX', RX', hT'⟩ := hrel _ _ _ _ _ hP hP'
    exact ⟨by rw [hx, hx', e], rf, u, LX', RX', rfl, gu, hrf, hT'⟩
set_option maxHeartbeats 4000000 in
set_option maxRecDepth 100000 in
theorem b_ruleOf (hB : RelX ad ca cel I F) (hR : rngS I F) (y1 y2 : Int32) : ∃ (Q : Int32 → (Nat → Cl) → Prop) (R : Int32 → (Nat → Int) → (Nat → Int → Int) → Prop), (∀ (l : Launch) (D : va_G) (sz : Nat), Met l yX11_ruleOf (Cond.code yX11_ruleOf cX11_ruleOf 4 (some .int) :: gG) { frames := 6, cells := 0, slots := 0, locals := 196 } (cPre D (tC ca) (wN NC cel) sz [.ref (ad 0), .int y1, .int y2]) (va_Qi (fun (r : Int32) (c' : Nat → Cl) => Q r c') (fun c' t => cB D (va_A (wN NC cel) sz) [] (wN NC c') t) (va_A (wN NC cel) sz)) 0 0 (va_A (wN NC cel) sz)) ∧ (∀ (l : Launch) (D : va_G) (h : Nat) (adM : Nat → Nat) (caM : Nat → ClassId) (sz : Nat), Met l yX12_ruleOf (Cond.code yX12_ruleOf cX12_ruleOf 8 (some .int) :: gG) { frames := 105, cells := 0, slots := 0, locals := 2575 } (cPre D (tM caM) (wM h adM caM I F) sz [.ref h, .int y1, .int y2]) (va_Qi (fun (r : Int32) (u : (Nat → Int) × (Nat → Int → Int)) => R r u.1 u.2 ∧ MInv u.1 u.2 ∧ rngS u.1 u.2) (fun u t => cB D (va_A (wM h adM caM I F) sz) [] (wM h adM caM u.1 u.2) t) (va_A (wM h adM caM I F) sz)) 0 0 (va_A (wM h adM caM I F) sz)) ∧ ∀ r r' c' I' F', Q r c' → R r' I' F' → RelX ad ca c' I' F' := by
  obtain ⟨rf, σ, LX, RX, hW, g, hrf, hT⟩ := hB
  obtain ⟨PC, PR, hc, hm, hrel⟩ := p_ruleOf (x0 := y1.toInt) (x1 := y2.toInt) hT
  refine ⟨(fun r c' => ∃ (x : Int) (u : Sg), r = zI x ∧ PC x u ∧ c' = cK ad ca rf u ∧ rngK u), (fun r I' F' => ∃ x : Int, r = zI x ∧ PR x I' F'), ?_, ?_, ?_⟩
  · intro l D sz
    rw [hW]
    have m := mk_S_ruleOf D ad ca rf σ g hrf y1.toInt y2.toInt (rng_toInt y1) (rng_toInt y2) PC hc l sz
    rw [← zI_back y1, ← zI_back y2] at m
    exact met_clx m
  · intro l D h adM caM sz
    have m := mt_ruleOf D h adM caM I F hR y1.toInt y2.toInt (rng_toInt y1) (rng_toInt y2) (fun (r : Int) (c0 : Int) (c1 : (Int → Int)) (c2 : (Int → Int)) (c3 : Int) (c4 : (Int → Int)) => PR r (sI (sI I 33 c0) 43 c3) (sF (sF (sF F 41 c1) 42 c2) 44 c4)) hm l sz
    rw [← zI_back y1, ← zI_back y2] at m
    refine m.mono (fun _ _ h => h) (fun a st o t _ hq => ?_) (fun _ h => h)
    obtain ⟨⟨r, u, ho, ⟨⟨x, hx, gx, hK⟩, hr1⟩, hB⟩, hF⟩ := hq
    exact ⟨⟨r, ((sI (sI I 33 u.1) 43 u.2.2.2.1), (sF (sF (sF F 41 u.2.1) 42 u.2.2.1) 44 u.2.2.2.2)), ho, ⟨⟨x, hx, hK⟩, trivial, hr1⟩, hB⟩, hF⟩
  · rintro r r' c' I' F' ⟨x, u, hx, hP, rfl, gu⟩ ⟨x', hx', hP'⟩
    obtain ⟨LX', RX', hT'⟩ := hrel _ _ _ _ _ hP hP'
    exact ⟨rf, u, LX', RX', rfl, gu, hrf, hT'⟩
set_option maxHeartbeats 4000000 in
set_option maxRecDepth 100000 in
theorem b_places (hB : RelX ad ca cel I F) (hR : rngS I F) (y1 y2 : Int32) : ∃ (Q : Int32 → (Nat → Cl) → Prop) (R : Int32 → (Nat → Int) → (Nat → Int → Int) → Prop), (∀ (l : Launch) (D : va_G) (sz : Nat), Met l yX11_places (Cond.code yX11_places cX11_places 5 (some .int) :: gG) { frames := 5, cells := 0, slots := 0, locals := 168 } (cPre D (tC ca) (wN NC cel) sz [.ref (ad 0), .int y1, .int y2]) (va_Qi (fun (r : Int32) (c' : Nat → Cl) => Q r c') (fun c' t => cB D (va_A (wN NC cel) sz) [] (wN NC c') t) (va_A (wN NC cel) sz)) 0 0 (va_A (wN NC cel) sz)) ∧ (∀ (l : Launch) (D : va_G) (h : Nat) (adM : Nat → Nat) (caM : Nat → ClassId) (sz : Nat), Met l yX12_places (Cond.code yX12_places cX12_places 5 (some .int) :: gG) { frames := 608, cells := 0, slots := 0, locals := 13159 } (cPre D (tM caM) (wM h adM caM I F) sz [.ref h, .int y1, .int y2]) (va_Qi (fun (r : Int32) (u : (Nat → Int) × (Nat → Int → Int)) => R r u.1 u.2 ∧ MInv u.1 u.2 ∧ rngS u.1 u.2) (fun u t => cB D (va_A (wM h adM caM I F) sz) [] (wM h adM caM u.1 u.2) t) (va_A (wM h adM caM I F) sz)) 0 0 (va_A (wM h adM caM I F) sz)) ∧ ∀ r r' c' I' F', Q r c' → R r' I' F' → r = r' ∧ RelX ad ca c' I' F' := by
  obtain ⟨rf, σ, LX, RX, hW, g, hrf, hT⟩ := hB
  obtain ⟨PC, PR, hc, hm, hrel⟩ := p_places (x0 := y1.toInt) (x1 := y2.toInt) hT
  refine ⟨(fun r c' => ∃ (x : Int) (u : Sg), r = zI x ∧ PC x u ∧ c' = cK ad ca rf u ∧ rngK u), (fun r I' F' => ∃ x : Int, r = zI x ∧ PR x I' F'), ?_, ?_, ?_⟩
  · intro l D sz
    rw [hW]
    have m := mk_S_places D ad ca rf σ g hrf y1.toInt y2.toInt (rng_toInt y1) (rng_toInt y2) PC hc l sz
    rw [← zI_back y1, ← zI_back y2] at m
    exact met_clx m
  · intro l D h adM caM sz
    have m := mt_places D h adM caM I F hR y1.toInt y2.toInt (rng_toInt y1) (rng_toInt y2) (fun (r : Int) (c0 : (Int → Int)) (c1 : Int) (c2 : (Int → Int)) (c3 : Int) => PR r (sI (sI I 4 c1) 46 c3) (sF (sF F 2 c0) 45 c2)) hm l sz
    rw [← zI_back y1, ← zI_back y2] at m
    refine m.mono (fun _ _ h => h) (fun a st o t _ hq => ?_) (fun _ h => h)
    obtain ⟨⟨r, u, ho, ⟨⟨x, hx, gx, hK⟩, hr1⟩, hB⟩, hF⟩ := hq
    exact ⟨⟨r, ((sI (sI I 4 u.2.1) 46 u.2.2.2), (sF (sF F 2 u.1) 45 u.2.2.1)), ho, ⟨⟨x, hx, hK⟩, trivial, hr1⟩, hB⟩, hF⟩
  · rintro r r' c' I' F' ⟨x, u, hx, hP, rfl, gu⟩ ⟨x', hx', hP'⟩
    obtain ⟨e, LX', RX', hT'⟩ := hrel _ _ _ _ _ hP hP'
    exact ⟨by rw [hx, hx', e], rf, u, LX', RX', rfl, gu, hrf, hT'⟩
set_option maxHeartbeats 4000000 in
set_option maxRecDepth 100000 in
theorem b_apply (hB : RelX ad ca cel I F) (hR : rngS I F) (y1 y2 y3 y4 : Int32) : ∃ (Q : Int32 → (Nat → Cl) → Prop) (R : Int32 → (Nat → Int) → (Nat → Int → Int) → Prop), (∀ (l : Launch) (D : va_G) (sz : Nat), Met l yX11_apply (Cond.code yX11_apply cX11_apply 9 (some .boolean) :: gG) { frames := 5, cells := 0, slots := 0, locals := 171 } (cPre D (tC ca) (wN NC cel) sz [.ref (ad 0), .int y1, .int y2, .int y3, .int y4]) (va_Qi (fun (r : Int32) (c' : Nat → Cl) => Q r c') (fun c' t => cB D (va_A (wN NC cel) sz) [] (wN NC c') t) (va_A (wN NC cel) sz)) 0 0 (va_A (wN NC cel) sz)) ∧ (∀ (l : Launch) (D : va_G) (h : Nat) (adM : Nat → Nat) (caM : Nat → ClassId) (sz : Nat), Met l yX12_apply (Cond.code yX12_apply cX12_apply 6 (some .boolean) :: gG) { frames := 609, cells := 0, slots := 0, locals := 13184 } (cPre D (tM caM) (wM h adM caM I F) sz [.ref h, .int y1, .int y2, .int y3, .int y4]) (va_Qi (fun (r : Int32) (u : (Nat → Int) × (Nat → Int → Int)) => R r u.1 u.2 ∧ MInv u.1 u.2 ∧ rngS u.1 u.2) (fun u t => cB D (va_A (wM h adM caM I F) sz) [] (wM h adM caM u.1 u.2) t) (va_A (wM h adM caM I F) sz)) 0 0 (va_A (wM h adM caM I F) sz)) ∧ ∀ r r' c' I' F', Q r c' → R r' I' F' → r = r' ∧ RelX ad ca c' I' F' := by
  obtain ⟨rf, σ, LX, RX, hW, g, hrf, hT⟩ := hB
  obtain ⟨PC, PR, hc, hm, hrel⟩ := p_apply (x0 := y1.toInt) (x1 := y2.toInt) (x2 := y3.toInt) (x3 := y4.toInt) hT
  refine ⟨(fun r c' => ∃ (x : Int) (u : Sg), r = zI x ∧ PC x u ∧ c' = cK ad ca rf u ∧ rngK u), (fun r I' F' => ∃ x : Int, r = zI x ∧ PR x I' F'), ?_, ?_, ?_⟩
  · intro l D sz
    rw [hW]
    have m := mk_S_apply D ad ca rf σ g hrf y1.toInt y2.toInt y3.toInt y4.toInt (rng_toInt y1) (rng_toInt y2) (rng_toInt y3) (rng_toInt y4) PC hc l sz
    rw [← zI_back y1, ← zI_back y2, ← zI_back y3, ← zI_back y4] at m
    exact met_clx m
  · intro l D h adM caM sz
    have m := mt_apply D h adM caM I F hR y1.toInt y2.toInt y3.toInt y4.toInt (rng_toInt y1) (rng_toInt y2) (rng_toInt y3) (rng_toInt y4) (fun (r : Int) (c0 : (Int → Int)) (c1 : (Int → Int)) (c2 : (Int → Int)) (c3 : (Int → Int)) (c4 : Int) (c5 : Int) (c6 : (Int → Int)) (c7 : Int) => PR r (sI (sI (sI I 4 c4) 5 c5) 46 c7) (sF (sF (sF (sF (sF F 0 c0) 1 c1) 2 c2) 3 c3) 45 c6)) hm l sz
    rw [← zI_back y1, ← zI_back y2, ← zI_back y3, ← zI_back y4] at m
    refine m.mono (fun _ _ h => h) (fun a st o t _ hq => ?_) (fun _ h => h)
    obtain ⟨⟨r, u, ho, ⟨⟨x, hx, gx, hK⟩, hr1⟩, hB⟩, hF⟩ := hq
    exact ⟨⟨r, ((sI (sI (sI I 4 u.2.2.2.2.1) 5 u.2.2.2.2.2.1) 46 u.2.2.2.2.2.2.2), (sF (sF (sF (sF (sF F 0 u.1) 1 u.2.1) 2 u.2.2.1) 3 u.2.2.2.1) 45 u.2.2.2.2.2.2.1)), ho, ⟨⟨x, hx, hK⟩, trivial, hr1⟩, hB⟩, hF⟩
  · rintro r r' c' I' F' ⟨x, u, hx, hP, rfl, gu⟩ ⟨x', hx', hP'⟩
    obtain ⟨e, LX', RX', hT'⟩ := hrel _ _ _ _ _ hP hP'
    exact ⟨by rw [hx, hx', e], rf, u, LX', RX', rfl, gu, hrf, hT'⟩
set_option maxHeartbeats 4000000 in
set_option maxRecDepth 100000 in
theorem b_item (hB : RelX ad ca cel I F) (hR : rngS I F) (y1 y2 : Int32) : ∃ (Q : Int32 → (Nat → Cl) → Prop) (R : Int32 → (Nat → Int) → (Nat → Int → Int) → Prop), (∀ (l : Launch) (D : va_G) (sz : Nat), Met l yX11_item (Cond.code yX11_item cX11_item 5 (some .int) :: gG) { frames := 3, cells := 0, slots := 0, locals := 106 } (cPre D (tC ca) (wN NC cel) sz [.ref (ad 0), .int y1, .int y2]) (va_Qi (fun (r : Int32) (c' : Nat → Cl) => Q r c') (fun c' t => cB D (va_A (wN NC cel) sz) [] (wN NC c') t) (va_A (wN NC cel) sz)) 0 0 (va_A (wN NC cel) sz)) ∧ (∀ (l : Launch) (D : va_G) (h : Nat) (adM : Nat → Nat) (caM : Nat → ClassId) (sz : Nat), Met l yX12_item (Cond.code yX12_item cX12_item 3 (some .int) :: gG) { frames := 3, cells := 0, slots := 0, locals := 106 } (cPre D (tM caM) (wM h adM caM I F) sz [.ref h, .int y1, .int y2]) (va_Qi (fun (r : Int32) (u : (Nat → Int) × (Nat → Int → Int)) => R r u.1 u.2 ∧ MInv u.1 u.2 ∧ rngS u.1 u.2) (fun u t => cB D (va_A (wM h adM caM I F) sz) [] (wM h adM caM u.1 u.2) t) (va_A (wM h adM caM I F) sz)) 0 0 (va_A (wM h adM caM I F) sz)) ∧ ∀ r r' c' I' F', Q r c' → R r' I' F' → r = r' ∧ RelX ad ca c' I' F' := by
  obtain ⟨rf, σ, LX, RX, hW, g, hrf, hT⟩ := hB
  obtain ⟨PC, PR, hc, hm, hrel⟩ := p_item (x0 := y1.toInt) (x1 := y2.toInt) hT
  refine ⟨(fun r c' => ∃ (x : Int) (u : Sg), r = zI x ∧ PC x u ∧ c' = cK ad ca rf u ∧ rngK u), (fun r I' F' => ∃ x : Int, r = zI x ∧ PR x I' F'), ?_, ?_, ?_⟩
  · intro l D sz
    rw [hW]
    have m := mk_S_item D ad ca rf σ g hrf y1.toInt y2.toInt (rng_toInt y1) (rng_toInt y2) PC hc l sz
    rw [← zI_back y1, ← zI_back y2] at m
    exact met_clx m
  · intro l D h adM caM sz
    have m := mt_item D h adM caM I F hR y1.toInt y2.toInt (rng_toInt y1) (rng_toInt y2) (fun (r : Int) (c0 : (Int → Int)) (c1 : (Int → Int)) => PR r I (sF (sF F 49 c0) 50 c1)) hm l sz
    rw [← zI_back y1, ← zI_back y2] at m
    refine m.mono (fun _ _ h => h) (fun a st o t _ hq => ?_) (fun _ h => h)
    obtain ⟨⟨r, u, ho, ⟨⟨x, hx, gx, hK⟩, hr1⟩, hB⟩, hF⟩ := hq
    exact ⟨⟨r, (I, (sF (sF F 49 u.1) 50 u.2)), ho, ⟨⟨x, hx, hK⟩, trivial, hr1⟩, hB⟩, hF⟩
  · rintro r r' c' I' F' ⟨x, u, hx, hP, rfl, gu⟩ ⟨x', hx', hP'⟩
    obtain ⟨e, LX', RX', hT'⟩ := hrel _ _ _ _ _ hP hP'
    exact ⟨by rw [hx, hx', e], rf, u, LX', RX', rfl, gu, hrf, hT'⟩
set_option maxHeartbeats 4000000 in
set_option maxRecDepth 100000 in
theorem b_clear (hB : RelX ad ca cel I F) (hR : rngS I F) (y1 : Int32) : ∃ (Q : Int32 → (Nat → Cl) → Prop) (R : Int32 → (Nat → Int) → (Nat → Int → Int) → Prop), (∀ (l : Launch) (D : va_G) (sz : Nat), Met l yX11_clear (Cond.code yX11_clear cX11_clear 2 (some .boolean) :: gG) { frames := 3, cells := 0, slots := 0, locals := 105 } (cPre D (tC ca) (wN NC cel) sz [.ref (ad 0), .int y1]) (va_Qi (fun (r : Int32) (c' : Nat → Cl) => Q r c') (fun c' t => cB D (va_A (wN NC cel) sz) [] (wN NC c') t) (va_A (wN NC cel) sz)) 0 0 (va_A (wN NC cel) sz)) ∧ (∀ (l : Launch) (D : va_G) (h : Nat) (adM : Nat → Nat) (caM : Nat → ClassId) (sz : Nat), Met l yX12_clear (Cond.code yX12_clear cX12_clear 2 (some .boolean) :: gG) { frames := 3, cells := 0, slots := 0, locals := 106 } (cPre D (tM caM) (wM h adM caM I F) sz [.ref h, .int y1]) (va_Qi (fun (r : Int32) (u : (Nat → Int) × (Nat → Int → Int)) => R r u.1 u.2 ∧ MInv u.1 u.2 ∧ rngS u.1 u.2) (fun u t => cB D (va_A (wM h adM caM I F) sz) [] (wM h adM caM u.1 u.2) t) (va_A (wM h adM caM I F) sz)) 0 0 (va_A (wM h adM caM I F) sz)) ∧ ∀ r r' c' I' F', Q r c' → R r' I' F' → r = r' ∧ RelX ad ca c' I' F' := by
  obtain ⟨rf, σ, LX, RX, hW, g, hrf, hT⟩ := hB
  obtain ⟨PC, PR, hc, hm, hrel⟩ := p_clear (x0 := y1.toInt) hT
  refine ⟨(fun r c' => ∃ (x : Int) (u : Sg), r = zI x ∧ PC x u ∧ c' = cK ad ca rf u ∧ rngK u), (fun r I' F' => ∃ x : Int, r = zI x ∧ PR x I' F'), ?_, ?_, ?_⟩
  · intro l D sz
    rw [hW]
    have m := mk_S_clear D ad ca rf σ g hrf y1.toInt (rng_toInt y1) PC hc l sz
    rw [← zI_back y1] at m
    exact met_clx m
  · intro l D h adM caM sz
    have m := mt_clear D h adM caM I F hR y1.toInt (rng_toInt y1) (fun (r : Int) (c0 : (Int → Int)) => PR r I (sF F 50 c0)) hm l sz
    rw [← zI_back y1] at m
    refine m.mono (fun _ _ h => h) (fun a st o t _ hq => ?_) (fun _ h => h)
    obtain ⟨⟨r, u, ho, ⟨⟨x, hx, gx, hK⟩, hr1⟩, hB⟩, hF⟩ := hq
    exact ⟨⟨r, (I, (sF F 50 u)), ho, ⟨⟨x, hx, hK⟩, trivial, hr1⟩, hB⟩, hF⟩
  · rintro r r' c' I' F' ⟨x, u, hx, hP, rfl, gu⟩ ⟨x', hx', hP'⟩
    obtain ⟨e, LX', RX', hT'⟩ := hrel _ _ _ _ _ hP hP'
    exact ⟨by rw [hx, hx', e], rf, u, LX', RX', rfl, gu, hrf, hT'⟩
set_option maxHeartbeats 4000000 in
set_option maxRecDepth 100000 in
theorem b_make (hB : RelX ad ca cel I F) (hR : rngS I F) (y1 y2 y3 : Int32) : ∃ (Q : Int32 → (Nat → Cl) → Prop) (R : Int32 → (Nat → Int) → (Nat → Int → Int) → Prop), (∀ (l : Launch) (D : va_G) (sz : Nat), Met l yX11_make (Cond.code yX11_make cX11_make 6 (some .int) :: gG) { frames := 7, cells := 0, slots := 0, locals := 218 } (cPre D (tC ca) (wN NC cel) sz [.ref (ad 0), .int y1, .int y2, .int y3]) (va_Qi (fun (r : Int32) (c' : Nat → Cl) => Q r c') (fun c' t => cB D (va_A (wN NC cel) sz) [] (wN NC c') t) (va_A (wN NC cel) sz)) 0 0 (va_A (wN NC cel) sz)) ∧ (∀ (l : Launch) (D : va_G) (h : Nat) (adM : Nat → Nat) (caM : Nat → ClassId) (sz : Nat), Met l yX12_make (Cond.code yX12_make cX12_make 4 (some .int) :: gG) { frames := 1109, cells := 0, slots := 0, locals := 25696 } (cPre D (tM caM) (wM h adM caM I F) sz [.ref h, .int y1, .int y2, .int y3]) (va_Qi (fun (r : Int32) (u : (Nat → Int) × (Nat → Int → Int)) => R r u.1 u.2 ∧ MInv u.1 u.2 ∧ rngS u.1 u.2) (fun u t => cB D (va_A (wM h adM caM I F) sz) [] (wM h adM caM u.1 u.2) t) (va_A (wM h adM caM I F) sz)) 0 0 (va_A (wM h adM caM I F) sz)) ∧ ∀ r r' c' I' F', Q r c' → R r' I' F' → r = r' ∧ RelX ad ca c' I' F' := by
  obtain ⟨rf, σ, LX, RX, hW, g, hrf, hT⟩ := hB
  obtain ⟨PC, PR, hc, hm, hrel⟩ := p_make (x0 := y1.toInt) (x1 := y2.toInt) (x2 := y3.toInt) hT
  refine ⟨(fun r c' => ∃ (x : Int) (u : Sg), r = zI x ∧ PC x u ∧ c' = cK ad ca rf u ∧ rngK u), (fun r I' F' => ∃ x : Int, r = zI x ∧ PR x I' F'), ?_, ?_, ?_⟩
  · intro l D sz
    rw [hW]
    have m := mk_S_make D ad ca rf σ g hrf y1.toInt y2.toInt y3.toInt (rng_toInt y1) (rng_toInt y2) (rng_toInt y3) PC hc l sz
    rw [← zI_back y1, ← zI_back y2, ← zI_back y3] at m
    exact met_clx m
  · intro l D h adM caM sz
    have m := mt_make D h adM caM I F hR y1.toInt y2.toInt y3.toInt (rng_toInt y1) (rng_toInt y2) (rng_toInt y3) (fun (r : Int) (c0 : (Int → Int)) (c1 : (Int → Int)) (c2 : (Int → Int)) (c3 : (Int → Int)) (c4 : Int) (c5 : Int) (c6 : (Int → Int)) (c7 : Int) (c8 : (Int → Int)) (c9 : Int) => PR r (sI (sI (sI (sI I 4 c4) 5 c5) 46 c7) 48 c9) (sF (sF (sF (sF (sF (sF F 0 c0) 1 c1) 2 c2) 3 c3) 45 c6) 47 c8)) hm l sz
    rw [← zI_back y1, ← zI_back y2, ← zI_back y3] at m
    refine m.mono (fun _ _ h => h) (fun a st o t _ hq => ?_) (fun _ h => h)
    obtain ⟨⟨r, u, ho, ⟨⟨x, hx, gx, hK⟩, hr1⟩, hB⟩, hF⟩ := hq
    exact ⟨⟨r, ((sI (sI (sI (sI I 4 u.2.2.2.2.1) 5 u.2.2.2.2.2.1) 46 u.2.2.2.2.2.2.2.1) 48 u.2.2.2.2.2.2.2.2.2), (sF (sF (sF (sF (sF (sF F 0 u.1) 1 u.2.1) 2 u.2.2.1) 3 u.2.2.2.1) 45 u.2.2.2.2.2.2.1) 47 u.2.2.2.2.2.2.2.2.1)), ho, ⟨⟨x, hx, hK⟩, trivial, hr1⟩, hB⟩, hF⟩
  · rintro r r' c' I' F' ⟨x, u, hx, hP, rfl, gu⟩ ⟨x', hx', hP'⟩
    obtain ⟨e, LX', RX', hT'⟩ := hrel _ _ _ _ _ hP hP'
    exact ⟨by rw [hx, hx', e], rf, u, LX', RX', rfl, gu, hrf, hT'⟩
set_option maxHeartbeats 4000000 in
set_option maxRecDepth 100000 in
theorem b_blame (hB : RelX ad ca cel I F) (hR : rngS I F) (y1 y2 : Int32) : ∃ (Q : Int32 → (Nat → Cl) → Prop) (R : Int32 → (Nat → Int) → (Nat → Int → Int) → Prop), (∀ (l : Launch) (D : va_G) (sz : Nat), Met l yX11_blame (Cond.code yX11_blame cX11_blame 4 (some .int) :: gG) { frames := 8, cells := 0, slots := 0, locals := 241 } (cPre D (tC ca) (wN NC cel) sz [.ref (ad 0), .int y1, .int y2]) (va_Qi (fun (r : Int32) (c' : Nat → Cl) => Q r c') (fun c' t => cB D (va_A (wN NC cel) sz) [] (wN NC c') t) (va_A (wN NC cel) sz)) 0 0 (va_A (wN NC cel) sz)) ∧ (∀ (l : Launch) (D : va_G) (h : Nat) (adM : Nat → Nat) (caM : Nat → ClassId) (sz : Nat), Met l yX12_blame (Cond.code yX12_blame cX12_blame 4 (some .int) :: gG) { frames := 1109, cells := 0, slots := 0, locals := 25696 } (cPre D (tM caM) (wM h adM caM I F) sz [.ref h, .int y1, .int y2]) (va_Qi (fun (r : Int32) (u : (Nat → Int) × (Nat → Int → Int)) => R r u.1 u.2 ∧ MInv u.1 u.2 ∧ rngS u.1 u.2) (fun u t => cB D (va_A (wM h adM caM I F) sz) [] (wM h adM caM u.1 u.2) t) (va_A (wM h adM caM I F) sz)) 0 0 (va_A (wM h adM caM I F) sz)) ∧ ∀ r r' c' I' F', Q r c' → R r' I' F' → r = r' ∧ RelX ad ca c' I' F' := by
  obtain ⟨rf, σ, LX, RX, hW, g, hrf, hT⟩ := hB
  obtain ⟨PC, PR, hc, hm, hrel⟩ := p_blame (x0 := y1.toInt) (x1 := y2.toInt) hT
  refine ⟨(fun r c' => ∃ (x : Int) (u : Sg), r = zI x ∧ PC x u ∧ c' = cK ad ca rf u ∧ rngK u), (fun r I' F' => ∃ x : Int, r = zI x ∧ PR x I' F'), ?_, ?_, ?_⟩
  · intro l D sz
    rw [hW]
    have m := mk_S_blame D ad ca rf σ g hrf y1.toInt y2.toInt (rng_toInt y1) (rng_toInt y2) PC hc l sz
    rw [← zI_back y1, ← zI_back y2] at m
    exact met_clx m
  · intro l D h adM caM sz
    have m := mt_blame D h adM caM I F hR y1.toInt y2.toInt (rng_toInt y1) (rng_toInt y2) (fun (r : Int) (c0 : (Int → Int)) (c1 : (Int → Int)) (c2 : Int) (c3 : Int) (c4 : (Int → Int)) (c5 : (Int → Int)) (c6 : Int) (c7 : Int) (c8 : Int) (c9 : Int) (c10 : (Int → Int)) (c11 : (Int → Int)) (c12 : (Int → Int)) (c13 : Int) (c14 : Int) (c15 : Int) (c16 : Int) (c17 : (Int → Int)) (c18 : Int) (c19 : (Int → Int)) (c20 : Int) => PR r (sI (sI (sI (sI (sI (sI (sI (sI (sI (sI (sI (sI I 4 c2) 5 c3) 30 c6) 31 c7) 32 c8) 33 c9) 37 c13) 38 c14) 39 c15) 40 c16) 46 c18) 48 c20) (sF (sF (sF (sF (sF (sF (sF (sF (sF F 2 c0) 3 c1) 28 c4) 29 c5) 34 c10) 35 c11) 36 c12) 45 c17) 47 c19)) hm l sz
    rw [← zI_back y1, ← zI_back y2] at m
    refine m.mono (fun _ _ h => h) (fun a st o t _ hq => ?_) (fun _ h => h)
    obtain ⟨⟨r, u, ho, ⟨⟨x, hx, gx, hK⟩, hr1⟩, hB⟩, hF⟩ := hq
    exact ⟨⟨r, ((sI (sI (sI (sI (sI (sI (sI (sI (sI (sI (sI (sI I 4 u.2.2.1) 5 u.2.2.2.1) 30 u.2.2.2.2.2.2.1) 31 u.2.2.2.2.2.2.2.1) 32 u.2.2.2.2.2.2.2.2.1) 33 u.2.2.2.2.2.2.2.2.2.1) 37 u.2.2.2.2.2.2.2.2.2.2.2.2.2.1) 38 u.2.2.2.2.2.2.2.2.2.2.2.2.2.2.1) 39 u.2.2.2.2.2.2.2.2.2.2.2.2.2.2.2.1) 40 u.2.2.2.2.2.2.2.2.2.2.2.2.2.2.2.2.1) 46 u.2.2.2.2.2.2.2.2.2.2.2.2.2.2.2.2.2.2.1) 48 u.2.2.2.2.2.2.2.2.2.2.2.2.2.2.2.2.2.2.2.2), (sF (sF (sF (sF (sF (sF (sF (sF (sF F 2 u.1) 3 u.2.1) 28 u.2.2.2.2.1) 29 u.2.2.2.2.2.1) 34 u.2.2.2.2.2.2.2.2.2.2.1) 35 u.2.2.2.2.2.2.2.2.2.2.2.1) 36 u.2.2.2.2.2.2.2.2.2.2.2.2.1) 45 u.2.2.2.2.2.2.2.2.2.2.2.2.2.2.2.2.2.1) 47 u.2.2.2.2.2.2.2.2.2.2.2.2.2.2.2.2.2.2.2.1)), ho, ⟨⟨x, hx, hK⟩, trivial, hr1⟩, hB⟩, hF⟩
  · rintro r r' c' I' F' ⟨x, u, hx, hP, rfl, gu⟩ ⟨x', hx', hP'⟩
    obtain ⟨e, LX', RX', hT'⟩ := hrel _ _ _ _ _ hP hP'
    exact ⟨by rw [hx, hx', e], rf, u, LX', RX', rfl, gu, hrf, hT'⟩
set_option maxHeartbeats 4000000 in
set_option maxRecDepth 100000 in
theorem b_cut (hB : RelX ad ca cel I F) (hR : rngS I F) (y1 y2 y3 : Int32) : ∃ (Q : Int32 → (Nat → Cl) → Prop) (R : Int32 → (Nat → Int) → (Nat → Int → Int) → Prop), (∀ (l : Launch) (D : va_G) (sz : Nat), Met l yX11_cut (Cond.code yX11_cut cX11_cut 6 (some .int) :: gG) { frames := 8, cells := 0, slots := 0, locals := 245 } (cPre D (tC ca) (wN NC cel) sz [.ref (ad 0), .int y1, .int y2, .int y3]) (va_Qi (fun (r : Int32) (c' : Nat → Cl) => Q r c') (fun c' t => cB D (va_A (wN NC cel) sz) [] (wN NC c') t) (va_A (wN NC cel) sz)) 0 0 (va_A (wN NC cel) sz)) ∧ (∀ (l : Launch) (D : va_G) (h : Nat) (adM : Nat → Nat) (caM : Nat → ClassId) (sz : Nat), Met l yX12_cut (Cond.code yX12_cut cX12_cut 5 (some .int) :: gG) { frames := 1111, cells := 0, slots := 0, locals := 25741 } (cPre D (tM caM) (wM h adM caM I F) sz [.ref h, .int y1, .int y2, .int y3]) (va_Qi (fun (r : Int32) (u : (Nat → Int) × (Nat → Int → Int)) => R r u.1 u.2 ∧ MInv u.1 u.2 ∧ rngS u.1 u.2) (fun u t => cB D (va_A (wM h adM caM I F) sz) [] (wM h adM caM u.1 u.2) t) (va_A (wM h adM caM I F) sz)) 0 0 (va_A (wM h adM caM I F) sz)) ∧ ∀ r r' c' I' F', Q r c' → R r' I' F' → r = r' ∧ RelX ad ca c' I' F' := by
  obtain ⟨rf, σ, LX, RX, hW, g, hrf, hT⟩ := hB
  obtain ⟨PC, PR, hc, hm, hrel⟩ := p_cut (x0 := y1.toInt) (x1 := y2.toInt) (x2 := y3.toInt) hT
  refine ⟨(fun r c' => ∃ (x : Int) (u : Sg), r = zI x ∧ PC x u ∧ c' = cK ad ca rf u ∧ rngK u), (fun r I' F' => ∃ x : Int, r = zI x ∧ PR x I' F'), ?_, ?_, ?_⟩
  · intro l D sz
    rw [hW]
    have m := mk_S_cut D ad ca rf σ g hrf y1.toInt y2.toInt y3.toInt (rng_toInt y1) (rng_toInt y2) (rng_toInt y3) PC hc l sz
    rw [← zI_back y1, ← zI_back y2, ← zI_back y3] at m
    exact met_clx m
  · intro l D h adM caM sz
    have m := mt_cut D h adM caM I F hR y1.toInt y2.toInt y3.toInt (rng_toInt y1) (rng_toInt y2) (rng_toInt y3) (fun (r : Int) (c0 : (Int → Int)) (c1 : (Int → Int)) (c2 : (Int → Int)) (c3 : (Int → Int)) (c4 : Int) (c5 : Int) (c6 : (Int → Int)) (c7 : (Int → Int)) (c8 : Int) (c9 : Int) (c10 : Int) (c11 : Int) (c12 : (Int → Int)) (c13 : (Int → Int)) (c14 : (Int → Int)) (c15 : Int) (c16 : Int) (c17 : Int) (c18 : Int) (c19 : (Int → Int)) (c20 : Int) (c21 : (Int → Int)) (c22 : Int) (c23 : (Int → Int)) (c24 : Int) (c25 : (Int → Int)) => PR r (sI (sI (sI (sI (sI (sI (sI (sI (sI (sI (sI (sI (sI I 4 c4) 5 c5) 30 c8) 31 c9) 32 c10) 33 c11) 37 c15) 38 c16) 39 c17) 40 c18) 46 c20) 48 c22) 52 c24) (sF (sF (sF (sF (sF (sF (sF (sF (sF (sF (sF (sF (sF F 0 c0) 1 c1) 2 c2) 3 c3) 28 c6) 29 c7) 34 c12) 35 c13) 36 c14) 45 c19) 47 c21) 51 c23) 53 c25)) hm l sz
    rw [← zI_back y1, ← zI_back y2, ← zI_back y3] at m
    refine m.mono (fun _ _ h => h) (fun a st o t _ hq => ?_) (fun _ h => h)
    obtain ⟨⟨r, u, ho, ⟨⟨x, hx, gx, hK⟩, hr1⟩, hB⟩, hF⟩ := hq
    exact ⟨⟨r, ((sI (sI (sI (sI (sI (sI (sI (sI (sI (sI (sI (sI (sI I 4 u.2.2.2.2.1) 5 u.2.2.2.2.2.1) 30 u.2.2.2.2.2.2.2.2.1) 31 u.2.2.2.2.2.2.2.2.2.1) 32 u.2.2.2.2.2.2.2.2.2.2.1) 33 u.2.2.2.2.2.2.2.2.2.2.2.1) 37 u.2.2.2.2.2.2.2.2.2.2.2.2.2.2.2.1) 38 u.2.2.2.2.2.2.2.2.2.2.2.2.2.2.2.2.1) 39 u.2.2.2.2.2.2.2.2.2.2.2.2.2.2.2.2.2.1) 40 u.2.2.2.2.2.2.2.2.2.2.2.2.2.2.2.2.2.2.1) 46 u.2.2.2.2.2.2.2.2.2.2.2.2.2.2.2.2.2.2.2.2.1) 48 u.2.2.2.2.2.2.2.2.2.2.2.2.2.2.2.2.2.2.2.2.2.2.1) 52 u.2.2.2.2.2.2.2.2.2.2.2.2.2.2.2.2.2.2.2.2.2.2.2.2.1), (sF (sF (sF (sF (sF (sF (sF (sF (sF (sF (sF (sF (sF F 0 u.1) 1 u.2.1) 2 u.2.2.1) 3 u.2.2.2.1) 28 u.2.2.2.2.2.2.1) 29 u.2.2.2.2.2.2.2.1) 34 u.2.2.2.2.2.2.2.2.2.2.2.2.1) 35 u.2.2.2.2.2.2.2.2.2.2.2.2.2.1) 36 u.2.2.2.2.2.2.2.2.2.2.2.2.2.2.1) 45 u.2.2.2.2.2.2.2.2.2.2.2.2.2.2.2.2.2.2.2.1) 47 u.2.2.2.2.2.2.2.2.2.2.2.2.2.2.2.2.2.2.2.2.2.1) 51 u.2.2.2.2.2.2.2.2.2.2.2.2.2.2.2.2.2.2.2.2.2.2.2.1) 53 u.2.2.2.2.2.2.2.2.2.2.2.2.2.2.2.2.2.2.2.2.2.2.2.2.2)), ho, ⟨⟨x, hx, hK⟩, trivial, hr1⟩, hB⟩, hF⟩
  · rintro r r' c' I' F' ⟨x, u, hx, hP, rfl, gu⟩ ⟨x', hx', hP'⟩
    obtain ⟨e, LX', RX', hT'⟩ := hrel _ _ _ _ _ hP hP'
    exact ⟨by rw [hx, hx', e], rf, u, LX', RX', rfl, gu, hrf, hT'⟩
set_option maxHeartbeats 4000000 in
set_option maxRecDepth 100000 in
theorem b_registers (hB : RelX ad ca cel I F) (hR : rngS I F) (y1 y2 : Int32) : ∃ (Q : Int32 → (Nat → Cl) → Prop) (R : Int32 → (Nat → Int) → (Nat → Int → Int) → Prop), (∀ (l : Launch) (D : va_G) (sz : Nat), Met l yX11_registers (Cond.code yX11_registers cX11_registers 4 (some .int) :: gG) { frames := 13, cells := 0, slots := 0, locals := 339 } (cPre D (tC ca) (wN NC cel) sz [.ref (ad 0), .int y1, .int y2]) (va_Qi (fun (r : Int32) (c' : Nat → Cl) => Q r c') (fun c' t => cB D (va_A (wN NC cel) sz) [] (wN NC c') t) (va_A (wN NC cel) sz)) 0 0 (va_A (wN NC cel) sz)) ∧ (∀ (l : Launch) (D : va_G) (h : Nat) (adM : Nat → Nat) (caM : Nat → ClassId) (sz : Nat), Met l yX12_registers (Cond.code yX12_registers cX12_registers 5 (some .int) :: gG) { frames := 813, cells := 0, slots := 0, locals := 18306 } (cPre D (tM caM) (wM h adM caM I F) sz [.ref h, .int y1, .int y2]) (va_Qi (fun (r : Int32) (u : (Nat → Int) × (Nat → Int → Int)) => R r u.1 u.2 ∧ MInv u.1 u.2 ∧ rngS u.1 u.2) (fun u t => cB D (va_A (wM h adM caM I F) sz) [] (wM h adM caM u.1 u.2) t) (va_A (wM h adM caM I F) sz)) 0 0 (va_A (wM h adM caM I F) sz)) ∧ ∀ r r' c' I' F', Q r c' → R r' I' F' → RelX ad ca c' I' F' := by
  obtain ⟨rf, σ, LX, RX, hW, g, hrf, hT⟩ := hB
  obtain ⟨PC, PR, hc, hm, hrel⟩ := p_registers (x0 := y1.toInt) (x1 := y2.toInt) hT
  refine ⟨(fun r c' => ∃ (x : Int) (u : Sg), r = zI x ∧ PC x u ∧ c' = cK ad ca rf u ∧ rngK u), (fun r I' F' => ∃ x : Int, r = zI x ∧ PR x I' F'), ?_, ?_, ?_⟩
  · intro l D sz
    rw [hW]
    have m := mk_S_registers D ad ca rf σ g hrf y1.toInt y2.toInt (rng_toInt y1) (rng_toInt y2) PC hc l sz
    rw [← zI_back y1, ← zI_back y2] at m
    exact met_clx m
  · intro l D h adM caM sz
    have m := mt_registers D h adM caM I F hR y1.toInt y2.toInt (rng_toInt y1) (rng_toInt y2) (fun (r : Int) (c0 : (Int → Int)) (c1 : Int) (c2 : (Int → Int)) (c3 : (Int → Int)) => PR r (sI I 4 c1) (sF (sF (sF F 2 c0) 54 c2) 55 c3)) hm l sz
    rw [← zI_back y1, ← zI_back y2] at m
    refine m.mono (fun _ _ h => h) (fun a st o t _ hq => ?_) (fun _ h => h)
    obtain ⟨⟨r, u, ho, ⟨⟨x, hx, gx, hK⟩, hr1⟩, hB⟩, hF⟩ := hq
    exact ⟨⟨r, ((sI I 4 u.2.1), (sF (sF (sF F 2 u.1) 54 u.2.2.1) 55 u.2.2.2)), ho, ⟨⟨x, hx, hK⟩, trivial, hr1⟩, hB⟩, hF⟩
  · rintro r r' c' I' F' ⟨x, u, hx, hP, rfl, gu⟩ ⟨x', hx', hP'⟩
    obtain ⟨LX', RX', hT'⟩ := hrel _ _ _ _ _ hP hP'
    exact ⟨rf, u, LX', RX', rfl, gu, hrf, hT'⟩
set_option maxHeartbeats 4000000 in
set_option maxRecDepth 100000 in
theorem b_clash (hB : RelX ad ca cel I F) (hR : rngS I F) (y1 y2 y3 : Int32) : ∃ (Q : Int32 → (Nat → Cl) → Prop) (R : Int32 → (Nat → Int) → (Nat → Int → Int) → Prop), (∀ (l : Launch) (D : va_G) (sz : Nat), Met l yX11_clash (Cond.code yX11_clash cX11_clash 5 (some .int) :: gG) { frames := 6, cells := 0, slots := 0, locals := 174 } (cPre D (tC ca) (wN NC cel) sz [.ref (ad 0), .int y1, .int y2, .int y3]) (va_Qi (fun (r : Int32) (c' : Nat → Cl) => Q r c') (fun c' t => cB D (va_A (wN NC cel) sz) [] (wN NC c') t) (va_A (wN NC cel) sz)) 0 0 (va_A (wN NC cel) sz)) ∧ (∀ (l : Launch) (D : va_G) (h : Nat) (adM : Nat → Nat) (caM : Nat → ClassId) (sz : Nat), Met l yX12_clash (Cond.code yX12_clash cX12_clash 4 (some .int) :: gG) { frames := 813, cells := 0, slots := 0, locals := 18306 } (cPre D (tM caM) (wM h adM caM I F) sz [.ref h, .int y1, .int y2, .int y3]) (va_Qi (fun (r : Int32) (u : (Nat → Int) × (Nat → Int → Int)) => R r u.1 u.2 ∧ MInv u.1 u.2 ∧ rngS u.1 u.2) (fun u t => cB D (va_A (wM h adM caM I F) sz) [] (wM h adM caM u.1 u.2) t) (va_A (wM h adM caM I F) sz)) 0 0 (va_A (wM h adM caM I F) sz)) ∧ ∀ r r' c' I' F', Q r c' → R r' I' F' → RelX ad ca c' I' F' := by
  obtain ⟨rf, σ, LX, RX, hW, g, hrf, hT⟩ := hB
  obtain ⟨PC, PR, hc, hm, hrel⟩ := p_clash (x0 := y1.toInt) (x1 := y2.toInt) (x2 := y3.toInt) hT
  refine ⟨(fun r c' => ∃ (x : Int) (u : Sg), r = zI x ∧ PC x u ∧ c' = cK ad ca rf u ∧ rngK u), (fun r I' F' => ∃ x : Int, r = zI x ∧ PR x I' F'), ?_, ?_, ?_⟩
  · intro l D sz
    rw [hW]
    have m := mk_S_clash D ad ca rf σ g hrf y1.toInt y2.toInt y3.toInt (rng_toInt y1) (rng_toInt y2) (rng_toInt y3) PC hc l sz
    rw [← zI_back y1, ← zI_back y2, ← zI_back y3] at m
    exact met_clx m
  · intro l D h adM caM sz
    have m := mt_clash D h adM caM I F hR y1.toInt y2.toInt y3.toInt (rng_toInt y1) (rng_toInt y2) (rng_toInt y3) (fun (r : Int) (c0 : (Int → Int)) (c1 : Int) (c2 : (Int → Int)) => PR r (sI I 4 c1) (sF (sF F 2 c0) 54 c2)) hm l sz
    rw [← zI_back y1, ← zI_back y2, ← zI_back y3] at m
    refine m.mono (fun _ _ h => h) (fun a st o t _ hq => ?_) (fun _ h => h)
    obtain ⟨⟨r, u, ho, ⟨⟨x, hx, gx, hK⟩, hr1⟩, hB⟩, hF⟩ := hq
    exact ⟨⟨r, ((sI I 4 u.2.1), (sF (sF F 2 u.1) 54 u.2.2)), ho, ⟨⟨x, hx, hK⟩, trivial, hr1⟩, hB⟩, hF⟩
  · rintro r r' c' I' F' ⟨x, u, hx, hP, rfl, gu⟩ ⟨x', hx', hP'⟩
    obtain ⟨LX', RX', hT'⟩ := hrel _ _ _ _ _ hP hP'
    exact ⟨rf, u, LX', RX', rfl, gu, hrf, hT'⟩
end BX
