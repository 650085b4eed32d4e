-- ===== places, apply and make, on both sides
/-- the rules of both sides -/
def RuX (σ : Sg) (rule ruleRight ruleLong : Int → Int) (LX RX : Int → List Int) : Prop := (0 ≤ σ.1 0 1 ∧ σ.1 0 1 ≤ 12) ∧ ∀ r, 0 ≤ r → r < σ.1 0 1 → RW rule ruleRight ruleLong r (LX r) (RX r) ∧ RuC σ r (LX r) (RX r)
theorem ruleAt_k {σ : Sg} {c : Int} {K : Int → Prop} (hr : σ.1 0 1 ≤ 12) (h1 : 0 ≤ c ∧ c < σ.1 0 1 → K c) (h0 : ¬ (0 ≤ c ∧ c < σ.1 0 1) → K (-1)) : wp5_S_ruleAt σ c K :=
  ⟨fun z => h0 (by omega), fun z => ⟨fun z1 => ⟨fun _ => h0 (by omega), fun q => absurd q (by decide)⟩, fun z1 => ⟨fun z2 => absurd z2 (by omega), fun z2 => ⟨⟨z1, z2⟩, ⟨fun q => absurd q (by omega), fun _ => ⟨⟨z1, z2⟩, h1 ⟨z1, z⟩⟩⟩⟩⟩⟩⟩
/-- one application at the nth place -/
def apX (X R l : List Int) (nth : Int) (o : Option (List Int)) : Prop := ((cntM X l l.length : Int) ≤ nth ∧ o = none) ∨ ∃ (j : Nat) (g : Env), j < l.length ∧ mAt X l j = some g ∧ (cntM X l j : Int) = nth ∧ ((apOk R l j g ∧ o = some (apAt R l j g)) ∨ (¬ apOk R l j g ∧ o = none))
theorem nth_uq {X l : List Int} {nth : Int} {j j' : Nat} {g g' : Env} (h1 : j < l.length ∧ mAt X l j = some g ∧ (cntM X l j : Int) = nth) (h2 : j' < l.length ∧ mAt X l j' = some g' ∧ (cntM X l j' : Int) = nth) : j = j' ∧ g = g' := by
  have e : j = j' := by
    rcases Nat.lt_trichotomy j j' with q | q | q
    · have := cntM_mono (X := X) (l := l) (show j + 1 ≤ j' by omega)
      rw [cntM_at h1.2.1] at this
      omega
    · exact q
    · have := cntM_mono (X := X) (l := l) (show j' + 1 ≤ j by omega)
      rw [cntM_at h2.2.1] at this
      omega
  refine ⟨e, ?_⟩
  have h3 := h1.2.1
  rw [e, h2.2.1] at h3
  exact (Option.some.inj h3).symm
theorem apX.uq {X R l : List Int} {nth : Int} {o o' : Option (List Int)} (h : apX X R l nth o) (h' : apX X R l nth o') : o = o' := by
  rcases h with ⟨a1, a2⟩ | ⟨j, g, a1, a2, a3, a4⟩
  · rcases h' with ⟨b1, b2⟩ | ⟨j', g', b1, b2, b3, b4⟩
    · rw [a2, b2]
    · have := cntM_mono (X := X) (l := l) (show j' + 1 ≤ l.length by omega)
      rw [cntM_at b2] at this
      omega
  · rcases h' with ⟨b1, b2⟩ | ⟨j', g', b1, b2, b3, b4⟩
    · have := cntM_mono (X := X) (l := l) (show j + 1 ≤ l.length by omega)
      rw [cntM_at a2] at this
      omega
    · obtain ⟨e1, e2⟩ := nth_uq ⟨a1, a2, a3⟩ ⟨b1, b2, b3⟩
      subst e1; subst e2
      rcases a4 with ⟨c1, c2⟩ | ⟨c1, c2⟩
      · rcases b4 with ⟨d1, d2⟩ | ⟨d1, d2⟩
        · rw [c2, d2]
        · exact absurd c1 d1
      · rcases b4 with ⟨d1, d2⟩ | ⟨d1, d2⟩
        · exact absurd d1 c1
        · rw [c2, d2]
theorem At_ex {f : Int → Int} : ∀ (n : Nat) (p : Int), ∃ V : List Int, V.length = n ∧ At f p V
  | 0, _ => ⟨[], rfl, trivial⟩
  | n + 1, p => by
    obtain ⟨V, h1, h2⟩ := At_ex (f := f) n (p + 1)
    exact ⟨f p :: V, by rw [List.length_cons, h1], rfl, h2⟩
theorem At_in {f : Int → Int} : ∀ {V : List Int} {p v : Int}, At f p V → v ∈ V → ∃ i : Int, 0 ≤ i ∧ i < V.length ∧ f (p + i) = v
  | [], _, _, _, h => absurd h List.not_mem_nil
  | c :: V, p, v, ha, h => by
    rcases List.mem_cons.mp h with q | q
    · exact ⟨0, by omega, by simp only [List.length_cons]; omega, by rw [Int.add_zero, q]; exact ha.1⟩
    · obtain ⟨i, i0, i1, e⟩ := At_in ha.2 q
      exact ⟨i + 1, by omega, by simp only [List.length_cons]; omega, by rw [← e]; congr 1; omega⟩
/-- a PASS's items on both sides -/
theorem items_get {σ : Sg} {items rule ruleRight ruleLong : Int → Int} {LX RX : Int → List Int} (hI : IW (σ.1 0 1) items (σ.2.1 69)) (hL : IL σ items) (hR : RuX σ rule ruleRight ruleLong LX RX) {k : Int} (k0 : 0 ≤ k) (k5 : k ≤ 5) : ∃ V : List Int, At (σ.2.2.2 1 k) 0 V ∧ At items (8 * k) V ∧ σ.2.1 69 k = V.length ∧ V.length ≤ 8 ∧ ∀ v ∈ V, (0 ≤ v ∧ v < 12 ∧ RW rule ruleRight ruleLong v (LX v) (RX v) ∧ RuC σ v (LX v) (RX v)) ∨ (20 ≤ v ∧ v ≤ 24) := by
  obtain ⟨i1, i2, i3⟩ := hI k k0 k5
  obtain ⟨V, v1, v2⟩ := At_ex (f := σ.2.2.2 1 k) (σ.2.1 69 k).toNat 0
  have el : σ.2.1 69 k = V.length := by omega
  refine ⟨V, v2, ?_, el, by omega, fun v hv => ?_⟩
  · exact At_congr (fun i j0 j1 => by rw [Int.zero_add]; exact hL k k0 k5 i j0 (by omega)) v2
  · obtain ⟨i, j0, j1, e⟩ := At_in v2 hv
    rw [Int.zero_add] at e
    have e2 := hL k k0 k5 i j0 (by omega)
    rw [e] at e2
    rcases i3 i j0 (by omega) with q | q
    · rw [e2] at q
      have := hR.2 v q.1 q.2
      exact Or.inl ⟨q.1, by have := hR.1; omega, this.1, this.2⟩
    · rw [e2] at q
      exact Or.inr q
theorem RowL.uq {σ : Sg} {n : Int} {l l' : List Int} (h : RowL σ n l) (h' : RowL σ n l') : l = l' := At_uniq h.2.1 h'.2.1 (by have := h.2.2.1; have := h'.2.2.1; omega)
section F0
variable {σ : Sg} {slot slotLong rule ruleRight ruleLong : Int → Int} {LX RX : Int → List Int} {x0 x1 x2 x3 : Int}
theorem places_both (hS : SL σ slot slotLong) (hR : RuX σ rule ruleRight ruleLong LX RX) {row bound : Int → Int} {many pat : Int} : ∃ r : Int, (∀ K, (∀ σ', Fq No No ab σ σ' → K r σ') → wp5_S_places σ x0 x1 K) ∧ ∀ K, (∀ a b c d, K r a b c d) → wp_places slot slotLong row many (σ.1 0 1) rule bound pat x0 x1 K := by
  obtain ⟨hr, hru⟩ := hR
  by_cases hv : (0 ≤ x0 ∧ x0 < σ.1 0 1) ∧ (0 ≤ x1 ∧ x1 ≤ 5)
  · obtain ⟨v0, v1⟩ := hv
    obtain ⟨l, h1, h2, h3, h4, h5, h6, h7⟩ := hS.get v1.1 v1.2
    obtain ⟨⟨eL, eR, aLR, eRight, eLong, le40, hsub⟩, c1, c2, c3, c4, c5⟩ := hru x0 v0.1 v0.2
    refine ⟨cntM (LX x0) l l.length, fun K k => ruleAt_k hr.2 (fun _ => ⟨fun z => absurd z (by omega), fun _ => ⟨⟨by omega, by omega⟩, slotAt_k (fun _ => ⟨fun z => absurd z (by omega), fun _ => ⟨⟨by omega, by omega⟩, countIn_k c1 c4 h2 h1 k⟩⟩) (fun z => absurd v1 z)⟩⟩) (fun z => absurd v0 z), fun K k => ⟨⟨by omega, by omega⟩, isIn_c (fun _ _ => t1 (isSlot_c (fun _ _ => u1 (takes_get v1.1 v1.2 h1 h3 h4 h5 h6 (fun rw_ w => ?_))) (fun z => absurd v1 z))) (fun z => absurd ⟨v0.1, by omega⟩ z)⟩⟩
    have hl := w.len
    refine wl4_rule (fun (n i : Int) (_ : Int → Int) (_ : Int) => ∃ j : Nat, i = (j : Int) ∧ j ≤ l.length ∧ n = (cntM (LX x0) l j : Int)) (fun (_ i : Int) _ _ => ((l.length : Int) - i).toNat) ?_ ⟨0, rfl, Nat.zero_le _, rfl⟩
    rintro P n i bd pt ⟨j, rfl, hj, rfl⟩ ih
    have cl := cntM_le (X := LX x0) (l := l) j
    refine ⟨fun z => ?_, fun hlt => ?_⟩
    · have : j = l.length := by omega
      rw [this]; exact k _ _ _ _
    · have e : ∀ v : Nat, (if (mAt (LX x0) l j).isSome = true then 1 else 0) = v → cntM (LX x0) l (j + 1) = cntM (LX x0) l j + v := fun v q => by show cntM (LX x0) l j + _ = _; rw [q]
      refine matchesAt_x w v0.1 (by omega) eL (At_app.mp aLR).1 (by omega) (by omega) (fun g b' q _ p' => ⟨fun z => absurd z (by decide), fun _ => ⟨⟨by omega, by omega⟩, ⟨by omega, by omega⟩, ih _ _ _ _ ⟨j + 1, by omega, by omega, by rw [e 1 (by rw [q]; rfl)]; omega⟩ (by omega)⟩⟩) (fun q b' p' => ⟨fun _ => ⟨⟨by omega, by omega⟩, ⟨by omega, by omega⟩, ih _ _ _ _ ⟨j + 1, by omega, by omega, by rw [e 0 (by rw [q]; rfl)]; omega⟩ (by omega)⟩, fun z => absurd rfl z⟩)
  · refine ⟨-1, fun K k => ruleAt_k hr.2 (fun v0 => ⟨fun z => absurd z (by omega), fun _ => ⟨⟨by omega, by omega⟩, slotAt_k (fun v1 => absurd ⟨v0, v1⟩ hv) (fun _ => ⟨fun _ => k σ Fq.refl, fun z => absurd z (by decide)⟩)⟩⟩) (fun _ => ⟨fun _ => slotAt_k (fun v1 => ⟨fun _ => k σ Fq.refl, fun _ => ⟨⟨by omega, by omega⟩, k σ Fq.refl⟩⟩) (fun _ => ⟨fun _ => k σ Fq.refl, fun z => absurd z (by decide)⟩), fun z => absurd z (by decide)⟩), fun K k => ⟨⟨by omega, by omega⟩, isIn_c (fun a0 b0 => t1 (isSlot_c (fun a1 b1 => absurd ⟨⟨a0, by omega⟩, ⟨a1, b1⟩⟩ hv) (fun _ => u0 (k _ _ _ _)))) (fun _ => t0 (k _ _ _ _))⟩⟩
theorem place_neg {K : Int → Sg → Prop} {n m nth : Int} (h : nth < 0) (k : K (-1) σ) : wp5_U_placeIn σ n m nth K := by
  intro P hP
  exact hP _ _ _ ⟨fun _ => k, fun _ => ⟨fun _ => k, fun z => absurd z (by omega)⟩⟩
/-- rows that apply and make write besides their target -/
def w8 (s k : Int) : Prop := k = 8 ∨ k = s
/-- what apply does, told over the slots -/
def apO (σ : Sg) (LX RX : Int → List Int) (rules x0 x1 x2 x3 : Int) (o : Option (List Int)) : Prop := (¬ ((0 ≤ x0 ∧ x0 < rules) ∧ (0 ≤ x1 ∧ x1 ≤ 5) ∧ (0 ≤ x3 ∧ x3 ≤ 5) ∧ 0 ≤ x2) ∧ o = none) ∨ (((0 ≤ x0 ∧ x0 < rules) ∧ (0 ≤ x1 ∧ x1 ≤ 5) ∧ (0 ≤ x3 ∧ x3 ≤ 5) ∧ 0 ≤ x2) ∧ ∃ l, RowL σ x1 l ∧ apX (LX x0) (RX x0) l x2 o)
theorem apply_k (hS : SL σ slot slotLong) (hR : RuX σ rule ruleRight ruleLong LX RX) {K : Int → Sg → Prop} (k0 : apO σ LX RX (σ.1 0 1) x0 x1 x2 x3 none → ∀ σ', Fq No (one 8) ab σ σ' → K 0 σ') (k1 : ∀ l', apO σ LX RX (σ.1 0 1) x0 x1 x2 x3 (some l') → (0 ≤ x3 ∧ x3 ≤ 5) → Sq l' → cs l' ≤ 40 → cp l' ≤ 300 → ∀ σ', RowL σ' x3 l' → Fq No (w8 x3) ab σ σ' → K 1 σ') : wp5_S_apply σ x0 x1 x2 x3 K := by
  obtain ⟨hr, hru⟩ := hR
  have bad : ¬ ((0 ≤ x0 ∧ x0 < σ.1 0 1) ∧ (0 ≤ x1 ∧ x1 ≤ 5) ∧ (0 ≤ x3 ∧ x3 ≤ 5) ∧ 0 ≤ x2) → K 0 σ := fun h => k0 (Or.inl ⟨h, rfl⟩) σ Fq.refl
  have end2 : ¬ ((0 ≤ x0 ∧ x0 < σ.1 0 1) ∧ (0 ≤ x1 ∧ x1 ≤ 5) ∧ (0 ≤ x3 ∧ x3 ≤ 5) ∧ 0 ≤ x2) → wp5_S_slotAt σ x3 (fun r17 => (r17 < 0 → K 0 σ) ∧ (0 ≤ r17 → (0 ≤ r17 ∧ r17 < 35) ∧ K 0 σ)) := fun h => slotAt_k (fun v => ⟨fun _ => bad h, fun _ => ⟨⟨by omega, by omega⟩, bad h⟩⟩) (fun _ => ⟨fun _ => bad h, fun z => absurd z (by decide)⟩)
  refine ruleAt_k hr.2 (fun v0 => ⟨fun z => absurd z (by omega), fun _ => ⟨⟨by omega, by omega⟩, slotAt_k (fun v1 => ⟨fun z => absurd z (by omega), fun _ => ⟨⟨by omega, by omega⟩, slotAt_k (fun v3 => ⟨fun z => absurd z (by omega), fun _ => ⟨⟨by omega, by omega⟩, ?_⟩⟩) (fun v3 => ⟨fun _ => bad (fun q => v3 q.2.2.1), fun z => absurd z (by decide)⟩)⟩⟩) (fun v1 => ⟨fun _ => end2 (fun q => v1 q.2.1), fun z => absurd z (by decide)⟩)⟩⟩) (fun v0 => ⟨fun _ => slotAt_k (fun v1 => ⟨fun z => absurd z (by omega), fun _ => ⟨⟨by omega, by omega⟩, end2 (fun q => v0 q.1)⟩⟩) (fun v1 => ⟨fun _ => end2 (fun q => v0 q.1), fun z => absurd z (by decide)⟩), fun z => absurd z (by decide)⟩)
  by_cases hn : 0 ≤ x2
  · obtain ⟨l, h1, h2, h3, h4, h5, h6, h7⟩ := hS.get v1.1 v1.2
    obtain ⟨_, c1, c2, c3, c4, c5⟩ := hru x0 v0.1 v0.2
    have ok : ∀ o, apX (LX x0) (RX x0) l x2 o → apO σ LX RX (σ.1 0 1) x0 x1 x2 x3 o := fun o q => Or.inr ⟨⟨v0, v1, v3, hn⟩, l, h2, q⟩
    have up : ∀ {σ σ' : Sg}, Fq No No ab σ σ' → Fq No (one 8) ab σ σ' := fun f => f.mono (fun _ h => h) (fun _ h => h.elim) (fun _ h => h)
    refine placeIn_k hn c1 c4 h2 h1 (fun j g hj hm hcnt σ1 f1 => ⟨fun z => absurd z (by omega), fun _ => ?_⟩) (fun hcnt σ1 f1 => ⟨fun _ => k0 (ok none (Or.inl ⟨hcnt, rfl⟩)) σ1 (up f1), fun z => absurd rfl z⟩)
    obtain ⟨pre, e, t, e2, hp, he, hmL, hy, eap, eok, ecs, ecp, ei⟩ := at_match c1 c2 c3 h1 h5 hj hm
    have hr1 := h2.ab f1
    have e2' := e2
    subst hp
    rw [e2] at hr1 h1 h5 h6
    have hlen : ∀ g0, EnvOK g0 → (inst (RX x0) g0).length + cp (pre ++ (e ++ t)) ≤ 300 + e.length → pre.length + (inst (RX x0) g0).length + t.length ≤ 480 := fun g0 _ q0 => by
      have lt := h1.len
      have ce : cp (pre ++ (e ++ t)) = cp pre + (e.length + cp t) := by rw [cp_app, cp_app, he.cpz]
      have hye := (hy [0] (Ex.leaf (Or.inl ⟨by decide, by decide⟩))).len
      have c1 : cs (pre ++ ([0] ++ t)) = cs pre + cs t := by rw [cs_app, cs_app]; show cs pre + (0 + cs t) = _; omega
      have c2 : cs (pre ++ (e ++ t)) = cs pre + cs t := by rw [cs_app, cs_app, he.csz]; omega
      have p1 : cp (pre ++ ([0] ++ t)) = cp pre + (1 + cp t) := by rw [cp_app, cp_app]; rfl
      simp only [List.length_append, List.length_cons, List.length_nil] at hye
      rw [c1, p1] at hye
      omega
    refine rewrite_k (x2 := 8) ⟨by omega, by omega⟩ c1 c2 c3 (c4.ab f1) (c5.ab f1) hr1 he h1 h5 h6 (by omega) (fun z => by have : x1 = 8 := z; omega) (fun z => by have : 12 + 2 * x0 = 8 := z; omega) (by decide) hlen (fun g' q1 q2 σ2 r2 m2 f2 => ⟨fun _ => ?_, fun z => absurd z (by decide)⟩) (fun g' q1 q2 σ2 f2 => ⟨fun z => absurd rfl z, fun _ => ?_⟩) (fun q1 σ2 f2 => by rw [hmL] at q1; cases q1)
    · rw [hmL] at q1
      have := Option.some.inj q1
      subst this
      have okk := eok.mpr (by rw [e2']; exact q2)
      have sq := hy _ ei
      have b1 := ecp okk
      have b2 := sq.len
      have c480 : capI x3 = 480 := if_pos (by omega)
      have csn : cs (pre ++ (inst (RX x0) g ++ t)) ≤ 40 := by rw [ecs, e2']; exact h5
      refine copy_k (n := x3) (m := 8) (by omega) r2 (by omega) (by rw [c480]; omega) (fun σ3 r3 f3 => k1 _ (ok _ (Or.inr ⟨_, g, hj, hm, hcnt, Or.inl ⟨okk, by rw [eap]⟩⟩)) v3 sq csn b1 σ3 r3 ?_)
      exact ((up f1).mono (fun _ h => h) (fun _ h => Or.inl h) (fun _ h => h)).trans ((f2.mono (fun _ h => h) (fun _ h => Or.inl h) (fun _ h => h)).trans (f3.mono (fun _ h => h) (fun _ h => Or.inr h) (fun _ h => h.elim)))
    · rw [hmL] at q1
      have := Option.some.inj q1
      subst this
      exact k0 (ok _ (Or.inr ⟨_, g, hj, hm, hcnt, Or.inr ⟨fun z => q2 (by have := eok.mp z; rw [e2'] at this; exact this), rfl⟩⟩)) σ2 ((up f1).trans f2)
  · exact place_neg (by omega) ⟨fun _ => bad (fun q => hn q.2.2.2), fun z => absurd rfl z⟩
theorem apply_x (hS : SL σ slot slotLong) (hR : RuX σ rule ruleRight ruleLong LX RX) {row f bound : Int → Int} {many m pat : Int} {K : Int → (Int → Int) → (Int → Int) → (Int → Int) → (Int → Int) → Int → Int → (Int → Int) → Int → Prop} (k0 : apO σ LX RX (σ.1 0 1) x0 x1 x2 x3 none → ∀ a b c d e g, K 0 slot slotLong a b c d e g) (k1 : ∀ l', apO σ LX RX (σ.1 0 1) x0 x1 x2 x3 (some l') → (0 ≤ x3 ∧ x3 ≤ 5) → Sq l' → cs l' ≤ 40 → cp l' ≤ 300 → ∀ sl a b c d e g, At sl (520 * x3) l' → (∀ j : Int, j < 520 * x3 ∨ 520 * x3 + l'.length ≤ j → sl j = slot j) → K 1 sl (uZ slotLong x3 l'.length) a b c d e g) : wp_apply slot slotLong row f many m (σ.1 0 1) rule ruleRight ruleLong bound pat x0 x1 x2 x3 K := by
  obtain ⟨hr, hru⟩ := hR
  have bad : ¬ ((0 ≤ x0 ∧ x0 < σ.1 0 1) ∧ (0 ≤ x1 ∧ x1 ≤ 5) ∧ (0 ≤ x3 ∧ x3 ≤ 5) ∧ 0 ≤ x2) → ∀ a b c d e g, K 0 slot slotLong a b c d e g := fun h => k0 (Or.inl ⟨h, rfl⟩)
  refine ⟨⟨by omega, by omega⟩, isIn_c (fun a0 b0 => t1 (isSlot_c (fun a1 b1 => t1 (isSlot_c (fun a3 b3 => t1 ⟨fun hn => ?_, fun z => bad (fun q => by have := q.2.2.2; omega) _ _ _ _ _ _⟩) (fun z => t0 (bad (fun q => z q.2.2.1) _ _ _ _ _ _)))) (fun z => t0 (bad (fun q => z q.2.1) _ _ _ _ _ _)))) (fun z => t0 (bad (fun q => z ⟨q.1.1, by have := q.1.2; omega⟩) _ _ _ _ _ _))⟩
  have v0 : 0 ≤ x0 ∧ x0 < σ.1 0 1 := ⟨a0, by omega⟩
  obtain ⟨l, h1, h2, h3, h4, h5, h6, h7⟩ := hS.get a1 b1
  obtain ⟨hrw, _⟩ := hru x0 v0.1 v0.2
  obtain ⟨eL, eR, aLR, eRight, eLong, le40, hsub⟩ := id hrw
  have ok : ∀ o, apX (LX x0) (RX x0) l x2 o → apO σ LX RX (σ.1 0 1) x0 x1 x2 x3 o := fun o q => Or.inr ⟨⟨v0, ⟨a1, b1⟩, ⟨a3, b3⟩, hn⟩, l, h2, q⟩
  refine takes_get a1 b1 h1 h3 h4 h5 h6 (fun r w => match_x w v0.1 (by omega) eL (At_app.mp aLR).1 (by omega) hn (fun j g hj hm hcnt b' p' => ⟨fun z => absurd z (by omega), fun _ => ?_⟩) (fun hcnt b' p' => ⟨fun _ => k0 (ok none (Or.inl ⟨hcnt, rfl⟩)) _ _ _ _ _ _, fun z => absurd rfl z⟩))
  obtain ⟨pre, e, t, e2, hp, he, hmL, hy, eap, eok, ecs, ecp, ei⟩ := at_match eL eR hsub h1 h5 hj hm
  subst hp
  refine applies_x w v0.1 (by omega) hrw e2 he hy hmL (fun nok b2 p2 => ⟨fun z => absurd rfl z, fun _ => k0 (ok _ (Or.inr ⟨_, g, hj, hm, hcnt, Or.inr ⟨fun z => nok (eok.mp z), rfl⟩⟩)) _ _ _ _ _ _⟩) (fun okk row' f' many' m' b2 p2 w' => ⟨fun _ => ?_, fun z => absurd z (by decide)⟩)
  have lw := w'.len
  refine puts_ok a3 b3 w'.2.1 w'.2.2.1 (by omega) (fun sl s1 s2 => ?_)
  rw [w'.2.2.1]
  exact k1 _ (ok _ (Or.inr ⟨_, g, hj, hm, hcnt, Or.inl ⟨eok.mpr okk, by rw [eap]⟩⟩)) ⟨a3, b3⟩ w'.1 w'.2.2.2.1 w'.2.2.2.2 sl _ _ _ _ _ _ s1 s2
/-- what make does -/
def mkO (σ : Sg) (LX RX : Int → List Int) (x0 x1 x2 : Int) (o : Option (List Int)) : Prop := (¬ ((0 ≤ x0 ∧ x0 ≤ 5) ∧ (0 ≤ x1 ∧ x1 ≤ 5) ∧ (0 ≤ x2 ∧ x2 ≤ 5)) ∧ o = none) ∨ (((0 ≤ x0 ∧ x0 ≤ 5) ∧ (0 ≤ x1 ∧ x1 ≤ 5) ∧ (0 ≤ x2 ∧ x2 ≤ 5)) ∧ ∃ l V, RowL σ x1 l ∧ (At (σ.2.2.2 1 x0) 0 V ∧ σ.2.1 69 x0 = V.length) ∧ mkR LX RX V l o)
/-- rows that making writes besides its target -/
def w9 (s k : Int) : Prop := k = 9 ∨ k = 10 ∨ k = s
variable {items : Int → Int}
theorem no_pass {K : Int → Sg → Prop} {k m : Int} (h : ¬ (0 ≤ k ∧ k ≤ 5)) (kk : K 0 σ) : wp5_P_makeOf σ k m K :=
  ⟨fun _ => u0 kk, fun z => ⟨fun _ => u0 kk, fun z2 => absurd ⟨z, by omega⟩ h⟩⟩
theorem make_k (hS : SL σ slot slotLong) (hR : RuX σ rule ruleRight ruleLong LX RX) (hI : IW (σ.1 0 1) items (σ.2.1 69)) (hL : IL σ items) {K : Int → Sg → Prop} (k0 : mkO σ LX RX x0 x1 x2 none → ∀ σ', Fq (fl 71) mk9 ab σ σ' → K (-1) σ') (k1 : ∀ l', mkO σ LX RX x0 x1 x2 (some l') → (0 ≤ x2 ∧ x2 ≤ 5) → Sq l' → cs l' ≤ 40 → cp l' ≤ 300 → ∀ σ', RowL σ' x2 l' → Fq (fl 71) (w9 x2) ab σ σ' → K (cs l') σ') : wp5_S_make σ x0 x1 x2 K := by
  have bad : ¬ ((0 ≤ x0 ∧ x0 ≤ 5) ∧ (0 ≤ x1 ∧ x1 ≤ 5) ∧ (0 ≤ x2 ∧ x2 ≤ 5)) → K (-1) σ := fun h => k0 (Or.inl ⟨h, rfl⟩) σ Fq.refl
  refine slotAt_k (fun v1 => ⟨fun z => absurd z (by omega), fun _ => ⟨⟨by omega, by omega⟩, slotAt_k (fun v2 => ⟨fun z => absurd z (by omega), fun _ => ⟨⟨by omega, by omega⟩, ?_⟩⟩) (fun v2 => ⟨fun _ => bad (fun q => v2 q.2.2), fun z => absurd z (by decide)⟩)⟩⟩) (fun v1 => ⟨fun _ => slotAt_k (fun v2 => ⟨fun z => absurd z (by omega), fun _ => ⟨⟨by omega, by omega⟩, bad (fun q => v1 q.2.1)⟩⟩) (fun v2 => ⟨fun _ => bad (fun q => v1 q.2.1), fun z => absurd z (by decide)⟩), fun z => absurd z (by decide)⟩)
  by_cases v0 : 0 ≤ x0 ∧ x0 ≤ 5
  · obtain ⟨l, h1, h2, h3, h4, h5, h6, h7⟩ := hS.get v1.1 v1.2
    obtain ⟨V, w1, w2, w3, w4, w5⟩ := items_get hI hL hR v0.1 v0.2
    have ok : ∀ o, mkR LX RX V l o → mkO σ LX RX x0 x1 x2 o := fun o q => Or.inr ⟨⟨v0, v1, v2⟩, l, V, h2, ⟨w1, w3⟩, q⟩
    refine makeOf_k (LX := LX) (RX := RX) ⟨v0.1, by omega⟩ h2 (by omega) h1 h5 h6 w1 w3 w4 (fun v hv => (w5 v hv).imp (fun q => ⟨q.1, q.2.1, q.2.2.2⟩) (fun q => q)) (fun l' hm s1 s2 s3 σ1 r1 f1 => ⟨fun _ => ?_, fun z => absurd z (by decide)⟩) (fun hm σ1 f1 => ⟨fun z => absurd rfl z, fun _ => k0 (ok _ hm) σ1 f1⟩)
    have b2 := s1.len
    have c480 : capI x2 = 480 := if_pos (by omega)
    refine copy_k (n := x2) (m := 9) (by omega) r1 (by omega) (by rw [c480]; omega) (fun σ2 r2 f2 => W_statements_k r2 (k1 l' (ok _ hm) v2 s1 s2 s3 σ2 r2 ?_))
    exact (f1.mono (fun _ h => h) (fun _ h => h.elim Or.inl (fun q => Or.inr (Or.inl q))) (fun _ h => h)).trans (f2.mono (fun _ h => h.elim) (fun _ h => Or.inr (Or.inr h)) (fun _ h => h.elim))
  · exact no_pass v0 ⟨fun z => absurd rfl z, fun _ => bad (fun q => v0 q.1)⟩
theorem make_x (hS : SL σ slot slotLong) (hR : RuX σ rule ruleRight ruleLong LX RX) (hI : IW (σ.1 0 1) items (σ.2.1 69)) (hL : IL σ items) {row f bound isOut : Int → Int} {many m pat some_ : Int} {K : Int → (Int → Int) → (Int → Int) → (Int → Int) → (Int → Int) → Int → Int → (Int → Int) → Int → (Int → Int) → Int → Prop} (k0 : mkO σ LX RX x0 x1 x2 none → ∀ a b c d e g i j, K (-1) slot slotLong a b c d e g i j) (k1 : ∀ l', mkO σ LX RX x0 x1 x2 (some l') → (0 ≤ x2 ∧ x2 ≤ 5) → Sq l' → cs l' ≤ 40 → cp l' ≤ 300 → ∀ sl a b c d e g i j, At sl (520 * x2) l' → (∀ j : Int, j < 520 * x2 ∨ 520 * x2 + l'.length ≤ j → sl j = slot j) → K (cs l') sl (uZ slotLong x2 l'.length) a b c d e g i j) : wp_make slot slotLong row f many m rule ruleRight ruleLong bound pat isOut some_ items (σ.2.1 69) x0 x1 x2 K := by
  have bad : ¬ ((0 ≤ x0 ∧ x0 ≤ 5) ∧ (0 ≤ x1 ∧ x1 ≤ 5) ∧ (0 ≤ x2 ∧ x2 ≤ 5)) → ∀ a b c d e g i j, K (-1) slot slotLong a b c d e g i j := fun h => k0 (Or.inl ⟨h, rfl⟩)
  refine isPass_c (fun a0 b0 => t1 (isSlot_c (fun a1 b1 => t1 (isSlot_c (fun a2 b2 => u1 ?_) (fun z => u0 (bad (fun q => z q.2.2) _ _ _ _ _ _ _ _)))) (fun z => t0 (bad (fun q => z q.2.1) _ _ _ _ _ _ _ _)))) (fun z => t0 (bad (fun q => z q.1) _ _ _ _ _ _ _ _))
  obtain ⟨l, h1, h2, h3, h4, h5, h6, h7⟩ := hS.get a1 b1
  obtain ⟨V, w1, w2, w3, w4, w5⟩ := items_get hI hL hR a0 b0
  have ok : ∀ o, mkR LX RX V l o → mkO σ LX RX x0 x1 x2 o := fun o q => Or.inr ⟨⟨⟨a0, b0⟩, ⟨a1, b1⟩, ⟨a2, b2⟩⟩, l, V, h2, ⟨w1, w3⟩, q⟩
  refine takes_get a1 b1 h1 h3 h4 h5 h6 (fun r w => makes_x (LX := LX) (RX := RX) a0 b0 w2 w3 w4 (fun v hv => (w5 v hv).imp (fun q => ⟨q.1, q.2.1, q.2.2.1⟩) (fun q => q)) w (fun l' hm a b c d e g i j w' => ⟨fun _ => ?_, fun z => absurd z (by decide)⟩) (fun hm a b c d e g i j => ⟨fun z => absurd rfl z, fun _ => k0 (ok _ hm) _ _ _ _ _ _ _ _⟩))
  have lw := w'.len
  refine puts_ok a2 b2 w'.2.1 w'.2.2.1 (by omega) (fun sl s1 s2 => statements_ok w'.2.1 w'.2.2.1 (by have := w'.2.2.1; omega) ?_)
  rw [w'.2.2.1]
  exact k1 l' (ok _ hm) ⟨a2, b2⟩ w'.1 w'.2.2.2.1 w'.2.2.2.2 sl _ _ _ _ _ _ _ _ s1 s2
theorem mkO.uq {o o' : Option (List Int)} (h : mkO σ LX RX x0 x1 x2 o) (h' : mkO σ LX RX x0 x1 x2 o') : o = o' := by
  rcases h with ⟨a1, a2⟩ | ⟨a1, l, V, a2, a3, a4⟩
  · rcases h' with ⟨b1, b2⟩ | ⟨b1, _⟩
    · rw [a2, b2]
    · exact absurd b1 a1
  · rcases h' with ⟨b1, b2⟩ | ⟨b1, l', V', b2, b3, b4⟩
    · exact absurd a1 b1
    · have e1 := a2.uq b2
      have e2 : V = V' := At_uniq a3.1 b3.1 (by have := a3.2; have := b3.2; omega)
      subst e1; subst e2
      exact a4.uq b4
theorem apO.uq {rules : Int} {o o' : Option (List Int)} (h : apO σ LX RX rules x0 x1 x2 x3 o) (h' : apO σ LX RX rules x0 x1 x2 x3 o') : o = o' := by
  rcases h with ⟨a1, a2⟩ | ⟨a1, l, a2, a3⟩
  · rcases h' with ⟨b1, b2⟩ | ⟨b1, _⟩
    · rw [a2, b2]
    · exact absurd b1 a1
  · rcases h' with ⟨b1, b2⟩ | ⟨b1, l', b2, b3⟩
    · exact absurd a1 b1
    · have e1 := a2.uq b2
      subst e1
      exact a3.uq b3
end F0
