-- ===== a rule as an item of a PASS: at most 50 times at the first place
def Fst (X l : List Int) (j : Nat) (g : Env) : Prop := j < l.length ∧ mAt X l j = some g ∧ cntM X l j = 0
/-- the row with the part at j rewritten -/
def apAt (R l : List Int) (j : Nat) (g : Env) : List Int := l.take j ++ (inst R g ++ l.drop (j + (tk 1 (l.drop j)).length))
def apOk (R l : List Int) (j : Nat) (g : Env) : Prop := (inst R g).length + cp l ≤ 300 + (tk 1 (l.drop j)).length
def agR (X R : List Int) : Nat → List Int → Option (List Int) → Prop
  | 0, l, o => o = some l
  | k + 1, l, o => (cntM X l l.length = 0 ∧ o = some l) ∨ ∃ j g, Fst X l j g ∧ ((apOk R l j g ∧ agR X R k (apAt R l j g) o) ∨ (¬ apOk R l j g ∧ o = none))
theorem cntM_mono {X l : List Int} {a : Nat} : ∀ {b : Nat}, a ≤ b → cntM X l a ≤ cntM X l b
  | 0, h => by rw [Nat.le_zero.mp h]; exact Nat.le_refl _
  | b + 1, h => by
    by_cases q : a = b + 1
    · rw [q]; exact Nat.le_refl _
    · exact Nat.le_trans (cntM_mono (b := b) (by omega)) (Nat.le_add_right _ _)
theorem cntM_at {X l : List Int} {j : Nat} {g : Env} (h : mAt X l j = some g) : cntM X l (j + 1) = cntM X l j + 1 := by
  show cntM X l j + _ = _
  rw [h]; rfl
theorem Fst.uq {X l : List Int} {j j' : Nat} {g g' : Env} (h : Fst X l j g) (h' : Fst X l j' g') : j = j' ∧ g = g' := by
  obtain ⟨h1, h2, h3⟩ := h
  obtain ⟨k1, k2, k3⟩ := h'
  have e1 := cntM_at h2
  have e2 := cntM_at k2
  have hj : j = j' := by
    rcases Nat.lt_trichotomy j j' with q | q | q
    · have := cntM_mono (X := X) (l := l) (show j + 1 ≤ j' from q); omega
    · exact q
    · have := cntM_mono (X := X) (l := l) (show j' + 1 ≤ j from q); omega
  subst hj
  rw [h2] at k2
  exact ⟨rfl, Option.some.inj k2⟩
theorem Fst.no {X l : List Int} {j : Nat} {g : Env} (h : Fst X l j g) : cntM X l l.length ≠ 0 := by
  have e1 := cntM_at h.2.1
  have := cntM_mono (X := X) (l := l) (show j + 1 ≤ l.length from h.1)
  omega
theorem agR.uq {X R : List Int} : ∀ {k : Nat} {l : List Int} {o o' : Option (List Int)}, agR X R k l o → agR X R k l o' → o = o'
  | 0, _, _, _, h, h' => h.trans h'.symm
  | k + 1, l, o, o', h, h' => by
    rcases h with ⟨h1, h2⟩ | ⟨j, g, hf, h⟩
    · rcases h' with ⟨_, k2⟩ | ⟨j', g', hf', _⟩
      · exact h2.trans k2.symm
      · exact absurd h1 hf'.no
    · rcases h' with ⟨k1, _⟩ | ⟨j', g', hf', h'⟩
      · exact absurd k1 hf.no
      · obtain ⟨rfl, rfl⟩ := hf.uq hf'
        rcases h with ⟨a1, a2⟩ | ⟨a1, a2⟩
        · rcases h' with ⟨b1, b2⟩ | ⟨b1, _⟩
          · exact a2.uq b2
          · exact absurd a1 b1
        · rcases h' with ⟨b1, _⟩ | ⟨_, b2⟩
          · exact absurd b1 a1
          · exact a2.trans b2.symm
/-- the place of a match, and what its rewriting gives -/
theorem at_match {X R l : List Int} (hX : Ex lfU X) (hR : Ex lfU R) (hLR : ∀ c ∈ R, 30 ≤ c → c ≤ 32 → c ∈ X) (hl : Sq l) (hcs : cs l ≤ 40) {j : Nat} {g : Env} (hj : j < l.length) (hm : mAt X l j = some g) : ∃ pre e t, l = pre ++ (e ++ t) ∧ pre.length = j ∧ Ex lfR e ∧ mL X E0 e = some g ∧ (∀ y, Ex lfR y → Sq (pre ++ (y ++ t))) ∧ apAt R l j g = pre ++ (inst R g ++ t) ∧ (apOk R l j g ↔ (inst R g).length + cp l ≤ 300 + e.length) ∧ cs (pre ++ (inst R g ++ t)) = cs l ∧ (apOk R l j g → cp (pre ++ (inst R g ++ t)) ≤ 300) ∧ Ex lfR (inst R g) := by
  obtain ⟨pre, c, post, el, hp⟩ := at_split hj
  subst hp
  by_cases hc : isP c = true
  · obtain ⟨e, t, e1, he, hy⟩ := sub_at hl el hc
    have e2 : l = pre ++ (e ++ t) := by rw [el, e1]
    rw [mAt_P (c := c) e2 he] at hm
    have e00 : EnvOK E0 := fun _ => Or.inl rfl
    obtain ⟨ok, _, bnds⟩ := mL_env hX E0 e g he e00 hm
    have ei : Ex lfR (inst R g) := inst_ex ok hR (fun d hd d0 d1 => bnds d (hLR d hd d0 d1) d0 d1)
    have ed : l.drop pre.length = e ++ t := by rw [e2, List.drop_left]
    have et : tk 1 (l.drop pre.length) = e := by rw [ed]; exact tk_1 he
    have ok' : apOk R l pre.length g ↔ (inst R g).length + cp l ≤ 300 + e.length := by unfold apOk; rw [et]
    have ecp : cp l = cp pre + (e.length + cp t) := by rw [e2, cp_app, cp_app, he.cpz]
    refine ⟨pre, e, t, e2, rfl, he, hm, hy, ?_, ok', ?_, fun q => ?_, ei⟩
    · unfold apAt
      rw [et, ← List.drop_drop, ed, List.drop_left, e2, List.take_left]
    · rw [e2, cs_app, cs_app, cs_app, cs_app, ei.csz, he.csz]
    · have := ok'.mp q
      rw [cp_app, cp_app, ei.cpz]; omega
  · rw [mAt_no el (Bool.eq_false_iff.mpr hc)] at hm
    cases hm
section AG
variable {σ : Sg} {n : Int} {l X R : List Int}
theorem applyRule_k {K : Int → Sg → Prop} (hn : 0 ≤ n ∧ n < 12) (hX : Ex lfU X) (hR : Ex lfU R) (hLR : ∀ c ∈ R, 30 ≤ c → c ≤ 32 → c ∈ X) (hrX : RowL σ (11 + 2 * n) (X.map cv)) (hrR : RowL σ (12 + 2 * n) (R.map cv)) (h : RowL σ 9 l) (hl : Sq l) (hcs : cs l ≤ 40) (hcp : cp l ≤ 300)
    (k1 : ∀ l', agR X R 50 l (some l') → Sq l' → cs l' ≤ 40 → cp l' ≤ 300 → ∀ σ', RowL σ' 9 l' → Fq No (fun k => k = 9 ∨ k = 10) ab σ σ' → K 1 σ') (k0 : agR X R 50 l none → ∀ σ', Fq No (fun k => k = 9 ∨ k = 10) ab σ σ' → K 0 σ') : wp5_P_applyRule σ n K := by
  have up : ∀ {σ σ' : Sg}, Fq No No ab σ σ' → Fq No (fun k => k = 9 ∨ k = 10) ab σ σ' := fun f => f.mono (fun _ h => h) (fun _ h => h.elim) (fun _ h => h)
  have up9 : ∀ {σ σ' : Sg}, Fq No (one 9) No σ σ' → Fq No (fun k => k = 9 ∨ k = 10) ab σ σ' := fun f => f.mono (fun _ h => h) (fun _ h => Or.inl h) (fun _ h => h.elim)
  have up10 : ∀ {σ σ' : Sg}, Fq No (one 10) ab σ σ' → Fq No (fun k => k = 9 ∨ k = 10) ab σ σ' := fun f => f.mono (fun _ h => h) (fun _ h => Or.inr h) (fun _ h => h)
  unfold wp5_P_applyRule
  refine wl2_rule (fun (i : Int) (s : Sg) => ∃ (j : Nat) (l1 : List Int), i = (j : Int) ∧ j ≤ 50 ∧ RowL s 9 l1 ∧ Sq l1 ∧ cs l1 ≤ 40 ∧ cp l1 ≤ 300 ∧ Fq No (fun k => k = 9 ∨ k = 10) ab σ s ∧ ∀ o, agR X R (50 - j) l1 o → agR X R 50 l o) (fun (i : Int) _ => (50 - i).toNat) ?_ ⟨0, l, rfl, by omega, h, hl, hcs, hcp, Fq.refl, fun o q => q⟩
  rintro P i s ⟨j, l1, rfl, hj, hr, hl1, hc1, hp1, f, ho⟩ ih
  refine ⟨fun z => ?_, fun z => ?_⟩
  · have : j = 50 := by omega
    subst this
    exact k1 l1 (ho _ rfl) hl1 hc1 hp1 s hr f
  have ek : 50 - j = (50 - (j + 1)) + 1 := by omega
  have hsX : RowL s (11 + 2 * n) (X.map cv) := hrX.fr f (by omega)
  have hsR : RowL s (12 + 2 * n) (R.map cv) := hrR.fr f (by omega)
  refine placeIn_k (Int.le_refl 0) hX hsX hr hl1 (fun q g hq hm hcnt s1 f1 => ⟨fun _ => ?_, fun z => absurd z (by omega)⟩) (fun hcnt s1 f1 => ⟨fun z => absurd rfl z, fun _ => ?_⟩)
  · obtain ⟨pre, e, t, e2, hp, he, hmL, hy, eap, eok, ecs, ecp, ei⟩ := at_match hX hR hLR hl1 hc1 hq hm
    have hF : Fst X l1 q g := ⟨hq, hm, by omega⟩
    have hr1 := hr.ab f1
    have e2' := e2
    subst hp
    rw [e2] at hr1 hl1 hc1 hp1
    have hlen : ∀ g0, EnvOK g0 → (inst R g0).length + cp (pre ++ (e ++ t)) ≤ 300 + e.length → pre.length + (inst R g0).length + t.length ≤ 480 := fun g0 _ q0 => by
      have lt := hl1.len
      have ce : cp (pre ++ (e ++ t)) = cp pre + (e.length + cp t) := by rw [cp_app, cp_app, he.cpz]
      have hye := (hy [0] (Ex.leaf (Or.inl ⟨by decide, by decide⟩))).len
      have c1 : cs (pre ++ ([0] ++ t)) = cs pre + cs t := by rw [cs_app, cs_app]; show cs pre + (0 + cs t) = _; omega
      have c2 : cs (pre ++ (e ++ t)) = cs pre + cs t := by rw [cs_app, cs_app, he.csz]; omega
      have p1 : cp (pre ++ ([0] ++ t)) = cp pre + (1 + cp t) := by rw [cp_app, cp_app]; rfl
      simp only [List.length_append, List.length_cons, List.length_nil] at hye
      rw [c1, p1] at hye
      omega
    refine rewrite_k (x2 := 10) hn hX hR hLR (hsX.ab f1) (hsR.ab f1) hr1 he hl1 hc1 hp1 (by omega) (fun z => absurd (show (9 : Int) = 10 from z) (by decide)) (fun z => by have : 12 + 2 * n = 10 := z; omega) (by decide) hlen (fun g' q1 q2 s2 r2 m2 f2 => ⟨fun _ => ?_, fun z => absurd z (by decide)⟩) (fun g' q1 q2 s2 f2 => ⟨fun z => absurd rfl z, fun _ => ?_⟩) (fun q1 s2 f2 => by rw [hmL] at q1; cases q1)
    · rw [hmL] at q1
      have := Option.some.inj q1
      subst this
      rw [e2] at eok
      have okk := eok.mpr q2
      have sq := hy _ ei
      have bl : (pre ++ (inst R g ++ t)).length ≤ 1000 := r2.bd
      refine copy_k (n := 9) (m := 10) (by omega) r2 (by decide) (by have : capI 9 = 1000 := rfl; omega) (fun s3 r3 f3 => ⟨rng_small (by omega) (by omega), ih _ _ ⟨j + 1, _, by omega, by omega, r3, sq, by rw [ecs, e2']; exact hc1, by rw [e2] at ecp; exact ecp okk, ((f.trans (up f1)).trans (up10 f2)).trans (up9 f3), fun o q => ho o ?_⟩ (by omega)⟩)
      rw [ek]
      refine Or.inr ⟨_, g, hF, Or.inl ⟨by rw [e2']; exact okk, by rw [eap]; exact q⟩⟩
    · rw [hmL] at q1
      have := Option.some.inj q1
      subst this
      refine k0 (ho _ ?_) s2 ((f.trans (up f1)).trans (up10 f2))
      rw [ek]
      exact Or.inr ⟨_, g, hF, Or.inr ⟨fun z => q2 (by have := eok.mp z; rw [e2'] at this; exact this), rfl⟩⟩
  · refine k1 l1 (ho _ ?_) hl1 hc1 hp1 s1 (hr.ab f1) (f.trans (up f1))
    rw [ek]
    exact Or.inl ⟨by omega, rfl⟩
end AG
