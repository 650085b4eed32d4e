theorem mkFt {len x ta : Int} {t : Int → Int} {τ : Sg} (h1 : τ.1 3 4 = ta) (h2 : τ.2.1 4 = t) (h3 : τ.1 3 1 = len) (hg : RgS τ) (hx : 1 ≤ x ∧ x ≤ 3) (h0 : 0 ≤ ta ∧ ta ≤ len) : Ft t len (rfS τ x) x ta := ⟨rfl, h1, hx.1, hx.2, h0.1, h0.2, h2, h3, hg⟩
theorem rfS_fz {d x : Int} {τ : Sg} : Fz d τ (rfS τ x) := Fz.up (fun a b z => by show (pU (pU τ 2 1 x) 2 2 (τ.1 3 4)).1 a b = _; rw [pU_ne (by omega), pU_ne (by omega)]) rfl
theorem rfS_fr {d b0 x : Int} {τ : Sg} : Fr d b0 τ (rfS τ x) := Fr.up (fun a b z => by show (pU (pU τ 2 1 x) 2 2 (τ.1 3 4)).1 a b = _; rw [pU_ne (by omega), pU_ne (by omega)]) rfl
theorem end_bad {τ : Sg} {P : Sg → Prop} {k : Int} (hP : P (rfS τ 1)) (hp : (τ.1 2 6 = 0 ∧ k ≠ 59) ∨ (τ.1 2 6 = 1 ∧ k ≠ 60 ∧ k ≠ 61 ∧ k ≠ 62) ∨ (τ.1 2 6 = 2 ∧ k ≠ 123)) : wp5_R_endExpression τ k P := by
  have h184 : wp5_R_endExpression_184 P τ k := by
    unfold wp5_R_endExpression_184 wp5_R_endExpression_197
    exact ⟨fun _ => hP, fun z => by omega⟩
  have h137 : wp5_R_endExpression_137 P τ k := by
    unfold wp5_R_endExpression_137
    exact ⟨fun _ => h184, fun z => by omega⟩
  have h103 : wp5_R_endExpression_103 P τ k := by
    unfold wp5_R_endExpression_103
    exact ⟨fun _ => h137, fun z => ⟨fun _ => h137, fun z2 => by omega⟩⟩
  have h45 : ∀ s, (τ.1 2 6 = 1 → s = 0) → wp5_R_endExpression_45 P τ k s := by
    intro s hs
    unfold wp5_R_endExpression_45
    exact ⟨fun _ => h103, fun z => ⟨fun _ => h103, fun z2 => absurd (hs z) z2⟩⟩
  have h23 : ∀ s, (τ.1 2 6 = 1 → s = 0) → wp5_R_endExpression_23 P τ k s := by
    intro s hs
    unfold wp5_R_endExpression_23
    exact ⟨fun _ => h45 s hs, fun z => ⟨fun _ => h45 s hs, fun z2 => by omega⟩⟩
  unfold wp5_R_endExpression wp5_R_endExpression_18
  exact ⟨fun z => h23 1 (fun z2 => by omega), fun _ => ⟨fun z => h23 1 (fun z2 => by omega), fun _ => ⟨fun z => h23 0 (fun _ => rfl), fun z => h23 1 (fun z2 => by omega)⟩⟩⟩
theorem bo_end {τ : Sg} {P : Sg → Prop} {k : Int} (h8 : τ.1 2 13 ≤ 8) (hk : 0 < τ.1 2 13 → τ.2.1 5 (τ.1 2 13 - 1) ≠ 0) (e : τ.1 3 2 = k) (n : k ≠ 42 ∧ k ≠ 43 ∧ k ≠ 45) (h : wp5_R_endExpression τ k P) : wp5_R_takeBehindOperand τ P := by
  refine bo_out h8 hk ?_
  unfold wp5_R_takeBehindOperand_43
  rw [e]
  exact ⟨fun z => absurd z n.2.1, fun _ => ⟨fun z => absurd z n.2.2, fun _ => ⟨fun _ => ⟨fun z => absurd rfl z, fun _ => h⟩, fun z => absurd z n.1⟩⟩⟩
theorem RT.is {ru k v tk : Int} (h : RT ru k v tk) (hk : 0 ≤ k) (hv : k = 3 → 0 ≤ v ∧ v ≤ 25) (x : Int) (hx : 10 ≤ x ∧ x ≤ 125) : tk = x ↔ k = x := by unfold RT at h; omega
/-- an EXPRESSION and its semicolon -/
theorem expr_semi {K : Int → Sg → Prop} {b0 len i m a tk ta va w wa d c l : Int} {t f : Int → Int} {σ : Sg} (g : Gl t len) (S : Sy 5 0 0 300 0 b0 t len σ i f m a tk ta va d c l) (hp : σ.1 2 6 = 0) (h10 : σ.1 2 10 = σ.2.2.1 0 (σ.1 2 3)) (hst : ∀ j, 0 ≤ j → j < d → σ.2.1 5 j ≠ 0) :
    ∃ ok f' m' a' tk' ta' va' w' wa' d' c' l', (∀ P : Int → (Int → Int) → Int → Int → Int → Int → Int → Int → Int → Int → Int → Int → Prop, P ok f' m' a' tk' ta' va' w' wa' d' c' l' → wp_sumUp 100 f m t len a tk ta va w wa d c 300 l 0 0 (fun r f1 m1 a1 t1 ta1 v1 w1 wa1 d1 c1 l1 => (r = 0 → P 0 f1 m1 a1 t1 ta1 v1 w1 wa1 d1 c1 l1) ∧ (r ≠ 0 → wp_need t len a1 t1 ta1 v1 w1 wa1 0 59 (fun r2 a2 t2 ta2 v2 w2 wa2 => (r2 = 0 → P 0 f1 m1 a2 t2 ta2 v2 w2 wa2 d1 c1 l1) ∧ (r2 ≠ 0 → P 1 f1 m1 a2 t2 ta2 v2 w2 wa2 d1 c1 l1))))) ∧
      ((ok = 1 ∧ (w' = w ∧ wa' = wa ∧ d' = d) ∧ (∃ e, Ex (lfx 0) e ∧ Wr f m e f' m' ∧ c' = c + e.length) ∧ (0 ≤ l' ∧ l' ≤ 7) ∧ ∃ i' σ', CS K i σ i' σ' ∧ Tp 0 t len σ' i' a' tk' ta' va' ∧ σ'.1 2 5 = 0 ∧ Rw 0 0 b0 σ' f' m' ∧ Ct 300 σ' d c' ∧ Fr d b0 σ σ') ∨
       (ok = 0 ∧ (0 ≤ va' ∧ va' ≤ 9999) ∧ ∃ i' σ', CS K i σ i' σ' ∧ Ft t len σ' w' wa' ∧ Fr d b0 σ σ')) := by
  have hd8 := S.2.2.2.1.1
  obtain ⟨ok2, f2, m2, a2, tk2, ta2, va2, w2, wa2, d2, c2, l2, ev2, out2, st2⟩ := expr_ok (K := K) g 8 100 (by omega) σ i f m a tk ta va w wa d c l S h10 (by omega)
  rcases out2 with ⟨o1, ⟨o2, o3, o4, o5⟩, o6, i2, σ2, cs2, S2, fr2, oq⟩ | ⟨o1, ov, i2, σ2, cs2, ft2, fr2⟩
  · subst o1; subst o2; subst o3; subst o4
    obtain ⟨k2, v2, H2, hR2, hv2, hg2⟩ := Tp.hd g S2.2.1
    have S20 := S2
    obtain ⟨hs2, hT2, hRw2, hCt2, hLe2⟩ := S2
    have h352 := hT2.2.2.1
    have p6 : σ2.1 2 6 = 0 := (fr2.1 2 6 (by omega)).trans hp
    have nk := hR2.ops oq
    have kz : 0 < σ2.1 2 13 → σ2.2.1 5 (σ2.1 2 13 - 1) ≠ 0 := fun z => by
      have e := hCt2.1.1
      rw [← e] at z ⊢
      rw [(fr2.2.2.1 (d2 - 1) (by omega)).1]
      exact hst (d2 - 1) (by omega) (by omega)
    have h13 : σ2.1 2 13 ≤ 8 := by have := hCt2.1; omega
    by_cases k59 : k2 = 59
    · have t59 : tk2 = 59 := (hR2.is hg2.1 hg2.2.2.2.2.2.2.2.2.2 59 (by omega)).mpr k59
      obtain ⟨σ3, e3⟩ : ∃ σ3, σ3 = pU (tpS σ2 k2 v2 ta2 a2) 2 5 0 := ⟨_, rfl⟩
      have cs3 : CS K i2 σ2 (i2 + 1) σ3 := by
        rw [e3]
        refine CS_6 H2 hs2 (fun P hP => bo_end (k := k2) h13 kz rfl nk ?_)
        unfold wp5_R_endExpression wp5_R_endExpression_23
        exact ⟨fun z => absurd z (by omega), fun _ => ⟨fun z => absurd z (by omega), fun _ => ⟨fun _ => ⟨fun z => absurd p6 z, fun _ => ⟨fun z => absurd k59 z, fun _ => hP⟩⟩, fun z => absurd z (by omega)⟩⟩⟩
      obtain ⟨a3, tk3, ta3, va3, hT3, ev3⟩ := Tp.next (tk := tk2) (va := va2) (σ1 := σ3) g H2 hT2.2.2.2.2.2 (by omega) (by omega) (by rw [e3]; exact H2.1.1) (by rw [e3]; rfl) (by rw [e3]; exact H2.2.1.1) (by rw [e3]; exact H2.2.1.2.1) (by rw [e3]; rfl) (by rw [e3]; rfl) (by rw [e3]; exact hT2.1.2.2)
      obtain ⟨e, he, hw, hl, hn⟩ := st2 rfl
      refine ⟨1, f2, m2, a3, tk3, ta3, va3, w2, wa2, d2, c2, l2, fun P hP => ev2 _ ⟨fun z => absurd z (by decide), fun _ => ?_⟩, Or.inl ⟨rfl, ⟨rfl, rfl, rfl⟩, ⟨e, he, hw, hn⟩, hLe2.l7, i2 + 1, σ3, cs2.trans cs3, hT3, by rw [e3]; rfl, Rw.cg (by rw [e3]; rfl) (by rw [e3]; exact hRw2.2.1.2.2.2) (by rw [e3]; rfl) hRw2, ?_, fr2.trans (Int.le_refl _) ?_⟩⟩
      · unfold wp_need
        exact ⟨fun _ => ev3 _ ⟨fun z => absurd z (by decide), fun _ => hP⟩, fun z => absurd t59 z⟩
      · rw [e3]; exact hCt2
      · rw [e3]
        exact (tpS_fr (k := k2) (v := v2) (pl := ta2) (nx := a2)).trans (Int.le_refl _) (Fr.up (fun a b z => pU_ne (by omega)) rfl)
    · have t59 : tk2 ≠ 59 := fun z => k59 ((hR2.is hg2.1 hg2.2.2.2.2.2.2.2.2.2 59 (by omega)).mp z)
      refine ⟨0, f2, m2, a2, tk2, ta2, va2, 1, ta2, d2, c2, l2, fun P hP => ev2 _ ⟨fun z => absurd z (by decide), fun _ => ?_⟩, Or.inr ⟨rfl, hT2.2.2.2.2.2, i2 + 1, rfS (tpS σ2 k2 v2 ta2 a2) 1, cs2.trans (CS_6 H2 hs2 (fun P hP => bo_end (k := k2) h13 kz rfl nk (end_bad hP (Or.inl ⟨p6, k59⟩)))), mkFt rfl H2.2.1.1 H2.2.1.2.1 S20.rg (by omega) (by omega), fr2.trans (Int.le_refl _) ((tpS_fr (k := k2) (v := v2) (pl := ta2) (nx := a2)).trans (Int.le_refl _) rfS_fr)⟩⟩
      unfold wp_need wp_bad
      exact ⟨fun z => absurd z t59, fun _ => ⟨Or.inl rfl, fun _ => hP, fun z => absurd rfl z⟩⟩
  · subst o1
    exact ⟨0, f2, m2, a2, tk2, ta2, va2, w2, wa2, d2, c2, l2, fun P hP => ev2 _ ⟨fun _ => hP, fun z => absurd rfl z⟩, Or.inr ⟨rfl, ov, i2, σ2, cs2, ft2, fr2⟩⟩
