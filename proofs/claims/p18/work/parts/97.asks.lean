-- ===== the test of an if or a while: class and reference
theorem pZ_fz {d n : Int} {τ : Sg} {g : Int → Int} (hn : n = τ.1 2 3) : Fz d τ (pZ τ 0 n g) := by
  subst hn
  refine ⟨fun _ _ _ => rfl, fun _ _ _ _ => rfl, fun _ _ => rfl, fun m z => ⟨rfl, ?_⟩, fun c z => ⟨rfl, ?_⟩⟩
  · show uF _ (τ.1 2 3) _ m = _
    exact uF_ne z
  · show (bif Nat.beq c 0 then _ else τ.2.2.2 c) = _
    rw [show Nat.beq c 0 = false from Bool.eq_false_iff.mpr (fun q => z (Nat.eq_of_beq_eq_true q))]; rfl
/-- the state behind a test's sign -/
def chS (τ : Sg) (x : Int) : Sg := pZ τ 0 (τ.1 2 3) (uZ (τ.2.2.2 0 (τ.1 2 3)) (τ.1 2 12) x)
theorem chS_cell (τ : Sg) (x j : Int) : (chS τ x).2.2.2 0 (τ.1 2 3) j = if j = τ.1 2 12 then x else τ.2.2.2 0 (τ.1 2 3) j := by
  show uF _ (τ.1 2 3) (uZ (τ.2.2.2 0 (τ.1 2 3)) (τ.1 2 12) x) (τ.1 2 3) j = _
  rw [uF_eq]; rfl
theorem sign_at {τ : Sg} {P : Sg → Prop} {k : Int} (h3 : 0 ≤ τ.1 2 3 ∧ τ.1 2 3 < 35) (hp : τ.1 2 6 = 1) (h12 : 0 ≤ τ.1 2 12 ∧ τ.1 2 12 < τ.2.2.1 0 (τ.1 2 3) ∧ τ.2.2.1 0 (τ.1 2 3) ≤ capI (τ.1 2 3)) (hk : k = 60 ∨ k = 61 ∨ k = 62) (h : P (beS (chS τ (70 + k)) 2)) : wp5_R_endExpression τ k P := by
  have h92 : ∀ x, x = 70 + k → wp5_R_endExpression_92 P τ x := by
    intro x hx
    subst hx
    unfold wp5_R_endExpression_92 wp5_W_change wp5_R_beginExpression
    exact ⟨fun z => absurd z (by omega), fun _ => ⟨fun z => absurd z (by omega), fun _ => ⟨⟨h12.1, by omega⟩, ⟨h3, h⟩⟩⟩⟩
  have h45 : wp5_R_endExpression_45 P τ k 1 := by
    unfold wp5_R_endExpression_45
    exact ⟨fun z => absurd hp z, fun _ => ⟨fun z => absurd z (by decide), fun _ => ⟨h3, fun z => ⟨fun z2 => h92 132 (by omega), fun z2 => h92 131 (by omega)⟩, fun z => h92 130 (by omega)⟩⟩⟩
  have h23 : wp5_R_endExpression_23 P τ k 1 := by
    unfold wp5_R_endExpression_23
    exact ⟨fun _ => h45, fun z => absurd z (by omega)⟩
  unfold wp5_R_endExpression wp5_R_endExpression_18
  exact ⟨fun _ => h23, fun _ => ⟨fun _ => h23, fun _ => ⟨fun _ => False.elim (by omega), fun _ => h23⟩⟩⟩
section AS
variable {K : Int → Sg → Prop} {b0 len i m a tk ta va w wa d c l : Int} {t f : Int → Int} {σ : Sg}
def AsOut (K : Int → Sg → Prop) (b0 : Int) (t : Int → Int) (len : Int) (σ : Sg) (i : Int) (f : Int → Int) (m w wa d c ok : Int) (f' : Int → Int) (m' a' tk' ta' va' w' wa' d' c' l' : Int) : Prop :=
  (ok = 1 ∧ (w' = w ∧ wa' = wa ∧ d' = d) ∧ (tk' ≠ 42 ∧ tk' ≠ 43 ∧ tk' ≠ 45) ∧ (∃ x e1 e2, testC x ∧ Ex lfR e1 ∧ Ex lfR e2 ∧ Wr f m (x :: (e1 ++ e2)) f' m' ∧ c' = c + e1.length + e2.length) ∧
    ∃ i' σ' b1, CS K i σ i' σ' ∧ Sy 6 0 0 300 0 b1 t len σ' i' f' m' a' tk' ta' va' d' c' l' ∧ (m' = σ'.2.2.1 0 (σ'.1 2 3) ∧ ∀ j, 0 ≤ j → j < m' → f' j = σ'.2.2.2 0 (σ'.1 2 3) j) ∧ (σ'.1 2 6 = 2 ∧ σ'.1 2 12 = σ.1 2 12 ∧ σ'.1 2 7 = σ.1 2 7) ∧ Fz d σ σ') ∨
  (ok = 0 ∧ (0 ≤ va' ∧ va' ≤ 9999) ∧ ∃ i' σ', CS K i σ i' σ' ∧ Ft t len σ' w' wa' ∧ Fz d σ σ' ∧ σ'.1 2 7 = σ.1 2 7)
theorem test_ok (g : Gl t len) (S : Sy 5 0 0 300 (-1) b0 t len σ i f m a tk ta va d c l) (hp : σ.1 2 6 = 1) (h10 : σ.1 2 10 = σ.2.2.1 0 (σ.1 2 3)) (hb : b0 = σ.2.2.1 0 (σ.1 2 3)) (h12 : σ.1 2 12 = b0 - 1) (hb1 : 1 ≤ b0 ∧ b0 ≤ c + 200) (cap : capI (σ.1 2 3) = 1000) (hpre : ∀ j, 0 ≤ j → j < b0 - 1 → f j = σ.2.2.2 0 (σ.1 2 3) j) (hst : ∀ j, 0 ≤ j → j < d → σ.2.1 5 j ≠ 0) :
    ∃ ok f' m' a' tk' ta' va' w' wa' d' c' l', (∀ P : Int → (Int → Int) → Int → Int → Int → Int → Int → Int → Int → Int → Int → Int → Prop, P ok f' m' a' tk' ta' va' w' wa' d' c' l' → wp_asks f m t len a tk ta va w wa d c 300 l 0 0 P) ∧ AsOut K b0 t len σ i f m w wa d c ok f' m' a' tk' ta' va' w' wa' d' c' l' := by
  have hd8 := S.2.2.2.1.1
  have hm0 := S.2.2.1.2.2.1
  have hc0 := S.2.2.2.1.2.1
  obtain ⟨ok2, f2, m2, a2, tk2, ta2, va2, w2, wa2, d2, c2, l2, ev2, out2, st2⟩ := expr_ok (K := K) g 8 100 (by omega) σ i f m a tk ta va w wa d c l S h10 (by omega)
  rcases out2 with ⟨o1, ⟨o2, o3, o4, o5⟩, o6, i2, σ2, cs2, S2, fr2, oq⟩ | ⟨o1, ov, i2, σ2, cs2, ft2, fr2⟩
  · subst o1; subst o2; subst o3; subst o4
    obtain ⟨e1, he1, hw1, hl1, hn1⟩ := st2 rfl
    obtain ⟨k2, v2, H2, hR2, hv2, hg2⟩ := Tp.hd g S2.2.1
    have S20 := S2
    obtain ⟨hs2, hT2, hRw2, hCt2, hLe2⟩ := S2
    have h352 := hT2.2.2.1
    have p6 : σ2.1 2 6 = 1 := (fr2.1 2 6 (by omega)).trans hp
    have r2 := fr2.row
    have nk := hR2.ops oq
    have his := hR2.is hg2.1 hg2.2.2.2.2.2.2.2.2.2
    have kz : 0 < σ2.1 2 13 → σ2.2.1 5 (σ2.1 2 13 - 1) ≠ 0 := fun z => by
      have e := hCt2.1.1
      rw [← e] at z ⊢
      rw [(fr2.2.2.1 (d2 - 1) (by omega)).1]
      exact hst (d2 - 1) (by omega) (by omega)
    have h13 : σ2.1 2 13 ≤ 8 := by have := hCt2.1; omega
    have hm2 := hRw2.2.2.1
    by_cases kt : k2 = 60 ∨ k2 = 61 ∨ k2 = 62
    · -- one of the three signs
      have tC : testC (70 + k2) := by unfold testC; omega
      have hlen := hw1.1
      have q3 : 0 ≤ σ2.1 2 3 ∧ σ2.1 2 3 < 35 := hRw2.1
      have z12 : σ2.1 2 12 = b0 - 1 := (fr2.1 2 12 (by omega)).trans h12
      have zlen : b0 ≤ σ2.2.2.1 0 (σ2.1 2 3) := by rw [r2, hb]; exact fr2.2.2.2.2.2.2
      have zcap : capI (σ2.1 2 3) = 1000 := by rw [r2]; exact cap
      have zc := hCt2.2.1
      obtain ⟨A, eA⟩ : ∃ A, A = chS (tpS σ2 k2 v2 ta2 a2) (70 + k2) := ⟨_, rfl⟩
      have eA1 : A.1 = (tpS σ2 k2 v2 ta2 a2).1 := by rw [eA]; rfl
      have eA2 : A.2.2.1 = σ2.2.2.1 := by rw [eA]; rfl
      have eA3 : A.2.1 = σ2.2.1 := by rw [eA]; rfl
      have eAc : ∀ j, A.2.2.2 0 (σ2.1 2 3) j = if j = σ2.1 2 12 then 70 + k2 else σ2.2.2.2 0 (σ2.1 2 3) j := fun j => by rw [eA]; exact chS_cell (tpS σ2 k2 v2 ta2 a2) (70 + k2) j
      have cs3 : CS K i2 σ2 (i2 + 1) (beS A 2) := by
        rw [eA]
        refine CS_6 H2 hs2 (fun P hP => bo_end (k := k2) h13 kz rfl nk ?_)
        refine sign_at q3 p6 ⟨?_, ?_, ?_⟩ kt hP
        · show 0 ≤ σ2.1 2 12; omega
        · show σ2.1 2 12 < σ2.2.2.1 0 (σ2.1 2 3); omega
        · show σ2.2.2.1 0 (σ2.1 2 3) ≤ capI (σ2.1 2 3); omega
      have fz3 : Fz d2 σ2 (beS A 2) := by
        rw [eA]
        exact tpS_fz.trans (Int.le_refl _) ((pZ_fz rfl).trans (Int.le_refl _) beS_fz)
      have y3 : (beS A 2).1 2 3 = σ2.1 2 3 := by show A.1 2 3 = _; rw [eA1]; rfl
      have yl : (beS A 2).2.2.1 0 (σ2.1 2 3) = σ2.2.2.1 0 (σ2.1 2 3) := by show A.2.2.1 0 (σ2.1 2 3) = _; rw [eA2]
      have y10 : A.2.2.1 0 (A.1 2 3) = σ2.2.2.1 0 (σ2.1 2 3) := by rw [eA2, eA1]; rfl
      obtain ⟨a3, tk3, ta3, va3, hT3, ev3⟩ := Tp.next (tk := tk2) (va := va2) (σ1 := beS A 2) g H2 hT2.2.2.2.2.2 (by omega) (by omega) (by show A.1 2 1 = 0; rw [eA1]; exact H2.1.1) (by show A.1 3 2 = k2; rw [eA1]; rfl) (by show A.2.1 4 = t; rw [eA3]; exact H2.2.1.1) (by show A.1 3 1 = len; rw [eA1]; exact H2.2.1.2.1) (by show A.1 3 5 = a2; rw [eA1]; rfl) (by show A.1 2 4 = σ2.1 2 4; rw [eA1]; rfl) (by show A.1 2 2 = -1; rw [eA1]; exact hT2.1.2.2)
      have S3 : Sy 5 0 0 300 0 (m2 + 1) t len (beS A 2) (i2 + 1) (insF f2 m m2 (70 + k2)) (m2 + 1) a3 tk3 ta3 va3 d2 c2 l2 :=
        mkSy hT3 rfl (by rw [y3]; exact q3) (by rw [y3]; exact zcap) (by rw [y3, yl]; omega) (by omega) (by omega) (by omega) (by show A.2.2.1 0 (A.1 2 3) = m2 + 1; rw [y10]; omega) (by show A.2.2.1 0 (A.1 2 3) = m2 + 1; rw [y10]; omega) (by show (2 : Int) < 3; decide) (by show d2 = A.1 2 13 ∧ _; rw [eA1]; exact hCt2.1) (by show c2 = A.1 2 8 ∧ A.1 2 9 = 300 ∧ _; rw [eA1]; exact ⟨zc.1, zc.2.1, zc.2.2.1, zc.2.2.2.1⟩) hLe2.l7 (by omega)
      obtain ⟨ok4, f4, m4, a4, tk4, ta4, va4, w4, wa4, d4, c4, l4, ev4, out4, st4⟩ := expr_ok (K := K) g 8 100 (by omega) (beS A 2) (i2 + 1) (insF f2 m m2 (70 + k2)) (m2 + 1) a3 tk3 ta3 va3 w2 wa2 d2 c2 l2 S3 (by rw [y3, yl]; exact y10) (by omega)
      have run : ∀ P : Int → (Int → Int) → Int → Int → Int → Int → Int → Int → Int → Int → Int → Int → Prop, (ok4 = 0 ∨ ok4 = 1) → P ok4 f4 m4 a4 tk4 ta4 va4 w4 wa4 d4 c4 l4 → wp_asks f m t len a tk ta va w2 wa2 d2 c 300 l 0 0 P := by
        intro P h01 hP
        clear out4 st4 st2
        unfold wp_asks
        refine ev2 _ ⟨fun _ => ?_, fun z => absurd z (by decide)⟩
        have h60 : ∀ x, x = 70 + k2 → wp_asks_60 P m t len 300 0 0 a2 c2 d2 f2 l2 m2 ta2 tk2 va2 wa2 w2 x := by
          intro x hx
          subst hx
          unfold wp_asks_60
          refine ⟨fun _ => ev3 _ ?_, fun z => absurd z (by omega)⟩
          refine ahead_at (by omega) (by omega) (by omega) ?_
          exact ev4 _ ⟨h01, hP⟩
        have i60 := his 60 (by omega)
        have i61 := his 61 (by omega)
        have i62 := his 62 (by omega)
        exact ⟨fun z1 => ⟨fun z2 => ⟨fun z3 => False.elim (by omega), fun z3 => h60 132 (by omega)⟩, fun z2 => h60 131 (by omega)⟩, fun z1 => h60 130 (by omega)⟩
      have f7 : (beS A 2).1 2 7 = σ.1 2 7 := by show A.1 2 7 = _; rw [eA1]; exact fr2.1 2 7 (by omega)
      have f12 : (beS A 2).1 2 12 = σ.1 2 12 := by show A.1 2 12 = _; rw [eA1]; exact fr2.1 2 12 (by omega)
      refine ⟨ok4, f4, m4, a4, tk4, ta4, va4, w4, wa4, d4, c4, l4, fun P hP => run P (by rcases out4 with ⟨z, _⟩ | ⟨z, _⟩; exact Or.inr z; exact Or.inl z) hP, ?_⟩
      rcases out4 with ⟨q1, ⟨q2, q4, q5, q6⟩, q7, i4, σ4, cs4, S4, fr4, oq4⟩ | ⟨q1, ov4, i4, σ4, cs4, ft4, fr4⟩
      · subst q1; subst q2; subst q4; subst q5
        obtain ⟨e2, he2, hw2, hl2, hn2⟩ := st4 rfl
        have r4 := fr4.row
        refine Or.inl ⟨rfl, ⟨rfl, rfl, rfl⟩, oq4, ⟨70 + k2, e1, e2, tC, lfx0 he1, lfx0 he2, ?_, by rw [hn2, hn1]⟩, i4, σ4, m2 + 1, (cs2.trans cs3).trans cs4, S4, ?_, ⟨(fr4.1 2 6 (by omega)).trans rfl, (fr4.1 2 12 (by omega)).trans f12, (fr4.1 2 7 (by omega)).trans f7⟩, fr2.z.trans (Int.le_refl _) (fz3.trans (Int.le_refl _) fr4.z)⟩
        · have := (wrI (h := 70 + k2) hw1).app hw2
          simpa using this
        · clear st2 st4
          refine row_eq (f0 := f) (σ := σ) S4.2.2.1 (fun j j0 j1 => ?_)
          rw [q7 j (by omega)]
          have z4 := fr4.2.2.2.2.2.1 j j1
          rw [r4, z4, y3]
          show insF f2 m m2 (70 + k2) j = A.2.2.2 0 (σ2.1 2 3) j
          rw [eAc]
          unfold insF
          by_cases jm : j = m
          · rw [if_pos jm, if_pos (show j = σ2.1 2 12 by omega)]
          · rw [if_neg jm, if_neg (show ¬ j = σ2.1 2 12 by omega)]
            by_cases jl : m < j
            · rw [if_pos (show m < j ∧ j ≤ m2 from ⟨jl, by omega⟩)]
              have := hRw2.2.2.2 j (by omega) (by omega)
              rw [show (-1 : Int) + j = j - 1 by omega] at this
              rw [this]; unfold cm; rw [if_neg (by omega)]
            · rw [if_neg (show ¬ (m < j ∧ j ≤ m2) by omega), o6 j (by omega), hpre j j0 (by omega), r2]
              exact (fr2.2.2.2.2.2.1 j (by omega)).symm
      · exact Or.inr ⟨q1, ov4, i4, σ4, (cs2.trans cs3).trans cs4, ft4, fr2.z.trans (Int.le_refl _) (fz3.trans (Int.le_refl _) fr4.z), (fr4.1 2 7 (by omega)).trans f7⟩
    · -- none
      refine ⟨0, f2, m2, a2, tk2, ta2, va2, 1, ta2, d2, c2, l2, fun P hP => ?_, Or.inr ⟨rfl, hT2.2.2.2.2.2, i2 + 1, rfS (tpS σ2 k2 v2 ta2 a2) 1, cs2.trans (CS_6 H2 hs2 (fun P hP => bo_end (k := k2) h13 kz rfl nk (end_bad hP (Or.inr (Or.inl ⟨p6, by omega, by omega, by omega⟩))))), mkFt rfl H2.2.1.1 H2.2.1.2.1 S20.rg (by omega) (by omega), fr2.z.trans (Int.le_refl _) ((tpS_fz (k := k2) (v := v2) (pl := ta2) (nx := a2)).trans (Int.le_refl _) rfS_fz), fr2.1 2 7 (by omega)⟩⟩
      have i60 := his 60 (by omega)
      have i61 := his 61 (by omega)
      have i62 := his 62 (by omega)
      unfold wp_asks
      refine ev2 _ ⟨fun _ => ⟨fun _ => ⟨fun _ => ⟨fun _ => ?_, fun z => absurd z (by omega)⟩, fun z => absurd z (by omega)⟩, fun z => absurd z (by omega)⟩, fun z => absurd z (by decide)⟩
      unfold wp_asks_60 wp_bad
      exact ⟨fun z => absurd rfl z, fun _ => ⟨Or.inl rfl, hP⟩⟩
  · subst o1
    refine ⟨0, f2, m2, a2, tk2, ta2, va2, w2, wa2, d2, c2, l2, fun P hP => ?_, Or.inr ⟨rfl, ov, i2, σ2, cs2, ft2, fr2.z, fr2.1 2 7 (by omega)⟩⟩
    unfold wp_asks
    exact ev2 _ ⟨fun z => absurd rfl z, fun _ => hP⟩
end AS
