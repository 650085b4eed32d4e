def cpR (rule f : Int → Int) (r i : Int) : Int → Int := fun j => if 40 * r ≤ j ∧ j < 40 * r + i then f (j - 40 * r) else rule j
theorem at_ex {g : Int → Int} : ∀ (n : Nat) (p : Int), ∃ X : List Int, X.length = n ∧ At g p X
  | 0, _ => ⟨[], rfl, trivial⟩
  | n + 1, p => by
    obtain ⟨X, h1, h2⟩ := at_ex (g := g) n (p + 1)
    exact ⟨g p :: X, by rw [List.length_cons, h1], rfl, h2⟩
theorem at_map {f g h : Int → Int} : ∀ {X : List Int} {p q : Int}, At g p X → (∀ i : Int, 0 ≤ i → i < X.length → f (q + i) = h (g (p + i))) → At f q (X.map h)
  | [], _, _, _, _ => trivial
  | c :: X, p, q, ha, hf => by
    refine ⟨?_, at_map ha.2 (fun i i0 i1 => ?_)⟩
    · have := hf 0 (Int.le_refl 0) (by simp only [List.length_cons]; omega)
      rw [Int.add_zero, Int.add_zero, ha.1] at this
      exact this
    · have := hf (i + 1) (by omega) (by simp only [List.length_cons]; omega)
      rw [show q + (i + 1) = q + 1 + i by omega, show p + (i + 1) = p + 1 + i by omega] at this
      exact this
/-- what a RULE adds on both sides -/
def NewR (σ σ' : Sg) (rule rR rL rule' rR' rL' : Int → Int) : Prop := (σ'.1 0 1 = σ.1 0 1 ∧ rule' = rule ∧ rR' = rR ∧ rL' = rL) ∨ (σ'.1 0 1 = σ.1 0 1 + 1 ∧ ∃ X Y : List Int, Ex lfU (X.map (cm 1)) ∧ Ex lfU (Y.map (cm 1)) ∧ (∀ c ∈ Y.map (cm 1), 30 ≤ c → c ≤ 32 → c ∈ X.map (cm 1)) ∧ X.length + Y.length ≤ 40 ∧ At rule' (40 * σ.1 0 1) (X.map (cm 1) ++ Y.map (cm 1)) ∧ rR' (σ.1 0 1) = X.length ∧ rL' (σ.1 0 1) = X.length + Y.length ∧ (∀ j, j < 40 * σ.1 0 1 → rule' j = rule j) ∧ (∀ j, j ≠ σ.1 0 1 → rR' j = rR j ∧ rL' j = rL j) ∧ At (σ'.2.2.2 0 (11 + 2 * σ.1 0 1)) 0 X ∧ σ'.2.2.1 0 (11 + 2 * σ.1 0 1) = X.length ∧ At (σ'.2.2.2 0 (12 + 2 * σ.1 0 1)) 0 Y ∧ σ'.2.2.1 0 (12 + 2 * σ.1 0 1) = Y.length)
/-- rule(): both come to the same end -/
theorem rule_both {σ : Sg} {fresh rule rR rL lt : Int → Int} {made at0 token tokenAt value wrong wrongAt fk depth cP cS pM lL fp iR iT : Int} (g : Gl (σ.2.1 4) (σ.1 3 1)) (hc : 0 ≤ σ.1 0 1 ∧ σ.1 0 1 ≤ 12) (hW : RWa (σ.1 0 1) rule rR rL) (hva : 0 ≤ value ∧ value ≤ 9999) (hRd : RdOk σ) (hRo : RowOk σ) :
    ∃ (r : Int) (σ' : Sg), (∀ K, K r σ' → wp5_S_rule σ K) ∧ PostR σ σ' ∧ ∃ fresh' made' at' token' tokenAt' value' wrong' wrongAt' fk' depth' cP' cS' pM' lL' fp' iR' iT' rule' rR' rL' lt',
      (∀ K, K r fresh' made' 0 at' token' tokenAt' value' wrong' wrongAt' fk' depth' cP' cS' pM' lL' fp' iR' iT' (σ'.1 0 1) rule' rR' rL' lt' → wp_rule fresh made (σ.2.1 4) (σ.1 3 1) at0 token tokenAt value wrong wrongAt fk depth cP cS pM lL fp iR iT (σ.1 0 1) rule rR rL lt K) ∧ (fk' = σ'.1 2 1 ∧ fp' = σ'.1 2 2) ∧ RWa (σ'.1 0 1) rule' rR' rL' ∧ 0 ≤ value' ∧ value' ≤ 9999 ∧ NewR σ σ' rule rR rL rule' rR' rL' := by
  by_cases h12 : σ.1 0 1 = 12
  · refine ⟨-1, pU (pU (pU σ 2 1 0) 2 2 (-1)) 3 1 0, fun K hK => ?_, ⟨rfl, ⟨by show σ.1 0 1 ≤ σ.1 0 1; omega, by show σ.1 0 1 ≤ 12; omega⟩, ⟨fun a b z1 z2 _ => by rw [pU_ne (Or.inl z2), pU_ne (Or.inl z1), pU_ne (Or.inl z1)], fun _ _ _ _ => rfl, fun _ _ _ => ⟨rfl, rfl⟩, fun _ _ => rfl, fun _ _ _ => rfl, fun _ _ => rfl⟩, hRd, hRo⟩, fresh, made, at0, token, tokenAt, value, 0, wrongAt, 0, depth, cP, cS, pM, lL, -1, iR, iT, rule, rR, rL, lt, fun K hK => ?_, ⟨rfl, rfl⟩, hW, hva.1, hva.2, Or.inl ⟨rfl, rfl, rfl, rfl⟩⟩
    · unfold wp5_S_rule wp5_P_ruleAt wp5_R_drop wp5_T_shorten
      refine ⟨fun z => absurd z (by omega), fun _ => ⟨fun _ => ⟨fun _ => ⟨fun z => absurd z (by decide), fun _ => ⟨fun _ => hK, fun z => absurd z (by show ¬ σ.1 3 1 < 0; have := g.1; omega)⟩⟩, fun z => absurd z (by decide)⟩, fun z => absurd z (by omega)⟩⟩
    · unfold wp_rule wp_ends
      exact ⟨fun z => absurd h12 z, fun _ => ⟨fun z => absurd rfl z, fun _ => hK⟩⟩
  · obtain ⟨r, er⟩ : ∃ r, r = σ.1 0 1 := ⟨_, rfl⟩
    have hr : 0 ≤ r ∧ r < 12 := by omega
    have cr := cap_rule hr.1
    obtain ⟨a1, tk1, ta1, va1, S1, ev1⟩ := rule_start (fresh := fresh) (token := token) (tokenAt := tokenAt) g hr hva
    obtain ⟨ok2, f2, m2, a2, tk2, ta2, va2, w2, wa2, d2, c2, l2, ev2, out2, st2⟩ := expr_ok (K := fun _ _ => True) g 8 100 (by omega) (bgS σ r) 0 fresh 0 a1 tk1 ta1 va1 0 (-1) 0 0 0 S1 (by show (bg0 σ r).2.2.1 0 (11 + 2 * r) = (bgS σ r).2.2.1 0 (11 + 2 * r); rw [bg0_left, bg_left]) (by omega)
    -- the class up to reading
    have cls : ∀ K, wp5_R_readAll (bgS σ r) (fun r37 σr37 => (r37 ≠ 0 → rng ((σr37.1 0 1) + 1) ∧ rng (((σr37.1 0 1) + 1) - 1) ∧ K (((σr37.1 0 1) + 1) - 1) (pU σr37 0 1 ((σr37.1 0 1) + 1))) ∧ (r37 = 0 → K (-1) σr37)) → wp5_S_rule σ K := by
      intro K h
      unfold wp5_S_rule wp5_P_ruleAt
      rw [← er]
      exact ⟨fun z => absurd z (by omega), fun _ => ⟨fun z => absurd z (by omega), fun _ => ⟨⟨hr.1, hr.2⟩, ⟨fun z => absurd z (by omega), fun _ => ⟨⟨hr.1, hr.2⟩, begin_at hr h⟩⟩⟩⟩⟩
    -- the reference up to its left side
    have ref : ∀ K, ((ok2 = 0 → wp_rule_47 K (σ.2.1 4) (σ.1 3 1) fk fp r rule rR rL lt c2 0 d2 f2 1 l2 m2 40 a2 tk2 ta2 va2 w2 wa2) ∧ (ok2 ≠ 0 → wp_need (σ.2.1 4) (σ.1 3 1) a2 tk2 ta2 va2 w2 wa2 1 8 (fun r37 at0_r37 token_r37 tokenAt_r37 value_r37 wrong_r37 wrongAt_r37 => (r37 = 0 → wp_rule_47 K (σ.2.1 4) (σ.1 3 1) fk fp r rule rR rL lt c2 0 d2 f2 1 l2 m2 40 at0_r37 token_r37 tokenAt_r37 value_r37 wrong_r37 wrongAt_r37) ∧ (r37 ≠ 0 → wp_rule_48 K (σ.2.1 4) (σ.1 3 1) fk fp r rule rR rL lt c2 0 d2 f2 1 l2 m2 40 1 at0_r37 token_r37 tokenAt_r37 value_r37 wrong_r37 wrongAt_r37)))) → wp_rule fresh made (σ.2.1 4) (σ.1 3 1) at0 token tokenAt value wrong wrongAt fk depth cP cS pM lL fp iR iT r rule rR rL lt K := by
      intro K h
      unfold wp_rule wp_begins
      exact ⟨fun _ => ⟨Or.inr rfl, ev1 _ (ev2 _ h)⟩, fun z => absurd z (by omega)⟩
    -- a fault, told alike
    have fault : ∀ (i' : Int) (σx : Sg) (fx : Int → Int) (mx ax tkx tax vax w wa dx cx lx m28 : Int), CS (fun _ _ => True) 0 (bgS σ r) i' σx → Ft (σ.2.1 4) (σ.1 3 1) σx w wa → FrR r σ σx → (σx.1 2 7 = 0 ∧ σx.1 2 9 = 40) → (∀ n, n = 11 + 2 * r ∨ n = 12 + 2 * r → 0 ≤ σx.2.2.1 0 n ∧ σx.2.2.1 0 n ≤ 40) → (0 ≤ vax ∧ vax ≤ 9999) → (∀ K, wp_rule_89 K (σ.1 3 1) fk fp r rule rR rL lt 0 1 m28 40 fx mx ax tkx tax vax w wa dx cx lx → wp_rule fresh made (σ.2.1 4) (σ.1 3 1) at0 token tokenAt value wrong wrongAt fk depth cP cS pM lL fp iR iT r rule rR rL lt K) →
        ∃ (r' : Int) (σ' : Sg), (∀ K, K r' σ' → wp5_S_rule σ K) ∧ PostR σ σ' ∧ ∃ fresh' made' at' token' tokenAt' value' wrong' wrongAt' fk' depth' cP' cS' pM' lL' fp' iR' iT' rule' rR' rL' lt', (∀ K, K r' fresh' made' 0 at' token' tokenAt' value' wrong' wrongAt' fk' depth' cP' cS' pM' lL' fp' iR' iT' (σ'.1 0 1) rule' rR' rL' lt' → wp_rule fresh made (σ.2.1 4) (σ.1 3 1) at0 token tokenAt value wrong wrongAt fk depth cP cS pM lL fp iR iT r rule rR rL lt K) ∧ (fk' = σ'.1 2 1 ∧ fp' = σ'.1 2 2) ∧ RWa (σ'.1 0 1) rule' rR' rL' ∧ 0 ≤ value' ∧ value' ≤ 9999 ∧ NewR σ σ' rule rR rL rule' rR' rL' := by
      intro i' σx fx mx ax tkx tax vax w wa dx cx lx m28 cs ft fr hx7 hxl hvx hev
      obtain ⟨f1, f2', f3, f4, f5, f6, f7, f8, frg⟩ := ft
      have e01 : σx.1 0 1 = r := (fr.1 0 1 (by decide) (by decide)).trans er.symm
      refine ⟨-1, pU σx 3 1 0, fun K hK => cls K (read_fault (by omega) (by rw [f8]; exact g.1) cs ⟨fun z => absurd rfl z, fun _ => hK⟩), ⟨rfl, ⟨by show σ.1 0 1 ≤ σx.1 0 1; omega, by show σx.1 0 1 ≤ 12; omega⟩, ?_, ?_, ?_⟩, fx, mx, ax, tkx, tax, vax, w, wa, w, dx, cx, 0, 40, lx, wa, 1, 1, rule, rR, rL, lt, fun K hK => hev K ?_, ⟨f1.symm, f2'.symm⟩, ?_, hvx.1, hvx.2, Or.inl ⟨e01.trans er, rfl, rfl, rfl⟩⟩
      · rw [← er]
        exact FrQ.of fr (fun a b _ z2 _ => pU_ne (Or.inl z2)) rfl
      · exact ⟨by show 0 ≤ σx.1 2 7 ∧ σx.1 2 7 ≤ 40; omega, by show 0 ≤ σx.1 2 9 ∧ σx.1 2 9 ≤ 1000; omega, frg.1⟩
      · exact fun _ _ _ => trivial
      · have hK : K (-1) fx mx 0 ax tkx tax vax w wa w dx cx 0 40 lx wa 1 1 (σx.1 0 1) rule rR rL lt := hK
        rw [e01] at hK
        unfold wp_rule_89 wp_rule_90 wp_ends
        exact ⟨fun _ => ⟨fun z => absurd rfl z, fun _ => hK⟩, fun z => absurd z (by omega)⟩
      · show RWa (σx.1 0 1) rule rR rL
        rw [e01, er]; exact hW
    rw [← er]
    have fr1 := FrR.bg σ r
    rcases out2 with ⟨o1, ⟨o2, o3, o4, o5⟩, o6, i2, σ2, cs2, S2, fr2, oq⟩ | ⟨o1, ov, i2, σ2, cs2, ft2, fr2⟩
    · subst o1; subst o2; subst o3; subst o4
      have x3 : σ2.1 2 3 = 11 + 2 * r := fr2.row
      have x4 : σ2.1 2 4 = r := fr2.1 2 4 (by omega)
      have x7 : σ2.1 2 7 = 0 := fr2.1 2 7 (by omega)
      have x9 : σ2.1 2 9 = 40 := fr2.1 2 9 (by omega)
      have xr : σ2.2.2.1 0 (12 + 2 * r) = 0 := by rw [(fr2.2.2.2.1 (12 + 2 * r) (by show 12 + 2 * r ≠ 11 + 2 * r; omega)).1]; exact bg_right σ r
      have rg2 := S2.rg
      have xl2 : 0 ≤ σ2.2.2.1 0 (11 + 2 * r) ∧ σ2.2.2.1 0 (11 + 2 * r) ≤ 40 := by
        have := rg2.2.2; rw [x3, cr.1] at this; exact this
      have frA : FrR r σ σ2 := fr1.trans (FrR.of (Or.inl rfl) fr2)
      have va2r := S2.2.1.2.2.2.2.2
      by_cases t8 : tk2 = 8
      · obtain ⟨σ3, a3, tk3, ta3, va3, cs3, S3, fr3, ⟨y3, y10, yl, y7, y9, yc⟩, ev3⟩ := rule_arrow (K0 := fun _ _ => True) (r := r) g S2 ⟨x4, x3⟩ hr xr t8
        obtain ⟨ok4, f4, m4, a4, tk4, ta4, va4, w4, wa4, d4, c4, l4, ev4, out4, st4⟩ := expr_ok (K := fun _ _ => True) g 8 100 (by omega) σ3 (i2 + 1) f2 m2 a3 tk3 ta3 va3 0 (-1) 0 c2 l2 S3 y10 (by omega)
        have ref2 : ∀ K, ((ok4 = 0 → wp_rule_89 K (σ.1 3 1) fk fp r rule rR rL lt 0 1 m2 40 f4 m4 a4 tk4 ta4 va4 w4 wa4 d4 c4 l4) ∧ (ok4 ≠ 0 → (tk4 = 0 → wp_rule_85 K (σ.1 3 1) fk fp r rule rR rL lt a4 c4 0 d4 f4 1 l4 m2 m4 40 ta4 tk4 va4 w4 wa4) ∧ (tk4 ≠ 0 → wp_rule_89 K (σ.1 3 1) fk fp r rule rR rL lt 0 1 m2 40 f4 m4 a4 tk4 ta4 va4 1 ta4 d4 c4 l4))) → wp_rule fresh made (σ.2.1 4) (σ.1 3 1) at0 token tokenAt value wrong wrongAt fk depth cP cS pM lL fp iR iT r rule rR rL lt K := by
          intro K h
          refine ref K ⟨fun z => absurd z (by decide), fun _ => ?_⟩
          unfold wp_need
          refine ⟨fun _ => ev3 _ ⟨fun z => absurd z (by decide), fun _ => ?_⟩, fun z => absurd t8 z⟩
          unfold wp_rule_48 wp_bad
          exact ⟨fun z => absurd z (by decide), fun _ => ev4 _ ⟨h.1, fun z => ⟨(h.2 z).1, fun q => ⟨fun _ => (h.2 z).2 q, fun w => absurd rfl w⟩⟩⟩⟩
        rcases out4 with ⟨o1, ⟨o2, o3, o4, o5'⟩, o6', i4, σ4, cs4, S4, fr4, oq4⟩ | ⟨o1, ov, i4, σ4, cs4, ft4, fr4⟩
        · subst o1; subst o2; subst o3; subst o4
          have z3 : σ4.1 2 3 = 12 + 2 * r := fr4.row.trans y3
          have z7 : σ4.1 2 7 = 0 := (fr4.1 2 7 (by omega)).trans (y7.trans x7)
          have z9 : σ4.1 2 9 = 40 := (fr4.1 2 9 (by omega)).trans (y9.trans x9)
          have zl : σ4.2.2.1 0 (11 + 2 * r) = σ2.2.2.1 0 (11 + 2 * r) := (fr4.2.2.2.1 (11 + 2 * r) (by rw [y3]; omega)).1.trans yl
          have rg4 := S4.rg
          have zr : 0 ≤ σ4.2.2.1 0 (12 + 2 * r) ∧ σ4.2.2.1 0 (12 + 2 * r) ≤ 40 := by
            have := rg4.2.2; rw [z3, cr.2] at this; exact this
          have frB : FrR r σ σ4 := frA.trans (fr3.trans (FrR.of (Or.inr y3) fr4))
          have va4r := S4.2.1.2.2.2.2.2
          by_cases t0 : tk4 = 0
          · obtain ⟨σ5, cs5, ⟨q1, q2, q3⟩, fr5, q4, q5⟩ := rule_over (K0 := fun _ _ => True) g S4 t0
            have frC : FrR r σ σ5 := frB.trans (FrR.of (Or.inr z3) fr5)
            have e01 : σ5.1 0 1 = r := (frC.1 0 1 (by decide) (by decide)).trans er.symm
            have l5 : ∀ n, σ5.2.2.1 0 n = σ4.2.2.1 0 n := fun n => by rw [q5]
            obtain ⟨e1, he1, hw1, hl1, hn1⟩ := st2 rfl
            obtain ⟨e2, he2, hw2, hl2, hn2⟩ := st4 rfl
            have hA := (hw1.app hw2).2.1
            have c40 : c4 ≤ 40 := S4.2.2.2.1.2.1.2.2.2.1
            have hm2 := hw1.1
            have hm4 := hw2.1
            have hnew : NewR σ (pU (pU σ5 3 1 0) 0 1 (r + 1)) rule rR rL (cpR rule f4 r m4) (uZ rR r m2) (uZ rL r m4) := by
              have c5 : ∀ n, σ5.2.2.2 0 n = σ4.2.2.2 0 n := fun n => by rw [q5]
              have w1 := S2.2.2.1
              have w2 := S4.2.2.1
              unfold Rw at w1 w2
              rw [x3] at w1
              rw [z3] at w2
              obtain ⟨_, _, g1, g2⟩ := w1
              obtain ⟨_, _, k1, k2⟩ := w2
              have cl : σ4.2.2.2 0 (11 + 2 * r) = σ2.2.2.2 0 (11 + 2 * r) := (fr4.2.2.2.1 (11 + 2 * r) (by rw [y3]; omega)).2.trans yc
              obtain ⟨X, X1, X2⟩ := at_ex (g := σ2.2.2.2 0 (11 + 2 * r)) (σ2.2.2.1 0 (11 + 2 * r)).toNat 0
              obtain ⟨Y, Y1, Y2⟩ := at_ex (g := σ4.2.2.2 0 (12 + 2 * r)) (σ4.2.2.1 0 (12 + 2 * r)).toNat 0
              have b1 := hw1.2.1
              have b2 := hw2.2.1
              have eX : e1 = X.map (cm 1) := At_uniq b1 (at_map X2 (fun i i0 i1 => by rw [Int.zero_add]; have := g2 i i0 (by omega); rw [Int.zero_add] at this; exact this)) (by rw [List.length_map]; omega)
              have eY : e2 = Y.map (cm 1) := At_uniq b2 (at_map Y2 (fun i i0 i1 => by have := k2 i i0 (by omega); rw [Int.zero_add]; exact this)) (by rw [List.length_map]; omega)
              have lX : (X.length : Int) = e1.length := by rw [eX, List.length_map]
              have lY : (Y.length : Int) = e2.length := by rw [eY, List.length_map]
              rw [eX] at hA he1 hl1
              rw [eY] at hA he2 hl2
              right
              rw [← er]
              refine ⟨by rw [pU_at], X, Y, lfx1 (by decide) he1, lfx1 (by decide) he2, fun x hx x0 x2 => ?_, by omega, ?_, ?_, ?_, fun j hj => ?_, fun j hj => ⟨uZ_ne hj, uZ_ne hj⟩, ?_, ?_, ?_, ?_⟩
              · rcases hl1.2.2.1 (x - 30) (by omega) (by omega) (hl2.2.2.2 (by decide) x hx x0 x2) with q | q
                · exact absurd q (bk0 (by omega) (by omega))
                · rwa [show 30 + (x - 30) = x by omega] at q
              · refine At_congr (g := f4) (p := 0) (fun i i0 i1 => ?_) hA
                rw [List.length_append, List.length_map, List.length_map] at i1
                unfold cpR
                rw [if_pos (by omega), show 40 * r + i - 40 * r = 0 + i by omega]
              · rw [uZ_eq]; omega
              · rw [uZ_eq]; omega
              · unfold cpR; rw [if_neg (by omega)]
              · show At (σ5.2.2.2 0 (11 + 2 * r)) 0 X
                rw [c5, cl]; exact X2
              · show σ5.2.2.1 0 (11 + 2 * r) = _
                rw [l5, zl]; omega
              · show At (σ5.2.2.2 0 (12 + 2 * r)) 0 Y
                rw [c5]; exact Y2
              · show σ5.2.2.1 0 (12 + 2 * r) = _
                rw [l5]; omega
            refine ⟨r + 1 - 1, pU (pU σ5 3 1 0) 0 1 (r + 1), fun K hK => cls K (read_over q2 q1 (by rw [q3]; exact g.1) (cs2.trans (cs3.trans (cs4.trans cs5))) ⟨fun _ => ?_, fun z => absurd z (by decide)⟩), ⟨rfl, ⟨by show σ.1 0 1 ≤ r + 1; omega, by show r + 1 ≤ 12; omega⟩, ?_, ?_, ?_⟩, f4, 0, a4, tk4, ta4, va4, 0, -1, 0, 0, c4, 0, 40, l4, -1, 1, 1, cpR rule f4 r m4, uZ rR r m2, uZ rL r m4, uZ lt r l4, fun K hK => ref2 K ⟨fun z => absurd z (by decide), fun _ => ⟨fun _ => ?_, fun z => absurd t0 z⟩⟩, ⟨q2.symm, ?_⟩, ?_, va4r.1, va4r.2, hnew⟩
            · show rng (σ5.1 0 1 + 1) ∧ rng (σ5.1 0 1 + 1 - 1) ∧ K (σ5.1 0 1 + 1 - 1) (pU (pU σ5 3 1 0) 0 1 (σ5.1 0 1 + 1))
              rw [e01]
              exact ⟨⟨by omega, by omega⟩, ⟨by omega, by omega⟩, hK⟩
            · rw [← er]
              refine FrQ.of frC (fun a b z1 z2 z3 => ?_) rfl
              rw [pU_ne (by omega), pU_ne (Or.inl z2)]
            · exact ⟨by show 0 ≤ σ5.1 2 7 ∧ σ5.1 2 7 ≤ 40; rw [q4]; omega, by show 0 ≤ σ5.1 2 9 ∧ σ5.1 2 9 ≤ 1000; rw [q4]; omega, by show 0 ≤ σ5.1 2 13 ∧ σ5.1 2 13 ≤ 8; rw [q4]; exact rg4.1⟩
            · exact fun _ _ _ => trivial
            · unfold wp_rule_85 wp_rule_90 wp_ends
              refine ⟨fun z => absurd rfl z, fun _ => ⟨fun _ => ?_, fun z => absurd z (by decide)⟩⟩
              refine wl2_rule (fun i h => 0 ≤ i ∧ i ≤ m4 ∧ h = cpR rule f4 r i) (fun i _ => (m4 - i).toNat) ?_ ⟨by omega, by omega, ?_⟩
              · intro Q i h ⟨i0, i1, eh⟩ ih
                subst eh
                unfold wp_rule_103
                refine ⟨fun z => ?_, fun z => ⟨⟨by omega, by omega⟩, ⟨by omega, by omega⟩, ⟨by omega, by omega⟩, ih _ _ ⟨by omega, by omega, ?_⟩ (by omega)⟩⟩
                · have e : i = m4 := by omega
                  subst e
                  exact ⟨hr, hr, hr, ⟨by omega, by omega⟩, ⟨by omega, by omega⟩, hK⟩
                · funext j
                  unfold uZ cpR
                  by_cases q : j = 40 * r + i
                  · rw [if_pos q, if_pos (by omega), show j - 40 * r = i by omega]
                  · rw [if_neg q]
                    by_cases q2 : 40 * r ≤ j ∧ j < 40 * r + i
                    · rw [if_pos q2, if_pos (by omega)]
                    · rw [if_neg q2, if_neg (by omega)]
              · funext j
                unfold cpR
                rw [if_neg (by omega)]
            · show -1 = σ5.1 2 2
              rw [q4]
              exact S4.2.1.1.2.2.symm
            · show RWa (r + 1) (cpR rule f4 r m4) (uZ rR r m2) (uZ rL r m4)
              refine RWa.add (by rw [er]; exact hW) hr.2 (fun j hj => ?_) (lfx1 (by decide) he1) (lfx1 (by decide) he2) ?_ (by omega) (by omega) (by omega) (fun x hx x0 x2 => ?_)
              · unfold cpR; rw [if_neg (by omega)]
              · refine At_congr (g := f4) (p := 0) (fun i i0 i1 => ?_) hA
                rw [List.length_append] at i1
                unfold cpR
                rw [if_pos (by omega), show 40 * r + i - 40 * r = 0 + i by omega]
              · rcases hl1.2.2.1 (x - 30) (by omega) (by omega) (hl2.2.2.2 (by decide) x hx x0 x2) with q | q
                · exact absurd q (bk0 (by omega) (by omega))
                · rwa [show 30 + (x - 30) = x by omega] at q
          · obtain ⟨i5, σ5, cs5, ft5, fr5⟩ := rule_bad (K0 := fun _ _ => True) g S4 oq4 (Or.inr ⟨rfl, t0⟩)
            refine fault i5 σ5 f4 m4 a4 tk4 ta4 va4 1 ta4 0 c4 l4 m2 (cs2.trans (cs3.trans (cs4.trans cs5))) ft5 (frB.trans (FrR.of (Or.inr z3) fr5)) ⟨(fr5.1 2 7 (by omega)).trans z7, (fr5.1 2 9 (by omega)).trans z9⟩ (fun n hn => ?_) va4r (fun K h => ref2 K ⟨fun z => absurd z (by decide), fun _ => ⟨fun z => absurd z t0, fun _ => h⟩⟩)
            rcases hn with hn | hn
            · rw [hn, (fr5.2.2.2.1 (11 + 2 * r) (by rw [z3]; omega)).1, zl]; exact xl2
            · have := ft5.2.2.2.2.2.2.2.2.2.2
              rw [fr5.row, z3, cr.2] at this
              rw [hn]; exact this
        · subst o1
          refine fault i4 σ4 f4 m4 a4 tk4 ta4 va4 w4 wa4 d4 c4 l4 m2 (cs2.trans (cs3.trans cs4)) ft4 (frA.trans (fr3.trans (FrR.of (Or.inr y3) fr4))) ⟨(fr4.1 2 7 (by omega)).trans (y7.trans x7), (fr4.1 2 9 (by omega)).trans (y9.trans x9)⟩ (fun n hn => ?_) ov (fun K h => ref2 K ⟨fun _ => h, fun z => absurd rfl z⟩)
          rcases hn with hn | hn
          · rw [hn, (fr4.2.2.2.1 (11 + 2 * r) (by rw [y3]; omega)).1, yl]; exact xl2
          · have := ft4.2.2.2.2.2.2.2.2.2.2
            rw [fr4.row, y3, cr.2] at this
            rw [hn]; exact this
      · obtain ⟨i3, σ3, cs3, ft3, fr3⟩ := rule_bad (K0 := fun _ _ => True) g S2 oq (Or.inl ⟨rfl, t8⟩)
        refine fault i3 σ3 f2 m2 a2 tk2 ta2 va2 1 ta2 0 c2 l2 m2 (cs2.trans cs3) ft3 (frA.trans (FrR.of (Or.inl x3) fr3)) ⟨(fr3.1 2 7 (by omega)).trans x7, (fr3.1 2 9 (by omega)).trans x9⟩ (fun n hn => ?_) va2r (fun K h => ref K ⟨fun z => absurd z (by decide), fun _ => ?_⟩)
        · rcases hn with hn | hn
          · have := ft3.2.2.2.2.2.2.2.2.2.2
            rw [fr3.row, x3, cr.1] at this
            rw [hn]; exact this
          · rw [hn, (fr3.2.2.2.1 (12 + 2 * r) (by rw [x3]; omega)).1, xr]; omega
        · unfold wp_need wp_bad
          refine ⟨fun z => absurd z t8, fun _ => ⟨Or.inl rfl, fun _ => ?_, fun z => absurd rfl z⟩⟩
          unfold wp_rule_47 wp_rule_48
          exact ⟨fun _ => h, fun z => absurd rfl z⟩
    · subst o1
      refine fault i2 σ2 f2 m2 a2 tk2 ta2 va2 w2 wa2 d2 c2 l2 m2 cs2 ft2 (fr1.trans (FrR.of (Or.inl rfl) fr2)) ⟨fr2.1 2 7 (by omega), fr2.1 2 9 (by omega)⟩ (fun n hn => ?_) ov (fun K h => ref K ⟨fun _ => ?_, fun z => absurd rfl z⟩)
      · rcases hn with hn | hn
        · have := ft2.2.2.2.2.2.2.2.2.2.2
          rw [show σ2.1 2 3 = 11 + 2 * r from fr2.row, cr.1] at this
          rw [hn]; exact this
        · rw [hn, (fr2.2.2.2.1 (12 + 2 * r) (by show 12 + 2 * r ≠ 11 + 2 * r; omega)).1, bg_right]; omega
      · unfold wp_rule_47 wp_rule_48
        exact ⟨fun _ => h, fun z => absurd rfl z⟩
