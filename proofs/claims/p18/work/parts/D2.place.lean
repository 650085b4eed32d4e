-- ===== an expression in a row, by its place; places of a rule
theorem cons_app2 {c : Int} {q q1 Y e0 t0 : List Int} (h : q = q1 ++ Y) (z : c :: q1 = e0 ++ t0) : c :: q = e0 ++ (t0 ++ Y) := by
  rw [h, ← List.append_assoc, ← z]; rfl
theorem ex_at : ∀ {x : List Int}, Ex lfR x → ∀ {pre post : List Int} {c : Int}, x = pre ++ c :: post → ∃ e t, c :: post = e ++ t ∧ Ex lfR e ∧ ∀ e', Ex lfR e' → Ex lfR (pre ++ (e' ++ t)) := by
  intro x hx
  refine Ex.ind (P := fun x => ∀ {pre post : List Int} {c : Int}, x = pre ++ c :: post → ∃ e t, c :: post = e ++ t ∧ Ex lfR e ∧ ∀ e', Ex lfR e' → Ex lfR (pre ++ (e' ++ t))) ?_ ?_ hx
  · intro d hd pre post c h
    cases pre with
    | nil =>
      obtain ⟨h1, h2⟩ := List.cons.inj h
      refine ⟨[d], [], by rw [← h1, ← h2]; rfl, Ex.leaf hd, fun e' he' => by rw [List.append_nil]; exact he'⟩
    | cons _ pre => have := (List.cons.inj h).2; cases pre <;> cases this
  · intro o a b ho ha hb ia ib pre post c h
    cases pre with
    | nil =>
      obtain ⟨h1, h2⟩ := List.cons.inj h
      refine ⟨o :: (a ++ b), [], by rw [← h1, ← h2, List.append_nil], Ex.op ho ha hb, fun e' he' => by rw [List.append_nil]; exact he'⟩
    | cons o' pre =>
      obtain ⟨h1, h2⟩ := List.cons.inj h
      rw [← h1]
      rcases cut2 h2.symm with ⟨q, e1, e2⟩ | ⟨p, e1, e2⟩
      · obtain ⟨e, t, g1, g2, g3⟩ := ia e1
        refine ⟨e, t ++ b, cons_app2 e2 g1, g2, fun e' he' => ?_⟩
        have := Ex.op ho (g3 e' he') hb
        simpa using this
      · obtain ⟨e, t, g1, g2, g3⟩ := ib e2
        refine ⟨e, t, g1, g2, fun e' he' => ?_⟩
        have := Ex.op ho ha (g3 e' he')
        rw [e1]
        simpa using this
theorem sub_at {l : List Int} (hl : Sq l) : ∀ {pre post : List Int} {c : Int}, l = pre ++ c :: post → isP c = true → ∃ e t, c :: post = e ++ t ∧ Ex lfR e ∧ ∀ e', Ex lfR e' → Sq (pre ++ (e' ++ t)) := by
  refine Sq.ind (P := fun l => ∀ {pre post : List Int} {c : Int}, l = pre ++ c :: post → isP c = true → ∃ e t, c :: post = e ++ t ∧ Ex lfR e ∧ ∀ e', Ex lfR e' → Sq (pre ++ (e' ++ t))) ?_ ?_ hl
  · intro pre post c h _
    cases pre with
    | nil => cases h
    | cons _ _ => cases h
  · intro s r hs hr ih pre post c h hP
    have hc := isP_t.mp hP
    have hs0 := hs.mono (T := Sq) (fun _ h => h.1)
    rcases cut2 h.symm with ⟨q, e1, e2⟩ | ⟨p, e1, e2⟩
    · -- within the statement: what is put there makes a statement again
      have fin : ∀ (e t : List Int), c :: q = e ++ t → Ex lfR e → (∀ e', Ex lfR e' → Sm Sq (pre ++ (e' ++ t))) → ∃ e t, c :: post = e ++ t ∧ Ex lfR e ∧ ∀ e', Ex lfR e' → Sq (pre ++ (e' ++ t)) := fun e t g1 g2 g3 => ⟨e, t ++ r, cons_app2 e2 g1, g2, fun e' he' => by
        have := Sq.cons (g3 e' he') hr
        simpa using this⟩
      rcases hs with ⟨v, e, hv, he, rfl⟩ | rfl | ⟨t, a, b, B, C, ht, hA, hB, hb, hcc, rfl⟩ | ⟨t, a, b, B, ht, hA, hB, hb, rfl⟩
      · unfold setC at hv
        cases pre with
        | nil => have := (List.cons.inj e1).1; omega
        | cons d pre =>
          obtain ⟨h1, h2⟩ := List.cons.inj e1
          obtain ⟨e0, t0, g1, g2, g3⟩ := ex_at he h2
          exact fin e0 t0 g1 g2 (fun e' he' => Or.inl ⟨d, pre ++ (e' ++ t0), by rw [← h1]; exact hv, g3 e' he', rfl⟩)
      · cases pre with
        | nil => have := (List.cons.inj e1).1; omega
        | cons d pre => have := (List.cons.inj e1).2; cases pre <;> cases this
      · have ht' := ht
        unfold testC at ht'
        cases pre with
        | nil => have := (List.cons.inj e1).1; omega
        | cons d pre =>
          obtain ⟨h1, f1⟩ := List.cons.inj e1
          cases pre with
          | nil => have := (List.cons.inj f1).1; omega
          | cons d' pre =>
            obtain ⟨h2, f2⟩ := List.cons.inj f1
            rw [← h1, ← h2] at fin ⊢
            rcases cut2 f2.symm with ⟨q1, g1, g2⟩ | ⟨p1, g1, g2⟩
            · obtain ⟨e0, t0, z1, z2, z3⟩ := ex_at hA g1
              refine fin e0 (t0 ++ (b ++ (B ++ (113 :: (C ++ [114]))))) (cons_app2 g2 z1) z2 (fun e' he' => Or.inr (Or.inr (Or.inl ⟨t, pre ++ (e' ++ t0), b, B, C, ht, z3 e' he', hB, hb.1, hcc.1, by simp⟩)))
            · rcases cut2 g2.symm with ⟨q2, k1, k2⟩ | ⟨p2, k1, k2⟩
              · obtain ⟨e0, t0, z1, z2, z3⟩ := ex_at hB k1
                refine fin e0 (t0 ++ (B ++ (113 :: (C ++ [114])))) (cons_app2 k2 z1) z2 (fun e' he' => Or.inr (Or.inr (Or.inl ⟨t, a, p1 ++ (e' ++ t0), B, C, ht, hA, z3 e' he', hb.1, hcc.1, by rw [g1]; simp⟩)))
              · rcases cut2 k2.symm with ⟨q3, m1, m2⟩ | ⟨p3, m1, m2⟩
                · obtain ⟨e0, t0, z1, z2, z3⟩ := hb.2 m1 hP
                  refine fin e0 (t0 ++ (113 :: (C ++ [114]))) (cons_app2 m2 z1) z2 (fun e' he' => Or.inr (Or.inr (Or.inl ⟨t, a, b, p2 ++ (e' ++ t0), C, ht, hA, hB, z3 e' he', hcc.1, by rw [g1, k1]; simp⟩)))
                · cases p3 with
                  | nil => have := (List.cons.inj m2).1; omega
                  | cons d3 p3 =>
                    obtain ⟨h3, m3⟩ := List.cons.inj m2
                    rcases cut2 m3.symm with ⟨q4, n1, n2⟩ | ⟨p4, n1, n2⟩
                    · obtain ⟨e0, t0, z1, z2, z3⟩ := hcc.2 n1 hP
                      refine fin e0 (t0 ++ [114]) (cons_app2 n2 z1) z2 (fun e' he' => Or.inr (Or.inr (Or.inl ⟨t, a, b, B, p3 ++ (e' ++ t0), ht, hA, hB, hb.1, z3 e' he', by rw [g1, k1, m1, ← h3]; simp⟩)))
                    · cases p4 with
                      | nil => have := (List.cons.inj n2).1; omega
                      | cons d4 p4 => have := (List.cons.inj n2).2; cases p4 <;> cases this
      · have ht' := ht
        unfold testC at ht'
        cases pre with
        | nil => have := (List.cons.inj e1).1; omega
        | cons d pre =>
          obtain ⟨h1, f1⟩ := List.cons.inj e1
          cases pre with
          | nil => have := (List.cons.inj f1).1; omega
          | cons d' pre =>
            obtain ⟨h2, f2⟩ := List.cons.inj f1
            rw [← h1, ← h2] at fin ⊢
            rcases cut2 f2.symm with ⟨q1, g1, g2⟩ | ⟨p1, g1, g2⟩
            · obtain ⟨e0, t0, z1, z2, z3⟩ := ex_at hA g1
              refine fin e0 (t0 ++ (b ++ (B ++ [114]))) (cons_app2 g2 z1) z2 (fun e' he' => Or.inr (Or.inr (Or.inr ⟨t, pre ++ (e' ++ t0), b, B, ht, z3 e' he', hB, hb.1, by simp⟩)))
            · rcases cut2 g2.symm with ⟨q2, k1, k2⟩ | ⟨p2, k1, k2⟩
              · obtain ⟨e0, t0, z1, z2, z3⟩ := ex_at hB k1
                refine fin e0 (t0 ++ (B ++ [114])) (cons_app2 k2 z1) z2 (fun e' he' => Or.inr (Or.inr (Or.inr ⟨t, a, p1 ++ (e' ++ t0), B, ht, hA, z3 e' he', hb.1, by rw [g1]; simp⟩)))
              · rcases cut2 k2.symm with ⟨q3, m1, m2⟩ | ⟨p3, m1, m2⟩
                · obtain ⟨e0, t0, z1, z2, z3⟩ := hb.2 m1 hP
                  refine fin e0 (t0 ++ [114]) (cons_app2 m2 z1) z2 (fun e' he' => Or.inr (Or.inr (Or.inr ⟨t, a, b, p2 ++ (e' ++ t0), ht, hA, hB, z3 e' he', by rw [g1, k1]; simp⟩)))
                · cases p3 with
                  | nil => have := (List.cons.inj m2).1; omega
                  | cons d3 p3 => have := (List.cons.inj m2).2; cases p3 <;> cases this
    · obtain ⟨e, t, g1, g2, g3⟩ := ih e2 hP
      refine ⟨e, t, g1, g2, fun e' he' => ?_⟩
      have := Sq.cons hs0 (g3 e' he')
      rw [e1]
      simpa using this
/-- what the pattern binds at place k, if it matches there -/
def mAt (X l : List Int) (k : Nat) : Option Env :=
  match l.drop k with
  | [] => none
  | c :: post => if isP c = true then mL X E0 (tk 1 (c :: post)) else none
theorem mAt_P {X l pre e t : List Int} {c : Int} (h : l = pre ++ (e ++ t)) (he : Ex lfR e) : mAt X l pre.length = mL X E0 e := by
  obtain ⟨d, y, rfl⟩ : ∃ d y, e = d :: y := by
    cases e with
    | nil => exact absurd rfl he.ne
    | cons d y => exact ⟨d, y, rfl⟩
  unfold mAt
  rw [h, List.drop_left]
  show (if isP d = true then mL X E0 (tk 1 (d :: (y ++ t))) else none) = _
  rw [if_pos (he.isPs d List.mem_cons_self)]
  have := tk_1 (r := t) he
  rw [show (d :: y) ++ t = d :: (y ++ t) from rfl] at this
  rw [this]
theorem mAt_no {X l pre post : List Int} {c : Int} (h : l = pre ++ c :: post) (hc : isP c = false) : mAt X l pre.length = none := by
  unfold mAt
  rw [h, List.drop_left]
  show (if isP c = true then _ else none) = none
  rw [hc]; rfl
def cntM (X l : List Int) : Nat → Nat
  | 0 => 0
  | k + 1 => cntM X l k + (if (mAt X l k).isSome = true then 1 else 0)
theorem cntM_le {X l : List Int} : ∀ k, cntM X l k ≤ k
  | 0 => Nat.le_refl _
  | k + 1 => by
    have := cntM_le (X := X) (l := l) k
    show cntM X l k + _ ≤ _
    split <;> omega
theorem at_split {l : List Int} {k : Nat} (h : k < l.length) : ∃ pre c post, l = pre ++ c :: post ∧ pre.length = k := by
  refine ⟨l.take k, l[k], l.drop (k + 1), ?_, ?_⟩
  · rw [List.getElem_cons_drop, List.take_append_drop]
  · rw [List.length_take]; omega
section PL
variable {σ : Sg} {n m : Int} {l X : List Int}
theorem matchesAt_k {K : Int → Sg → Prop} {k : Nat} (hX : Ex lfU X) (hL : RowL σ (11 + 2 * n) (X.map cv)) (h : RowL σ m l) (hl : Sq l) (hk : k < l.length) (k1 : ∀ g', mAt X l k = some g' → ∀ σ', EnvC σ' n m g' → Fq No No ab σ σ' → K 1 σ') (k0 : mAt X l k = none → ∀ σ', Fq No No ab σ σ' → K 0 σ') : wp5_U_matches σ n m k K := by
  obtain ⟨pre, c, post, e, hp⟩ := at_split hk
  subst hp
  by_cases hc : isP c = true
  · obtain ⟨x, t, e1, hx, _⟩ := sub_at hl e hc
    have e2 : l = pre ++ (x ++ t) := by rw [e, e1]
    rw [mAt_P (c := c) e2 hx] at k1 k0
    exact matches_k (a := pre) (b := t) hX hL (by rw [← e2]; exact h) hx k1 k0
  · have hf : isP c = false := Bool.eq_false_iff.mpr hc
    rw [e] at h
    refine cell_mid h rfl (isExpression_k (fun z => absurd z hc) (fun _ => u0 (k0 (mAt_no e hf) σ Fq.refl)))
theorem countIn_k {K : Int → Sg → Prop} (hX : Ex lfU X) (hL : RowL σ (11 + 2 * n) (X.map cv)) (h : RowL σ m l) (hl : Sq l) (k : ∀ σ', Fq No No ab σ σ' → K (cntM X l l.length) σ') : wp5_U_countIn σ n m K := by
  have bd := h.bd
  unfold wp5_U_countIn
  refine wl3_rule (fun (c i : Int) (s : Sg) => ∃ j : Nat, i = (j : Int) ∧ j ≤ l.length ∧ c = (cntM X l j : Int) ∧ Fq No No ab σ s) (fun _ (i : Int) _ => ((l.length : Int) - i).toNat) ?_ ⟨0, rfl, Nat.zero_le _, rfl, Fq.refl⟩
  rintro P c i s ⟨j, rfl, hj, rfl, f⟩ ih
  have hs := h.ab f
  have hn := hs.2.2.1
  have hc := cntM_le (X := X) (l := l) j
  refine ⟨fun z => ?_, fun z => ?_⟩
  · have : j = l.length := by omega
    subst this
    exact k s f
  · have hjl : j < l.length := by omega
    have e : ∀ v : Nat, (if (mAt X l j).isSome = true then 1 else 0) = v → cntM X l (j + 1) = cntM X l j + v := fun v q => by show cntM X l j + _ = _; rw [q]
    refine matchesAt_k hX (hL.ab f) hs hl hjl (fun g' q s' _ f' => ⟨fun z => absurd z (by decide), fun _ => ⟨rng_small (by omega) (by omega), rng_small (by omega) (by omega), ih _ _ _ ⟨j + 1, by omega, by omega, ?_, f.trans f'⟩ (by omega)⟩⟩) (fun q s' f' => ⟨fun _ => ⟨rng_small (by omega) (by omega), ih _ _ _ ⟨j + 1, by omega, by omega, ?_, f.trans f'⟩ (by omega)⟩, fun z => absurd rfl z⟩)
    · rw [e 1 (by rw [q]; rfl)]; omega
    · rw [e 0 (by rw [q]; rfl)]; omega
theorem placeIn_k {K : Int → Sg → Prop} {nth : Int} (h0 : 0 ≤ nth) (hX : Ex lfU X) (hL : RowL σ (11 + 2 * n) (X.map cv)) (h : RowL σ m l) (hl : Sq l) (k1 : ∀ (j : Nat) g', j < l.length → mAt X l j = some g' → (cntM X l j : Int) = nth → ∀ σ', Fq No No ab σ σ' → K j σ') (k0 : (cntM X l l.length : Int) ≤ nth → ∀ σ', Fq No No ab σ σ' → K (-1) σ') : wp5_U_placeIn σ n m nth K := by
  have bd := h.bd
  unfold wp5_U_placeIn
  refine wl3_rule (fun (c i : Int) (s : Sg) => ∃ j : Nat, i = (j : Int) ∧ j ≤ l.length ∧ c = (cntM X l j : Int) ∧ (cntM X l j : Int) ≤ nth ∧ Fq No No ab σ s) (fun _ (i : Int) _ => ((l.length : Int) - i).toNat) ?_ ⟨0, rfl, Nat.zero_le _, rfl, h0, Fq.refl⟩
  rintro P c i s ⟨j, rfl, hj, rfl, hle, f⟩ ih
  have hs := h.ab f
  have hn := hs.2.2.1
  have hc := cntM_le (X := X) (l := l) j
  refine ⟨fun z => ?_, fun z => ⟨fun z2 => absurd z2 (by omega), fun _ => ?_⟩⟩
  · have : j = l.length := by omega
    subst this
    exact k0 hle s f
  · have hjl : j < l.length := by omega
    have e : ∀ v : Nat, (if (mAt X l j).isSome = true then 1 else 0) = v → cntM X l (j + 1) = cntM X l j + v := fun v q => by show cntM X l j + _ = _; rw [q]
    refine matchesAt_k hX (hL.ab f) hs hl hjl (fun g' q s' _ f' => ⟨fun z => absurd z (by decide), fun _ => ⟨fun zn => ⟨rng_small (by omega) (by omega), rng_small (by omega) (by omega), ih _ _ _ ⟨j + 1, by omega, by omega, ?_, ?_, f.trans f'⟩ (by omega)⟩, fun zn => k1 j g' hjl q zn s' (f.trans f')⟩⟩) (fun q s' f' => ⟨fun _ => ⟨rng_small (by omega) (by omega), ih _ _ _ ⟨j + 1, by omega, by omega, ?_, ?_, f.trans f'⟩ (by omega)⟩, fun z => absurd rfl z⟩)
    · rw [e 1 (by rw [q]; rfl)]; omega
    · rw [e 1 (by rw [q]; rfl)]; omega
    · rw [e 0 (by rw [q]; rfl)]; omega
    · rw [e 0 (by rw [q]; rfl)]; omega
end PL
