-- ===== the hasty COPY, whole
theorem cut2 : ∀ {x pre post y : List Int} {c : Int}, pre ++ c :: post = x ++ y → (∃ q, x = pre ++ c :: q ∧ post = q ++ y) ∨ (∃ p, pre = x ++ p ∧ y = p ++ c :: post) := by
  intro x
  induction x with
  | nil => intro pre post y c h; exact Or.inr ⟨pre, rfl, h.symm⟩
  | cons d x ih =>
    intro pre post y c h
    cases pre with
    | nil =>
      obtain ⟨h1, h2⟩ := List.cons.inj h
      exact Or.inl ⟨x, by rw [h1]; rfl, h2⟩
    | cons d' pre =>
      obtain ⟨h1, h2⟩ := List.cons.inj h
      rcases ih h2 with ⟨q, e1, e2⟩ | ⟨p, e1, e2⟩
      · exact Or.inl ⟨q, by rw [h1, e1]; rfl, e2⟩
      · exact Or.inr ⟨p, by rw [h1, e1]; rfl, e2⟩
/-- nothing, or what ends a row of statements -/
def NT (t : List Int) : Prop := t = [] ∨ ∃ d y, t = d :: y ∧ (d = 113 ∨ d = 114)
theorem NT.nh {t : List Int} (h : NT t) : NH t := by
  rcases h with rfl | ⟨d, y, rfl, hd⟩
  · exact NH_nil
  · exact NH_cons hd
theorem NT_app {t u : List Int} (h : NT t) (g : NT u) : NT (t ++ u) := by
  rcases h with rfl | ⟨d, y, rfl, hd⟩
  · exact g
  · exact Or.inr ⟨d, y ++ u, rfl, hd⟩
/-- a set, by its place: its expression, what follows in its own row of statements, and what ends that -/
theorem seq_at {l : List Int} (hl : Sq l) : ∀ {pre post : List Int} {c : Int}, l = pre ++ c :: post → 100 ≤ c ∧ c ≤ 105 → ∃ e r t, post = e ++ (r ++ t) ∧ Ex lfR e ∧ Sq r ∧ NT t := by
  refine Sq.ind (P := fun l => ∀ {pre post : List Int} {c : Int}, l = pre ++ c :: post → 100 ≤ c ∧ c ≤ 105 → ∃ e r t, post = e ++ (r ++ t) ∧ Ex lfR e ∧ Sq r ∧ NT t) ?_ ?_ hl
  · intro pre post c h _
    cases pre with
    | nil => cases h
    | cons _ _ => cases h
  · intro s r hs hr ih pre post c h hc
    rcases cut2 h.symm with ⟨q, e1, e2⟩ | ⟨p, e1, e2⟩
    · rcases hs with ⟨v, e, hv, he, rfl⟩ | rfl | ⟨t, a, b, B, C, ht, hA, hB, hb, hcc, rfl⟩ | ⟨t, a, b, B, ht, hA, hB, hb, rfl⟩
      · cases pre with
        | nil =>
          obtain ⟨g1, g2⟩ := List.cons.inj e1
          exact ⟨e, r, [], by rw [e2, ← g2, List.append_nil], he, hr, Or.inl rfl⟩
        | cons d pre => exact absurd hc (he.noset c (by rw [(List.cons.inj e1).2]; simp))
      · cases pre with
        | nil => have := (List.cons.inj e1).1; omega
        | cons d pre => have := (List.cons.inj e1).2; cases pre <;> cases this
      · unfold testC at ht
        cases pre with
        | nil => have := (List.cons.inj e1).1; omega
        | cons d pre =>
          have f1 := (List.cons.inj e1).2
          cases pre with
          | nil => have := (List.cons.inj f1).1; omega
          | cons d' pre =>
            have f2 := (List.cons.inj f1).2
            rcases cut2 f2.symm with ⟨q1, g1, g2⟩ | ⟨p1, g1, g2⟩
            · exact absurd hc (hA.noset c (by rw [g1]; simp))
            · rcases cut2 g2.symm with ⟨q2, k1, k2⟩ | ⟨p2, k1, k2⟩
              · exact absurd hc (hB.noset c (by rw [k1]; simp))
              · rcases cut2 k2.symm with ⟨q3, m1, m2⟩ | ⟨p3, m1, m2⟩
                · obtain ⟨e', r', t', z1, z2, z3, z4⟩ := hb.2 m1 hc
                  exact ⟨e', r', t' ++ ((113 :: (C ++ [114])) ++ r), by rw [e2, m2, z1]; simp, z2, z3, NT_app z4 (Or.inr ⟨113, _, rfl, Or.inl rfl⟩)⟩
                · cases p3 with
                  | nil => have := (List.cons.inj m2).1; omega
                  | cons d3 p3 =>
                    have m3 := (List.cons.inj m2).2
                    rcases cut2 m3.symm with ⟨q4, n1, n2⟩ | ⟨p4, n1, n2⟩
                    · obtain ⟨e', r', t', z1, z2, z3, z4⟩ := hcc.2 n1 hc
                      exact ⟨e', r', t' ++ ([114] ++ r), by rw [e2, n2, z1]; simp, z2, z3, NT_app z4 (Or.inr ⟨114, _, rfl, Or.inr rfl⟩)⟩
                    · cases p4 with
                      | nil => have := (List.cons.inj n2).1; omega
                      | cons d4 p4 => have := (List.cons.inj n2).2; cases p4 <;> cases this
      · unfold testC at ht
        cases pre with
        | nil => have := (List.cons.inj e1).1; omega
        | cons d pre =>
          have f1 := (List.cons.inj e1).2
          cases pre with
          | nil => have := (List.cons.inj f1).1; omega
          | cons d' pre =>
            have f2 := (List.cons.inj f1).2
            rcases cut2 f2.symm with ⟨q1, g1, g2⟩ | ⟨p1, g1, g2⟩
            · exact absurd hc (hA.noset c (by rw [g1]; simp))
            · rcases cut2 g2.symm with ⟨q2, k1, k2⟩ | ⟨p2, k1, k2⟩
              · exact absurd hc (hB.noset c (by rw [k1]; simp))
              · rcases cut2 k2.symm with ⟨q3, m1, m2⟩ | ⟨p3, m1, m2⟩
                · obtain ⟨e', r', t', z1, z2, z3, z4⟩ := hb.2 m1 hc
                  exact ⟨e', r', t' ++ ([114] ++ r), by rw [e2, m2, z1]; simp, z2, z3, NT_app z4 (Or.inr ⟨114, _, rfl, Or.inr rfl⟩)⟩
                · cases p3 with
                  | nil => have := (List.cons.inj m2).1; omega
                  | cons d3 p3 => have := (List.cons.inj m2).2; cases p3 <;> cases this
    · exact ih e2 hc
theorem Ex.read1 {e : List Int} (he : Ex lfR e) {w : Int} {x y : List Int} (h : e ++ x = w :: y) (hw : 20 ≤ w ∧ w ≤ 25) : e = [w] ∧ x = y := by
  rcases he.cases with ⟨c, hc, rfl⟩ | ⟨o, a, b, ho, _, _, rfl⟩
  · obtain ⟨h1, h2⟩ := List.cons.inj h
    exact ⟨by rw [h1], h2⟩
  · have := (List.cons.inj h).1
    unfold opC at ho
    omega
/-- a copy statement stands at i -/
def cpAt (i : Nat) (l : List Int) : Prop := ∃ pre c w post, l = pre ++ c :: w :: post ∧ pre.length = i ∧ (100 ≤ c ∧ c ≤ 105) ∧ (20 ≤ w ∧ w ≤ 25) ∧ c - 100 ≠ w - 20
noncomputable def hc1 (i : Nat) (l : List Int) : List Int := @Classical.epsilon (List Int) ⟨[]⟩ (fun l' => (∃ pre c w r t, l = pre ++ (c :: w :: (r ++ t)) ∧ pre.length = i ∧ (100 ≤ c ∧ c ≤ 105) ∧ (20 ≤ w ∧ w ≤ 25) ∧ c - 100 ≠ w - 20 ∧ Sq r ∧ NH t ∧ l' = pre ++ (c :: w :: (cpS (c - 100) (w - 20) r ++ t))) ∨ (¬ cpAt i l ∧ l' = l))
theorem hc1_yes {i : Nat} {pre r t : List Int} {c w : Int} (hp : pre.length = i) (hc : 100 ≤ c ∧ c ≤ 105) (hw : 20 ≤ w ∧ w ≤ 25) (hn : c - 100 ≠ w - 20) (hr : Sq r) (ht : NH t) : hc1 i (pre ++ (c :: w :: (r ++ t))) = pre ++ (c :: w :: (cpS (c - 100) (w - 20) r ++ t)) := by
  have ex : ∃ l', (fun l' => (∃ pre' c' w' r' t', pre ++ (c :: w :: (r ++ t)) = pre' ++ (c' :: w' :: (r' ++ t')) ∧ pre'.length = i ∧ (100 ≤ c' ∧ c' ≤ 105) ∧ (20 ≤ w' ∧ w' ≤ 25) ∧ c' - 100 ≠ w' - 20 ∧ Sq r' ∧ NH t' ∧ l' = pre' ++ (c' :: w' :: (cpS (c' - 100) (w' - 20) r' ++ t'))) ∨ (¬ cpAt i (pre ++ (c :: w :: (r ++ t))) ∧ l' = pre ++ (c :: w :: (r ++ t)))) l' := ⟨_, Or.inl ⟨pre, c, w, r, t, rfl, hp, hc, hw, hn, hr, ht, rfl⟩⟩
  rcases @Classical.epsilon_spec (List Int) _ ex with ⟨pre', c', w', r', t', e, hp', hc', hw', hn', hr', ht', q⟩ | ⟨q, _⟩
  · obtain ⟨z1, z2, z3⟩ := split_uniq e (by omega)
    obtain ⟨z4, z5⟩ := List.cons.inj z3
    obtain ⟨z6, z7⟩ := hr.uq.2 r' t t' hr' ht ht' z5
    refine (show hc1 i _ = _ from q).trans ?_
    rw [z1, z2, z4, z6, z7]
  · exact absurd ⟨pre, c, w, r ++ t, rfl, hp, hc, hw, hn⟩ q
theorem hc1_no {i : Nat} {l : List Int} (h : ¬ cpAt i l) : hc1 i l = l := by
  have ex : ∃ l', (fun l' => (∃ pre c w r t, l = pre ++ (c :: w :: (r ++ t)) ∧ pre.length = i ∧ (100 ≤ c ∧ c ≤ 105) ∧ (20 ≤ w ∧ w ≤ 25) ∧ c - 100 ≠ w - 20 ∧ Sq r ∧ NH t ∧ l' = pre ++ (c :: w :: (cpS (c - 100) (w - 20) r ++ t))) ∨ (¬ cpAt i l ∧ l' = l)) l' := ⟨l, Or.inr ⟨h, rfl⟩⟩
  rcases @Classical.epsilon_spec (List Int) _ ex with ⟨pre, c, w, r, t, e, hp, hc, hw, hn, _, _, _⟩ | ⟨_, q⟩
  · exact absurd ⟨pre, c, w, r ++ t, e, hp, hc, hw, hn⟩ h
  · exact q
/-- what stands there, if the row is well formed -/
theorem cpAt_is {i : Nat} {l : List Int} (hl : Sq l) {pre post : List Int} {c w : Int} (e : l = pre ++ c :: w :: post) (hc : 100 ≤ c ∧ c ≤ 105) (hw : 20 ≤ w ∧ w ≤ 25) : ∃ r t, post = r ++ t ∧ Sq r ∧ NT t ∧ cs r ≤ cs l := by
  obtain ⟨ex, r, t, e1, he, hr, ht⟩ := seq_at hl e hc
  obtain ⟨z1, z2⟩ := he.read1 e1.symm hw
  refine ⟨r, t, z2.symm, hr, ht, ?_⟩
  rw [e, ← z2, show pre ++ c :: w :: (r ++ t) = (pre ++ [c, w]) ++ (r ++ t) by simp, cs_app, cs_app, cs_app]
  omega
theorem hc1_lk {i : Nat} {l : List Int} (hl : Sq l) : Lk l (hc1 i l) := by
  by_cases h : cpAt i l
  · obtain ⟨pre, c, w, post, e, hp, hc, hw, hn⟩ := h
    obtain ⟨r, t, rfl, hr, ht, _⟩ := cpAt_is (i := i) hl e hc hw
    rw [e, hc1_yes hp hc hw hn hr ht.nh]
    exact (Lk.rf pre).app ⟨Or.inl rfl, Or.inl rfl, (cpS_lk (v := c - 100) (w := w - 20) (by omega) (by omega) hr).app (Lk.rf t)⟩
  · rw [hc1_no h]; exact Lk.rf l
noncomputable def hcI : Nat → List Int → List Int
  | 0, l => l
  | i + 1, l => hc1 i (hcI i l)
theorem hcI_ok : ∀ (i : Nat) {l : List Int}, Sq l → Sq (hcI i l) ∧ (hcI i l).length = l.length ∧ cs (hcI i l) = cs l ∧ cp (hcI i l) = cp l
  | 0, l, hl => ⟨hl, rfl, rfl, rfl⟩
  | i + 1, l, hl => by
    obtain ⟨h1, h2, h3, h4⟩ := hcI_ok i hl
    have k := hc1_lk (i := i) h1
    have kc := k.cnt
    exact ⟨h1.lk k, by rw [← h2]; exact k.len.symm, by rw [← h3]; exact kc.1.symm, by rw [← h4]; exact kc.2.symm⟩
/-- the hasty COPY of a row -/
noncomputable def hcF (l : List Int) : List Int := hcI l.length l
theorem noCp {l pre post : List Int} {c : Int} (e : l = pre ++ c :: post) (h : ¬ ((100 ≤ c ∧ c ≤ 105) ∧ ∃ w q, post = w :: q ∧ (20 ≤ w ∧ w ≤ 25) ∧ c - 100 ≠ w - 20)) : ¬ cpAt pre.length l := by
  rintro ⟨pre', c', w', post', e', hp', hc', hw', hn'⟩
  obtain ⟨z1, z2, z3⟩ := split_uniq (e.symm.trans e') (by omega)
  exact h ⟨by rw [z2]; exact hc', w', post', z3, hw', by rw [z2]; exact hn'⟩
theorem hastyCopy_k {n : Int} {K : Sg → Prop} {σ : Sg} {l : List Int} (h : RowL σ n l) (hl : Sq l) (h40 : cs l ≤ 40) (k : ∀ σ', RowL σ' n (hcF l) → Fq No (one n) No σ σ' → K σ') : wp5_A_hastyCopy σ n K := by
  have bd := h.bd
  unfold wp5_A_hastyCopy
  refine wl2_rule (fun (i : Int) (s : Sg) => ∃ j : Nat, i = (j : Int) ∧ j ≤ l.length ∧ RowL s n (hcI j l) ∧ Fq No (one n) No σ s) (fun (i : Int) _ => ((l.length : Int) - i).toNat) ?_ ⟨0, rfl, Nat.zero_le _, h, Fq.refl⟩
  rintro P i s ⟨j, rfl, hj, hr, hf⟩ ih
  obtain ⟨m1, m2, m3, m4⟩ := hcI_ok j hl
  have hlen := hr.2.2.1
  refine ⟨fun z => k s (by rw [hlen, m2] at z; unfold hcF; rw [show l.length = j by omega]; exact hr) hf, fun z => ?_⟩
  rw [hlen, m2] at z
  obtain ⟨pre, c, post, e, hp⟩ : ∃ pre c post, hcI j l = pre ++ c :: post ∧ pre.length = j := by
    refine ⟨(hcI j l).take j, (hcI j l)[j]'(by omega), (hcI j l).drop (j + 1), ?_, ?_⟩
    · rw [List.getElem_cons_drop, List.take_append_drop]
    · rw [List.length_take]; omega
  have nx : ∀ s', RowL s' n (hcI (j + 1) l) → Fq No (one n) No σ s' → P ((j : Int) + 1) s' := fun s' q1 q2 => ih _ _ ⟨j + 1, by omega, by omega, q1, q2⟩ (by omega)
  have stay : ¬ cpAt j (hcI j l) → P ((j : Int) + 1) s := fun q => nx s (by show RowL s n (hc1 j (hcI j l)); rw [hc1_no q]; exact hr) hf
  have nocp := noCp e
  rw [hp] at nocp
  rw [e] at hr
  have c0 : ∀ {K : Int → Prop}, K c → wp5_W_cell s n (j : Int) K := fun q => cell_mid hr (by omega) q
  have c1 : ∀ {K : Int → Prop}, K (post.headD (-1)) → wp5_W_cell s n ((j : Int) + 1) K := fun q => by
    cases post with
    | nil => exact cell_out hr (Or.inr (by simp only [List.length_append, List.length_cons, List.length_nil]; omega)) q
    | cons w post => exact cell_mid (a := pre ++ [c]) (c := w) (b := post) (by simpa using hr) (by simp only [List.length_append, List.length_cons, List.length_nil]; omega) q
  refine c0 ⟨rng_small (by omega) (by omega), c1 (c0 (isSet_k (fun hc => t1 (c1 (isRead_k (fun hw => t1 ?_) (fun hw => t0 (stay (nocp (fun q => ?_))))))) (fun hc => t0 (stay (nocp (fun q => hc q.1))))))⟩
  · refine ⟨rng_small (by omega) (by omega), rng_small (by omega) (by omega), fun q => stay (nocp (fun g => ?_)), fun q => ⟨rng_small (by omega) (by omega), ?_⟩⟩
    · obtain ⟨w, x, rfl, _, g3⟩ := g.2
      exact g3 q
    · cases post with
      | nil => have : ((([] : List Int).headD (-1)) : Int) = -1 := rfl
               omega
      | cons w post =>
        have hw' : 20 ≤ w ∧ w ≤ 25 := hw
        have q' : c - 100 ≠ w - 20 := q
        obtain ⟨r, t, rfl, hr1, ht1, hcs⟩ := cpAt_is (i := j) m1 e hc hw'
        refine copyBehind_k (v := c - 100) (w := w - 20) (a := pre ++ [c, w]) (r := r) (t := t) (by omega) (by omega) hr1 (by simpa using hr) ht1.nh (by omega) (by simp only [List.length_append, List.length_cons, List.length_nil]; omega) (fun s' hr' f' => nx s' ?_ (hf.trans f'))
        show RowL s' n (hc1 j (hcI j l))
        rw [e, hc1_yes hp hc hw' q' hr1 ht1.nh]
        simpa using hr'
  · obtain ⟨w, x, rfl, g2, _⟩ := q.2
    exact hw g2
-- ===== in the reference
section CX
variable {v w : Int}
theorem Rb {many : Int} (hm : many ≤ 2400) {K : (Int → Int) → Prop} {P : Int → (Int → Int) → Prop} (hP : ∀ q ρ, wp_copyFrom_7 K many v w P q ρ → P q ρ) (hv : 0 ≤ v ∧ v ≤ 5) (hw : 0 ≤ w ∧ w ≤ 5) : ∀ {r : List Int}, Sq r → ∀ (ρ : Int → Int) (q : Int), At ρ q r → 0 ≤ q → q + r.length ≤ many → r.length ≤ 500 → cs r ≤ 40 → Lst ρ many (q + r.length) → (∀ ρ', At ρ' q (cpS v w r) → (∀ j, j < q ∨ q + r.length ≤ j → ρ' j = ρ j) → K ρ') → P q ρ := by
  intro r hr
  refine Sq.ind (P := fun r => ∀ (ρ : Int → Int) (q : Int), At ρ q r → 0 ≤ q → q + r.length ≤ many → r.length ≤ 500 → cs r ≤ 40 → Lst ρ many (q + r.length) → (∀ ρ', At ρ' q (cpS v w r) → (∀ j, j < q ∨ q + r.length ≤ j → ρ' j = ρ j) → K ρ') → P q ρ) ?_ ?_ hr
  · intro ρ q _ q0 _ _ _ hL k
    rw [show q + (([] : List Int).length : Int) = q by simp] at hL
    exact hP _ _ (isLast_yes q0 (by omega) hL (u1 (k ρ (by rw [cpS_nil]; trivial) (fun _ _ => rfl))))
  · intro s r hs hr ih ρ q ha q0 h1 h2 h40 hL k
    have hs' := hs.mono (T := Sq) (fun _ h => h.1)
    obtain ⟨a1, a2⟩ := At_app.mp ha
    have hp := hs.pos
    rw [List.length_append] at h1 h2 hL k
    rw [cs_app] at h40
    have hat := hs.at0 a1
    have e0 : q + ((s.length + r.length : Nat) : Int) = q + (s.length : Int) + r.length := by omega
    rw [e0] at hL k
    have main : (∀ c y, s = c :: y → c = 100 + v → cpS v w (s ++ r) = s.map (rnV v w) ++ r) → (∀ c y, s = c :: y → c ≠ 100 + v → cpS v w (s ++ r) = s.map (rnV v w) ++ cpS v w r) → wp_copyFrom_69 K v w q ρ P := by
      intro g1 g2
      refine behind_ok hs' (by omega) a1 q0 (by omega) (by omega) (replaces_x a1 rfl q0 (by omega) hv hw (fun ρ' b1 b2 => ?_))
      have ks := Lk_map hv hw s
      have hs2 : Sm Sq (s.map (rnV v w)) := hs'.lk (fun B m hB hm => hB.lk hm) ks
      have ls : (s.map (rnV v w)).length = s.length := List.length_map ..
      have css := ks.cnt.1
      obtain ⟨c, y, es, hc⟩ := hs'.head
      have hcS := isS_t.mp hc
      have ec : ρ' q = c := by
        rw [es] at b1
        have := b1.1
        rw [rnV_no hv (by unfold vr; omega)] at this
        exact this
      rw [ec]
      have a2' : At ρ' (q + s.length) r := At_same (fun j j0 _ => b2 j (Or.inr j0)) a2
      refine ⟨⟨by omega, by omega⟩, ⟨by omega, by omega⟩, fun z => ?_, fun z => k ρ' (by rw [g1 c y es z]; exact At_app.mpr ⟨b1, by rw [ls]; exact a2'⟩) (fun j hj => b2 j (by omega))⟩
      refine behind_ok hs2 (by omega) b1 q0 (by omega) (by omega) ?_
      rw [ls]
      refine ih ρ' _ a2' (by omega) (by omega) (by omega) (by omega) ?_ (fun ρ'' d1 d2 => k ρ'' ?_ (fun j hj => ?_))
      · unfold Lst at hL ⊢
        rw [b2 (q + s.length + r.length) (Or.inr (by omega))]
        exact hL
      · rw [g2 c y es z]
        refine At_app.mpr ⟨At_same (fun j j0 j1 => d2 j (Or.inl (by omega))) b1, by rw [ls]; exact d1⟩
      · rw [d2 j (by omega), b2 j (by omega)]
    have nest : ∀ z, (z = 0 → wp_copyFrom_69 K v w q ρ P) → (z ≠ 0 → wp_behind 100 ρ q (fun r58 => wp_sets ρ q r58 v (fun r62 => (r62 = 0 → wp_copyFrom_69 K v w q ρ P) ∧ (r62 ≠ 0 → K ρ)))) → wp_copyFrom_45 K v w q ρ P z := fun z g1 g2 => ⟨g1, g2⟩
    refine hP _ _ (isLast_no q0 (by omega) hm hat (u0 ⟨⟨by omega, by omega⟩, ?_⟩))
    rcases hs'.kind with ⟨c, e, hc, he, es⟩ | es | hb
    · have ec : ρ q = c := by rw [es] at a1; exact a1.1
      have hc' := hc
      unfold setC at hc'
      rw [ec]
      have f : cpS v w (s ++ r) = s.map (rnV v w) ++ (if c = 100 + v then r else cpS v w r) := by rw [es]; exact cpS_set hc he hr
      have m0 := main (fun c1 y e1 z => by
        have : c = c1 := (List.cons.inj (es.symm.trans e1)).1
        rw [f, if_pos (this.trans z)]) (fun c1 y e1 z => by
        have : c = c1 := (List.cons.inj (es.symm.trans e1)).1
        rw [f, if_neg (fun q => z (this.symm.trans q))])
      exact ⟨fun z => by omega, fun _ => ⟨⟨by omega, by omega⟩, fun _ => nest 0 (fun _ => m0) (fun z => absurd rfl z), fun z => by omega⟩⟩
    · have ec : ρ q = 111 := by rw [es] at a1; exact a1.1
      rw [ec]
      have f : cpS v w (s ++ r) = s.map (rnV v w) ++ cpS v w r := by
        rw [es, cpS_fail hr]
        show _ = rnV v w 111 :: cpS v w r
        rw [rnV_no hv (by unfold vr; omega)]
      have m0 := main (fun c1 y e1 z => by
        have : 111 = c1 := (List.cons.inj (es.symm.trans e1)).1
        omega) (fun _ _ _ _ => f)
      exact ⟨fun z => by omega, fun _ => ⟨⟨by omega, by omega⟩, fun _ => nest 0 (fun _ => m0) (fun z => absurd rfl z), fun z => by omega⟩⟩
    · obtain ⟨d, y, ed, hd⟩ := hb.head
      have ec : ρ q = d := by rw [ed] at a1; exact a1.1
      rw [ec]
      have f := cpS_br (v := v) (w := w) hb hr
      have go : wp_copyFrom_45 K v w q ρ P 1 := nest 1 (fun z => absurd z (by decide)) (fun _ => behind_ok hs' (by omega) a1 q0 (by omega) (by omega) (sets_x a1 rfl q0 (by omega) hv (fun hm => t1 (k ρ (by rw [f, if_pos hm]; exact ha) (fun _ _ => rfl))) (fun hm => t0 (main (fun c1 y1 e1 z => absurd (by rw [e1, z]; exact List.mem_cons_self) hm) (fun _ _ _ _ => by rw [f, if_neg hm])))))
      exact ⟨fun _ => go, fun z => ⟨⟨by omega, by omega⟩, fun z2 => by omega, fun _ => go⟩⟩
end CX
theorem copyFrom_x {row : Int → Int} {many : Int} {l pre r t : List Int} {c w : Int} (h : WF row many l) (e : l = pre ++ (c :: w :: (r ++ t))) (hc : 100 ≤ c ∧ c ≤ 105) (hw : 20 ≤ w ∧ w ≤ 25) (hr : Sq r) (hL : NT t) {K : (Int → Int) → Prop} (k : ∀ ρ, WF ρ many (pre ++ (c :: w :: (cpS (c - 100) (w - 20) r ++ t))) → K ρ) : wp_copyFrom row many pre.length (c - 100) (w - 20) K := by
  have hlen := h.len
  obtain ⟨h1, h2, h3, h4, h5⟩ := h
  have hlk : Lk l (pre ++ (c :: w :: (cpS (c - 100) (w - 20) r ++ t))) := by
    rw [e]
    exact (Lk.rf pre).app ⟨Or.inl rfl, Or.inl rfl, (cpS_lk (v := c - 100) (w := w - 20) (by omega) (by omega) hr).app (Lk.rf t)⟩
  have hcn := hlk.cnt
  rw [e] at h2 hlen h3 h4
  obtain ⟨a1, a2⟩ := At_app.mp h2
  rw [Int.zero_add] at a2
  have a3 : At row pre.length [c, w] := ⟨a2.1, a2.2.1, trivial⟩
  obtain ⟨a4, a5⟩ := At_app.mp a2.2.2
  rw [show (pre.length : Int) + 1 + 1 = pre.length + 2 by omega] at a4 a5
  simp only [List.length_append, List.length_cons] at hlen h3
  have hs : Sm Sq [c, w] := Or.inl ⟨c, [w], Or.inl hc, Ex.leaf (Or.inr hw), rfl⟩
  have hcs : cs ([c, w] : List Int) = 1 := by
    rw [cs_yes (Or.inl hc), cs_no (by omega)]; rfl
  have hcr : cs r ≤ 40 := by
    have q : cs (pre ++ (c :: w :: (r ++ t))) = cs (pre ++ [c, w]) + (cs r + cs t) := by
      rw [show pre ++ c :: w :: (r ++ t) = (pre ++ [c, w]) ++ (r ++ t) by simp, cs_app, cs_app, cs_app]
    omega
  have fin : ∀ ρ', At ρ' ((pre.length : Int) + 2) (cpS (c - 100) (w - 20) r) → (∀ j, j < (pre.length : Int) + 2 ∨ (pre.length : Int) + 2 + r.length ≤ j → ρ' j = row j) → K ρ' := by
    intro ρ' d1 d2
    have lr := (cpS_lk (v := c - 100) (w := w - 20) (by omega) (by omega) hr).len
    refine k ρ' ⟨h1.lk hlk, ?_, by rw [← hlk.len, e]; simp only [List.length_append, List.length_cons]; omega, by rw [← hcn.1, e]; exact h4, by rw [← hcn.2]; exact h5⟩
    refine At_app.mpr ⟨At_same (fun j j0 j1 => d2 j (Or.inl (by omega))) a1, ?_⟩
    rw [Int.zero_add]
    refine ⟨by rw [d2 _ (Or.inl (by omega))]; exact a2.1, by rw [d2 _ (Or.inl (by omega))]; exact a2.2.1, At_app.mpr ⟨?_, ?_⟩⟩
    · rw [show (pre.length : Int) + 1 + 1 = pre.length + 2 by omega]; exact d1
    · rw [show (pre.length : Int) + 1 + 1 = pre.length + 2 by omega, ← lr]
      exact At_same (fun j j0 j1 => d2 j (Or.inr j0)) a5
  unfold wp_copyFrom
  refine behind_ok hs (by omega) a3 (by omega) (by simp only [List.length_cons, List.length_nil]; omega) (by simp only [List.length_cons, List.length_nil]; omega) ?_
  rw [show (pre.length : Int) + (([c, w] : List Int).length : Int) = pre.length + 2 by simp only [List.length_cons, List.length_nil]; omega]
  intro P hP
  refine Rb (v := c - 100) (w := w - 20) (many := many) (by omega) hP (by omega) (by omega) hr row _ a4 (by omega) (by omega) (by omega) hcr ?_ fin
  rcases hL with rfl | ⟨d, y, rfl, hd⟩
  · exact Or.inl (by simp only [List.length_nil] at h3; omega)
  · refine Or.inr ⟨by simp only [List.length_cons] at h3; omega, ?_⟩
    rw [a5.1]; exact hd
theorem hastyCopy_x {row : Int → Int} {many : Int} {l : List Int} (h : WF row many l) {K : (Int → Int) → Prop} (hK : ∀ r, WF r many (hcF l) → K r) : wp_hastyCopy row many K := by
  have hm := h.2.2.1
  have hl := h.1
  have hlen := h.len
  refine wl2_rule (fun (i : Int) (ρ : Int → Int) => ∃ j : Nat, i = (j : Int) ∧ j ≤ l.length ∧ WF ρ many (hcI j l)) (fun (i : Int) _ => (many - i).toNat) ?_ ⟨0, rfl, Nat.zero_le _, h⟩
  rintro P i ρ ⟨j, rfl, hj, hw⟩ ih
  obtain ⟨m1, m2, m3, m4⟩ := hcI_ok j hl
  refine ⟨fun z => hK ρ (by unfold hcF; rw [show l.length = j by omega]; exact hw), fun z => ⟨⟨by omega, by omega⟩, ?_⟩⟩
  obtain ⟨pre, c, post, e, hp⟩ : ∃ pre c post, hcI j l = pre ++ c :: post ∧ pre.length = j := by
    refine ⟨(hcI j l).take j, (hcI j l)[j]'(by omega), (hcI j l).drop (j + 1), ?_, ?_⟩
    · rw [List.getElem_cons_drop, List.take_append_drop]
    · rw [List.length_take]; omega
  have nx : ∀ ρ', WF ρ' many (hcI (j + 1) l) → rng ((j : Int) + 1) ∧ P ((j : Int) + 1) ρ' := fun ρ' q1 => ⟨⟨by omega, by omega⟩, ih _ _ ⟨j + 1, by omega, by omega, q1⟩ (by omega)⟩
  have stay : ¬ cpAt j (hcI j l) → rng ((j : Int) + 1) ∧ P ((j : Int) + 1) ρ := fun q => nx ρ (by show WF ρ many (hc1 j (hcI j l)); rw [hc1_no q]; exact hw)
  have nocp := noCp e
  rw [hp] at nocp
  have at0 := hw.2.1
  rw [e] at at0
  obtain ⟨a1, a2⟩ := At_app.mp at0
  rw [Int.zero_add, hp] at a2
  have ec : ρ j = c := a2.1
  rw [ec]
  refine isIn_c (fun x y => t1 ⟨⟨by omega, by omega⟩, ?_⟩) (fun q => t0 (stay (nocp (fun g => q g.1))))
  -- a set is not the row's last cell
  obtain ⟨ex, r0, t0', e1, he, hr0, ht0⟩ := seq_at m1 e ⟨x, y⟩
  cases post with
  | nil =>
    have hpos := he.pos
    cases ex with
    | nil => exact absurd hpos (by decide)
    | cons _ _ => cases e1
  | cons w post =>
    have ew : ρ ((j : Int) + 1) = w := a2.2.1
    rw [ew]
    refine isIn_c (fun x' y' => u1 ⟨⟨by omega, by omega⟩, ⟨by omega, by omega⟩, ⟨by omega, by omega⟩, ⟨by omega, by omega⟩, fun q => stay (nocp (fun g => ?_)), fun q => ?_⟩) (fun q => u0 (stay (nocp (fun g => ?_))))
    · obtain ⟨w', z, g1, _, g3⟩ := g.2
      rw [(List.cons.inj g1).1] at q
      exact g3 q
    · obtain ⟨r, t, rfl, hr1, ht1, hcs⟩ := cpAt_is (i := j) m1 e ⟨x, y⟩ ⟨x', y'⟩
      have := copyFrom_x hw e ⟨x, y⟩ ⟨x', y'⟩ hr1 ht1 (K := fun ρ' => rng ((j : Int) + 1) ∧ P ((j : Int) + 1) ρ') (fun ρ' hρ => nx ρ' (by
        show WF ρ' many (hc1 j (hcI j l))
        rw [e, hc1_yes hp ⟨x, y⟩ ⟨x', y'⟩ q hr1 ht1.nh]
        exact hρ))
      rw [hp] at this
      exact this
    · obtain ⟨w', z, g1, g2, _⟩ := g.2
      rw [(List.cons.inj g1).1] at q
      exact q g2
