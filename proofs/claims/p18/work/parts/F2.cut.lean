-- ===== cut, on both sides
/-- marked at one place -/
def mk1 (p : Int) (i : Int) : Int := if i = p then 1 else 0
theorem st_ex {x : List Int} (hx : Ex lfR x) {pre q : List Int} {c : Int} (e : x = pre ++ c :: q) (hc : isS c = true) : False := by
  have h1 := hx.isPs c (by rw [e]; exact List.mem_append_right _ List.mem_cons_self)
  have h2 := isP_t.mp h1
  have h3 := isS_t.mp hc
  omega
def StA (l pre post : List Int) (c : Int) : Prop := ∃ s t, c :: post = s ++ t ∧ Sm Sq s ∧ Sq (pre ++ t) ∧ ∀ (o : Int → Int) (q : Int), 0 ≤ q → (∀ j : Int, q ≤ j → j < q + l.length → j ≠ q + pre.length → o j = 0) → o (q + pre.length) ≠ 0 → rmF o q l = pre ++ t
theorem st_at {l : List Int} (hl : Sq l) : ∀ {pre post : List Int} {c : Int}, l = pre ++ c :: post → isS c = true → StA l pre post c := by
  refine Sq.ind (P := fun l => ∀ {pre post : List Int} {c : Int}, l = pre ++ c :: post → isS c = true → StA l pre post c) ?_ ?_ hl
  · intro pre post c h _
    cases pre with
    | nil => cases h
    | cons _ _ => cases h
  · intro s r hs hr ih pre post c h hS
    have hc := isS_t.mp hS
    have hs0 := hs.mono (T := Sq) (fun _ h => h.1)
    rcases cut2 h.symm with ⟨q, e1, e2⟩ | ⟨p, e1, e2⟩
    · -- within the first statement
      have fin : ∀ (s1 t1 : List Int), c :: q = s1 ++ t1 → Sm Sq s1 → Sm Sq (pre ++ t1) → (∀ (o : Int → Int) (q0 : Int), 0 ≤ q0 → (∀ j : Int, q0 ≤ j → j < q0 + s.length → j ≠ q0 + pre.length → o j = 0) → o (q0 + pre.length) ≠ 0 → rmF o q0 s = pre ++ t1) → StA (s ++ r) pre post c := by
        intro s1 t1 g1 g2 g3 g4
        refine ⟨s1, t1 ++ r, cons_app2 e2 g1, g2, ?_, fun o q0 z0 z1 z2 => ?_⟩
        · have := Sq.cons g3 hr
          simpa using this
        · have hlen : s.length = pre.length + (q.length + 1) := by rw [e1]; simp
          rw [rmF_cons hs0 hr, g4 o q0 z0 (fun j j0 j1 j2 => z1 j j0 (by rw [List.length_append]; omega) j2) z2, rm_id hr (q0 + s.length) (by omega) (fun j j0 j1 => z1 j (by omega) (by rw [List.length_append]; omega) (by omega)), List.append_assoc]
      cases pre with
      | nil =>
        refine ⟨s, r, by rw [e1, e2]; rfl, hs0, hr, fun o q0 z0 z1 z2 => ?_⟩
        have z3 : o q0 ≠ 0 := by
          have := z2
          simpa using this
        have hp := hs0.pos
        rw [rmF_cons hs0 hr, rmF_out hs0 z3, rm_id hr (q0 + s.length) (by omega) (fun j j0 j1 => z1 j (by omega) (by rw [List.length_append]; omega) (by simp only [List.length_nil]; omega))]
      | cons d pre =>
        rcases hs with ⟨v, e, hv, he, rfl⟩ | rfl | ⟨t, a, b, B, C, ht, hA, hB, hb, hcc, rfl⟩ | ⟨t, a, b, B, ht, hA, hB, hb, rfl⟩
        · exact (st_ex he (List.cons.inj e1).2 hS).elim
        · have := (List.cons.inj e1).2
          cases pre <;> cases this
        · have ht' := ht
          unfold testC at ht'
          obtain ⟨h1, f1⟩ := List.cons.inj e1
          cases pre with
          | nil => have := (List.cons.inj f1).1; omega
          | cons d' pre =>
            obtain ⟨h2, f2⟩ := List.cons.inj f1
            subst h1; subst h2
            rcases cut2 f2.symm with ⟨q1, g1, g2⟩ | ⟨p1, g1, g2⟩
            · exact (st_ex hA g1 hS).elim
            · rcases cut2 g2.symm with ⟨q2, k1, k2⟩ | ⟨p2, k1, k2⟩
              · exact (st_ex hB k1 hS).elim
              · have lp : pre.length = a.length + (b.length + p2.length) := by rw [g1, k1]; simp
                rcases cut2 k2.symm with ⟨q3, m1, m2⟩ | ⟨p3, m1, m2⟩
                · obtain ⟨s1, t0, z1, z2, z3, z4⟩ := hb.2 m1 hS
                  have lB : B.length = p2.length + (q3.length + 1) := by rw [m1]; simp
                  refine fin s1 (t0 ++ (113 :: (C ++ [114]))) (cons_app2 m2 z1) z2 (Or.inr (Or.inr (Or.inl ⟨t, a, b, p2 ++ t0, C, ht, hA, hB, z3, hcc.1, by rw [g1, k1]; simp⟩))) (fun o q0 w0 w1 w2 => ?_)
                  simp only [List.length_cons, List.length_append, List.length_nil] at w1 w2
                  rw [rmF_if ht hA hB hb.1 hcc.1, if_neg (fun w => w (w1 q0 (by omega) (by omega) (by omega))), z4 o (q0 + 2 + a.length + b.length) (by omega) (fun j j0 j1 j2 => w1 j (by omega) (by omega) (by omega)) (by rw [show q0 + 2 + (a.length : Int) + b.length + p2.length = q0 + ((pre.length + 1 + 1 : Nat) : Int) by omega]; exact w2), rm_id hcc.1 _ (by omega) (fun j j0 j1 => w1 j (by omega) (by omega) (by omega)), g1, k1]
                  simp
                · cases p3 with
                  | nil => have := (List.cons.inj m2).1; omega
                  | cons d3 p3 =>
                    obtain ⟨h3, m3⟩ := List.cons.inj m2
                    rcases cut2 m3.symm with ⟨q4, n1, n2⟩ | ⟨p4, n1, n2⟩
                    · obtain ⟨s1, t0, z1, z2, z3, z4⟩ := hcc.2 n1 hS
                      have lC : C.length = p3.length + (q4.length + 1) := by rw [n1]; simp
                      have lp2 : p2.length = B.length + (p3.length + 1) := by rw [m1]; simp
                      refine fin s1 (t0 ++ [114]) (cons_app2 n2 z1) z2 (Or.inr (Or.inr (Or.inl ⟨t, a, b, B, p3 ++ t0, ht, hA, hB, hb.1, z3, by rw [g1, k1, m1, ← h3]; simp⟩))) (fun o q0 w0 w1 w2 => ?_)
                      simp only [List.length_cons, List.length_append, List.length_nil] at w1 w2
                      rw [rmF_if ht hA hB hb.1 hcc.1, if_neg (fun w => w (w1 q0 (by omega) (by omega) (by omega))), rm_id hb.1 _ (by omega) (fun j j0 j1 => w1 j (by omega) (by omega) (by omega)), z4 o (q0 + 2 + a.length + b.length + B.length + 1) (by omega) (fun j j0 j1 j2 => w1 j (by omega) (by omega) (by omega)) (by rw [show q0 + 2 + (a.length : Int) + b.length + B.length + 1 + p3.length = q0 + ((pre.length + 1 + 1 : Nat) : Int) by omega]; exact w2), g1, k1, m1, ← h3]
                      simp
                    · cases p4 with
                      | nil => have := (List.cons.inj n2).1; omega
                      | cons d4 p4 => have := (List.cons.inj n2).2; cases p4 <;> cases this
        · have ht' := ht
          unfold testC at ht'
          obtain ⟨h1, f1⟩ := List.cons.inj e1
          cases pre with
          | nil => have := (List.cons.inj f1).1; omega
          | cons d' pre =>
            obtain ⟨h2, f2⟩ := List.cons.inj f1
            subst h1; subst h2
            rcases cut2 f2.symm with ⟨q1, g1, g2⟩ | ⟨p1, g1, g2⟩
            · exact (st_ex hA g1 hS).elim
            · rcases cut2 g2.symm with ⟨q2, k1, k2⟩ | ⟨p2, k1, k2⟩
              · exact (st_ex hB k1 hS).elim
              · have lp : pre.length = a.length + (b.length + p2.length) := by rw [g1, k1]; simp
                rcases cut2 k2.symm with ⟨q3, m1, m2⟩ | ⟨p3, m1, m2⟩
                · obtain ⟨s1, t0, z1, z2, z3, z4⟩ := hb.2 m1 hS
                  have lB : B.length = p2.length + (q3.length + 1) := by rw [m1]; simp
                  refine fin s1 (t0 ++ [114]) (cons_app2 m2 z1) z2 (Or.inr (Or.inr (Or.inr ⟨t, a, b, p2 ++ t0, ht, hA, hB, z3, by rw [g1, k1]; simp⟩))) (fun o q0 w0 w1 w2 => ?_)
                  simp only [List.length_cons, List.length_append, List.length_nil] at w1 w2
                  rw [rmF_wh ht hA hB hb.1, if_neg (fun w => w (w1 q0 (by omega) (by omega) (by omega))), z4 o (q0 + 2 + a.length + b.length) (by omega) (fun j j0 j1 j2 => w1 j (by omega) (by omega) (by omega)) (by rw [show q0 + 2 + (a.length : Int) + b.length + p2.length = q0 + ((pre.length + 1 + 1 : Nat) : Int) by omega]; exact w2), g1, k1]
                  simp
                · cases p3 with
                  | nil => have := (List.cons.inj m2).1; omega
                  | cons d3 p3 => have := (List.cons.inj m2).2; cases p3 <;> cases this
    · obtain ⟨s1, t, g1, g2, g3, g4⟩ := ih e2 hS
      have hlen : pre.length = s.length + p.length := by rw [e1, List.length_append]
      refine ⟨s1, t, g1, g2, ?_, fun o q0 z0 z1 z2 => ?_⟩
      · have := Sq.cons hs0 g3
        rw [e1]
        simpa using this
      · rw [List.length_append] at z1
        rw [rmF_cons hs0 hr, rm_id (Sq.one hs0) q0 z0 (fun j j0 j1 => z1 j j0 (by omega) (by omega)), g4 o (q0 + s.length) (by omega) (fun j j0 j1 j2 => z1 j (by omega) (by omega) (by omega)) (by rw [show q0 + (s.length : Int) + p.length = q0 + pre.length by omega]; exact z2), e1, List.append_assoc]
/-- the row without the statement at p -/
noncomputable def rmS (l : List Int) (p : Nat) : List Int := rmF (mk1 p) 0 l
theorem rmS_at {l : List Int} (hl : Sq l) {p : Nat} (hp : p < l.length) (hS : isS (getI l p) = true) : ∃ pre s t, l = pre ++ (s ++ t) ∧ pre.length = p ∧ Sm Sq s ∧ Sq (pre ++ t) ∧ rmS l p = pre ++ t := by
  obtain ⟨pre, c, post, e, ep⟩ := at_split hp
  have hc : getI l p = c := by rw [e, ← ep, getI_mid]
  rw [hc] at hS
  obtain ⟨s, t, g1, g2, g3, g4⟩ := st_at hl e hS
  refine ⟨pre, s, t, by rw [e, g1], ep, g2, g3, ?_⟩
  refine g4 (mk1 p) 0 (Int.le_refl 0) (fun j j0 j1 j2 => if_neg (by omega)) ?_
  rw [show mk1 p (0 + (pre.length : Int)) = 1 from if_pos (by omega)]
  decide
theorem rmS_le {l : List Int} (hl : Sq l) {p : Nat} (hp : p < l.length) (hS : isS (getI l p) = true) : Sq (rmS l p) ∧ cs (rmS l p) < cs l ∧ cp (rmS l p) ≤ cp l ∧ (rmS l p).length < l.length := by
  obtain ⟨pre, s, t, e, ep, h1, h2, h3⟩ := rmS_at hl hp hS
  have c := h1.csp
  have q := h1.pos
  rw [h3]
  refine ⟨h2, ?_, ?_, ?_⟩
  · rw [e, cs_app, cs_app, cs_app]; omega
  · rw [e, cp_app, cp_app, cp_app]; omega
  · rw [e]; simp only [List.length_append]; omega
/-- what the PASS makes of it is WRONG -/
def Wrg (LX RX : Int → List Int) (V l : List Int) : Prop := ∃ l', mkR LX RX V l (some l') ∧ fstP (gP l l') 256 ≠ -1
def CtS (LX RX : Int → List Int) (V l : List Int) (p : Nat) : Prop := p < l.length ∧ isS (getI l p) = true ∧ Wrg LX RX V (rmS l p)
def ct1 (LX RX : Int → List Int) (V l : List Int) (o : Option (List Int)) : Prop := (∃ p, CtS LX RX V l p ∧ (∀ i, i < p → ¬ CtS LX RX V l i) ∧ o = some (rmS l p)) ∨ ((∀ i, ¬ CtS LX RX V l i) ∧ o = none)
def ctR (LX RX : Int → List Int) (V : List Int) : Nat → List Int → List Int → Prop
  | 0, l, l' => l' = l
  | n + 1, l, l' => (ct1 LX RX V l none ∧ l' = l) ∨ ∃ l1, ct1 LX RX V l (some l1) ∧ ctR LX RX V n l1 l'
section F2
variable {LX RX : Int → List Int} {V l : List Int}
theorem ct1.uq {o o' : Option (List Int)} (h : ct1 LX RX V l o) (h' : ct1 LX RX V l o') : o = o' := by
  rcases h with ⟨p, a1, a2, a3⟩ | ⟨a1, a2⟩
  · rcases h' with ⟨p', b1, b2, b3⟩ | ⟨b1, b2⟩
    · have e : p = p' := by
        rcases Nat.lt_trichotomy p p' with q | q | q
        · exact absurd a1 (b2 p q)
        · exact q
        · exact absurd b1 (a2 p' q)
      rw [a3, b3, e]
    · exact absurd a1 (b1 p)
  · rcases h' with ⟨p', b1, b2, b3⟩ | ⟨b1, b2⟩
    · exact absurd b1 (a1 p')
    · rw [a2, b2]
theorem ctR.uq : ∀ {n : Nat} {l a b : List Int}, ctR LX RX V n l a → ctR LX RX V n l b → a = b
  | 0, _, _, _, h, h' => h.trans h'.symm
  | n + 1, l, a, b, h, h' => by
    rcases h with ⟨h1, h2⟩ | ⟨l1, h1, h2⟩
    · rcases h' with ⟨g1, g2⟩ | ⟨l2, g1, g2⟩
      · rw [h2, g2]
      · cases h1.uq g1
    · rcases h' with ⟨g1, g2⟩ | ⟨l2, g1, g2⟩
      · cases h1.uq g1
      · have e := Option.some.inj (h1.uq g1)
        subst e
        exact ctR.uq h2 g2
theorem ct1.lt (hl : Sq l) {l' : List Int} (h : ct1 LX RX V l (some l')) : Sq l' ∧ cs l' < cs l ∧ cp l' ≤ cp l ∧ l'.length < l.length := by
  rcases h with ⟨p, a1, a2, a3⟩ | ⟨_, a2⟩
  · have e := Option.some.inj a3
    rw [e]
    exact rmS_le hl a1.1 a1.2.1
  · cases a2
/-- what cut does -/
def ctO (σ : Sg) (LX RX PV : Int → List Int) (x0 x1 x2 : Int) (o : Option (List Int)) : Prop := ((¬ ((0 ≤ x0 ∧ x0 ≤ 5) ∧ (0 ≤ x1 ∧ x1 ≤ 5) ∧ (0 ≤ x2 ∧ x2 ≤ 5))) ∧ o = none) ∨ (((0 ≤ x0 ∧ x0 ≤ 5) ∧ (0 ≤ x1 ∧ x1 ≤ 5) ∧ (0 ≤ x2 ∧ x2 ≤ 5)) ∧ ∃ l, RowL σ x1 l ∧ ((¬ ((1 ≤ cs l ∧ cs l ≤ 12) ∧ Wrg LX RX (PV x0) l) ∧ o = none) ∨ (((1 ≤ cs l ∧ cs l ≤ 12) ∧ Wrg LX RX (PV x0) l) ∧ ∃ l', ctR LX RX (PV x0) 12 l l' ∧ o = some l')))
theorem ctO.uq {σ : Sg} {PV : Int → List Int} {x0 x1 x2 : Int} {o o' : Option (List Int)} (h : ctO σ LX RX PV x0 x1 x2 o) (h' : ctO σ LX RX PV x0 x1 x2 o') : o = o' := by
  rcases h with ⟨a1, a2⟩ | ⟨a1, l, a2, a3⟩
  · rcases h' with ⟨b1, b2⟩ | ⟨b1, _⟩
    · rw [a2, b2]
    · exact absurd b1 a1
  · rcases h' with ⟨b1, b2⟩ | ⟨b1, l', b2, b3⟩
    · exact absurd a1 b1
    · have e1 := a2.uq b2
      subst e1
      rcases a3 with ⟨c1, c2⟩ | ⟨c1, l1, c2, c3⟩
      · rcases b3 with ⟨d1, d2⟩ | ⟨d1, _⟩
        · rw [c2, d2]
        · exact absurd d1 c1
      · rcases b3 with ⟨d1, d2⟩ | ⟨d1, l2, d2, d3⟩
        · exact absurd c1 d1
        · rw [c3, d3, c2.uq d2]
/-- rows that cutting writes -/
def w67 (k : Int) : Prop := k = 6 ∨ k = 7 ∨ k = 9 ∨ k = 10
def qj (a : Nat) : Prop := cj a ∨ fl 71 a
end F2
section F2b
variable {LX RX PV : Int → List Int} {l : List Int} {σ σ0 : Sg} {x0 x1 x2 : Int}
theorem wrong_k {K : Int → Sg → Prop} {K0 : Sg → Prop} {m : Int} (hk : 0 ≤ x0 ∧ x0 ≤ 5) (h : RowL σ m l) (hm : m ≠ 9 ∧ m ≠ 10) (hl : Sq l) (hcs : cs l ≤ 40) (hcp : cp l ≤ 300) (hP : Pvk σ LX RX PV) (k1 : Wrg LX RX (PV x0) l → ∀ σ', Fq qj mk9 ab σ σ' → K 1 σ') (k0 : ¬ Wrg LX RX (PV x0) l → ∀ σ', Fq qj mk9 ab σ σ' → K 0 σ') (kf : ¬ Wrg LX RX (PV x0) l → ∀ σ', Fq qj mk9 ab σ σ' → K0 σ') : wp5_P_makeOf σ x0 m (fun r19 σr19 => (r19 = 0 → K0 σr19) ∧ (r19 ≠ 0 → wp5_P_madeWrong σr19 m K)) := by
  obtain ⟨v1, v2, v3, v4⟩ := hP x0 hk.1 hk.2
  have up : ∀ {σ σ' : Sg}, Fq (fl 71) mk9 ab σ σ' → Fq qj mk9 ab σ σ' := fun f => f.mono (fun _ h => Or.inr h) (fun _ h => h) (fun _ h => h)
  have upj : ∀ {σ σ' : Sg}, Fq cj No No σ σ' → Fq qj mk9 ab σ σ' := fun f => f.mono (fun _ h => Or.inl h) (fun _ h => h.elim) (fun _ h => h.elim)
  refine makeOf_k (LX := LX) (RX := RX) ⟨hk.1, by omega⟩ h hm.1 hl hcs hcp v1 v2 v3 v4 (fun l' hmk s1 s2 s3 σ1 r1 f1 => t1 ?_) (fun hmk σ1 f1 => t0 (kf (fun q => by obtain ⟨l2, q1, _⟩ := q; cases hmk.uq q1) σ1 (up f1)))
  have h' : RowL σ1 m l := h.fr f1 (fun q => by unfold mk9 at q; omega)
  refine madeWrong_k h' r1 hl s1 hcs s2 hcp s3 (fun hw σ2 f2 _ => k1 ⟨l', hmk, hw⟩ σ2 ((up f1).trans (upj f2))) (fun hw σ2 f2 => k0 (fun q => ?_) σ2 ((up f1).trans (upj f2)))
  obtain ⟨l2, q1, q2⟩ := q
  have e := Option.some.inj (hmk.uq q1)
  subst e
  exact q2 hw
theorem Pvk.q (hP : Pvk σ0 LX RX PV) (f : Fq qj w67 ab σ0 σ) : Pvk σ LX RX PV := hP.fr f (by unfold qj cj fl; omega) (fun k z => by unfold w67 at z; omega) (fun z => by unfold ab at z; omega)
theorem cutDown_k {K : Int → Sg → Prop} (hk : 0 ≤ x0 ∧ x0 ≤ 5) (h : RowL σ0 x1 l) (hm : 0 ≤ x1 ∧ x1 ≤ 5) (hl : Sq l) (hcs : cs l ≤ 40) (hcp : cp l ≤ 300) (hP : Pvk σ0 LX RX PV) (k0 : ¬ ((1 ≤ cs l ∧ cs l ≤ 12) ∧ Wrg LX RX (PV x0) l) → ∀ σ', Fq qj w67 ab σ0 σ' → K 0 σ') (k1 : ((1 ≤ cs l ∧ cs l ≤ 12) ∧ Wrg LX RX (PV x0) l) → ∀ l', ctR LX RX (PV x0) 12 l l' → Sq l' → cs l' ≤ 40 → cp l' ≤ 300 → ∀ σ', RowL σ' 6 l' → Fq qj w67 ab σ0 σ' → K 1 σ') : wp5_P_cutDown σ0 x0 x1 K := by
  have lb := hl.len
  have up9 : ∀ {σ σ' : Sg}, Fq qj mk9 ab σ σ' → Fq qj w67 ab σ σ' := fun f => f.mono (fun _ h => h) (fun _ h => Or.inr (Or.inr h)) (fun _ h => h)
  have up6 : ∀ {σ σ' : Sg}, Fq No (one 6) No σ σ' → Fq qj w67 ab σ σ' := fun f => f.mono (fun _ h => h.elim) (fun _ h => Or.inl h) (fun _ h => h.elim)
  have up7 : ∀ {σ σ' : Sg}, Fq No (one 7) No σ σ' → Fq qj w67 ab σ σ' := fun f => f.mono (fun _ h => h.elim) (fun _ h => Or.inr (Or.inl h)) (fun _ h => h.elim)
  have c6 : capI 6 = 480 := rfl
  have c7 : capI 7 = 480 := rfl
  refine W_statements_k h ⟨fun z => k0 (fun q => by have := q.1; omega) σ0 Fq.refl, fun z => ⟨fun z2 => k0 (fun q => by have := q.1; omega) σ0 Fq.refl, fun z2 => ?_⟩⟩
  have h12 : 1 ≤ cs l ∧ cs l ≤ 12 := by omega
  refine wrong_k (K := fun r27 σr27 => (r27 ≠ 0 → wp5_W_copy σr27 6 x1 (fun σr40 => wl3 (wp5_P_cutDown_49 K x0) 1 0 σr40)) ∧ (r27 = 0 → K 0 σr27)) hk h (by omega) hl hcs hcp hP (fun hw σ1 f1 => u1 ?_) (fun hw σ1 f1 => u0 (k0 (fun q => hw q.2) σ1 (up9 f1))) (fun hw σ1 f1 => k0 (fun q => hw q.2) σ1 (up9 f1))
  have hx : RowL σ1 x1 l := h.fr f1 (fun q => by unfold mk9 at q; omega)
  refine copy_k (n := 6) (m := x1) (by omega) hx (by omega) (by omega) (fun σ2 r2 f2 => ?_)
  refine wl3_rule (fun (ch rd : Int) (s : Sg) => ∃ (n : Nat) (l1 : List Int), rd = 12 - (n : Int) ∧ n ≤ 12 ∧ RowL s 6 l1 ∧ Sq l1 ∧ cs l1 ≤ 40 ∧ cp l1 ≤ 300 ∧ Fq qj w67 ab σ0 s ∧ ((ch ≠ 0 ∧ ∀ o, ctR LX RX (PV x0) n l1 o → ctR LX RX (PV x0) 12 l o) ∨ (ch = 0 ∧ ctR LX RX (PV x0) 12 l l1))) (fun (_ rd : Int) _ => (12 - rd).toNat) ?_ ⟨12, l, by omega, Nat.le_refl _, r2, hl, hcs, hcp, (up9 f1).trans (up6 f2), Or.inl ⟨by decide, fun o q => q⟩⟩
  rintro P ch rd s ⟨n, l1, rfl, hn, r6, s1, s2, s3, f, inv⟩ ih
  have lb1 := s1.len
  refine ⟨fun z => ?_, fun z => ⟨fun zc => ?_, fun zc => ?_⟩⟩
  · have n0 : n = 0 := by omega
    rcases inv with ⟨_, ho⟩ | ⟨_, ho⟩
    · rw [n0] at ho
      exact k1 ⟨h12, hw⟩ l1 (ho l1 rfl) s1 s2 s3 s r6 f
    · exact k1 ⟨h12, hw⟩ l1 ho s1 s2 s3 s r6 f
  · rcases inv with ⟨q, _⟩ | ⟨_, ho⟩
    · exact absurd zc q
    · exact k1 ⟨h12, hw⟩ l1 ho s1 s2 s3 s r6 f
  · obtain ⟨n', rfl⟩ : ∃ n', n = n' + 1 := ⟨n - 1, by omega⟩
    have ho : ∀ o, ctR LX RX (PV x0) (n' + 1) l1 o → ctR LX RX (PV x0) 12 l o := by
      rcases inv with ⟨_, ho⟩ | ⟨q, _⟩
      · exact ho
      · exact absurd q zc
    have er : (12 : Int) - ((n' + 1 : Nat) : Int) + 1 = 12 - (n' : Int) := by omega
    refine wl3_rule (fun (c2 i : Int) (s : Sg) => ∃ j : Nat, i = (j : Int) ∧ j ≤ l1.length ∧ RowL s 6 l1 ∧ Fq qj w67 ab σ0 s ∧ ((c2 = 0 ∧ ∀ i, i < j → ¬ CtS LX RX (PV x0) l1 i) ∨ (c2 ≠ 0 ∧ ∃ l2, ct1 LX RX (PV x0) l1 (some l2) ∧ RowL s 7 l2))) (fun (_ i : Int) _ => ((l1.length : Int) - i).toNat) ?_ ⟨0, rfl, Nat.zero_le _, r6, f, Or.inl ⟨rfl, fun i hi => absurd hi (Nat.not_lt_zero i)⟩⟩
    rintro P2 c2 i s ⟨j, rfl, hj, r6, f, inv2⟩ ih2
    have found : c2 ≠ 0 → wp5_P_cutDown_164 c2 (12 - ((n' + 1 : Nat) : Int)) s P := by
      intro hc
      rcases inv2 with ⟨q, _⟩ | ⟨_, l2, hct, r7⟩
      · exact absurd q hc
      · obtain ⟨g1, g2, g3, g4⟩ := hct.lt s1
        refine ⟨fun q => absurd q hc, fun _ => copy_k (n := 6) (m := 7) (by omega) r7 (by decide) (by have := r7.2.2.2; omega) (fun s' r6' f' => ⟨rng_small (by omega) (by omega), ?_⟩)⟩
        rw [er]
        exact ih _ _ _ ⟨n', l2, rfl, by omega, r6', g1, by omega, by omega, f.trans (up6 f'), Or.inl ⟨hc, fun o q => ho o (Or.inr ⟨l2, hct, q⟩)⟩⟩ (by omega)
    refine ⟨fun z3 => ?_, fun z3 => ⟨fun zc2 => found zc2, fun zc2 => ?_⟩⟩
    · by_cases q : c2 = 0
      · refine ⟨fun _ => ⟨rng_small (by omega) (by omega), ?_⟩, fun q2 => absurd q q2⟩
        rw [er]
        have no : ct1 LX RX (PV x0) l1 none := by
          rcases inv2 with ⟨_, q2⟩ | ⟨q2, _⟩
          · have ej : j = l1.length := by have := r6.2.2.1; omega
            exact Or.inr ⟨fun i hi => q2 i (by rw [ej]; exact hi.1) hi, rfl⟩
          · exact absurd q q2
        exact ih _ _ _ ⟨n', l1, rfl, by omega, r6, s1, s2, s3, f, Or.inr ⟨q, ho _ (Or.inl ⟨no, rfl⟩)⟩⟩ (by omega)
      · exact found q
    · have hjl : j < l1.length := by have := r6.2.2.1; omega
      have old : ∀ i, i < j → ¬ CtS LX RX (PV x0) l1 i := by
        rcases inv2 with ⟨_, q2⟩ | ⟨q2, _⟩
        · exact q2
        · exact absurd zc2 q2
      have step : ¬ CtS LX RX (PV x0) l1 j → ∀ s', RowL s' 6 l1 → Fq qj w67 ab σ0 s' → rng ((j : Int) + 1) ∧ P2 0 ((j : Int) + 1) s' := by
        intro hno s' r6' f'
        refine ⟨rng_small (by omega) (by omega), ?_⟩
        rw [show (j : Int) + 1 = ((j + 1 : Nat) : Int) by omega]
        refine ih2 _ _ _ ⟨j + 1, rfl, by omega, r6', f', Or.inl ⟨rfl, fun i hi => ?_⟩⟩ (by omega)
        by_cases e : i = j
        · rw [e]; exact hno
        · exact old i (by omega)
      refine cell_get r6 (isStatement_k (fun hS => t1 ?_) (fun hS => t0 ?_))
      · obtain ⟨pre, st, t, e, ep, q1, q2, q3⟩ := rmS_at s1 hjl hS
        obtain ⟨q4, q5, q6, q7⟩ := rmS_le s1 hjl hS
        refine copy_k (n := 7) (m := 6) (by omega) r6 (by decide) (by omega) (fun s3' r7 f3 => ?_)
        have r6b : RowL s3' 6 l1 := r6.fr f3 (fun q => absurd (show (6 : Int) = 7 from q) (by decide))
        have r6c := r6b
        rw [e] at r6c r7
        have hje : (j : Int) = pre.length := by omega
        refine statementEnd_k r6c q1 hje (remove_k r7 hje rfl (fun s4 r7' f4 => ?_))
        have r6d : RowL s4 6 l1 := r6b.fr f4 (fun q => absurd (show (6 : Int) = 7 from q) (by decide))
        rw [← q3] at r7'
        have f04 : Fq qj w67 ab σ0 s4 := (f.trans (up7 f3)).trans (up7 f4)
        refine wrong_k (K := fun r145 σr145 => (r145 = 0 → rng ((j : Int) + 1) ∧ P2 0 ((j : Int) + 1) σr145) ∧ (r145 ≠ 0 → rng ((j : Int) + 1) ∧ P2 1 ((j : Int) + 1) σr145)) hk r7' ⟨by decide, by decide⟩ q4 (by omega) (by omega) (hP.q f04) (fun hw2 s5 f5 => t1 ⟨rng_small (by omega) (by omega), ?_⟩) (fun hw2 s5 f5 => t0 (step (fun q => hw2 q.2.2) s5 (r6d.fr f5 (fun q => by unfold mk9 at q; omega)) (f04.trans (up9 f5)))) (fun hw2 s5 f5 => step (fun q => hw2 q.2.2) s5 (r6d.fr f5 (fun q => by unfold mk9 at q; omega)) (f04.trans (up9 f5)))
        rw [show (j : Int) + 1 = ((j + 1 : Nat) : Int) by omega]
        exact ih2 _ _ _ ⟨j + 1, rfl, by omega, r6d.fr f5 (fun q => by unfold mk9 at q; omega), f04.trans (up9 f5), Or.inr ⟨by decide, rmS l1 j, Or.inl ⟨j, ⟨hjl, hS, hw2⟩, old, rfl⟩, r7'.fr f5 (fun q => by unfold mk9 at q; omega)⟩⟩ (by omega)
      · rw [zc2]
        exact step (fun q => by rw [q.2.1] at hS; cases hS) s r6 f
variable {slot slotLong rule ruleRight ruleLong items : Int → Int}
def w7 (s k : Int) : Prop := w67 k ∨ k = s
theorem cut_k (hS : SL σ slot slotLong) (hP : Pvk σ LX RX PV) {K : Int → Sg → Prop} (k0 : ctO σ LX RX PV x0 x1 x2 none → ∀ σ', Fq qj w67 ab σ σ' → K (-1) σ') (k1 : ∀ l', ctO σ LX RX PV x0 x1 x2 (some l') → (0 ≤ x2 ∧ x2 ≤ 5) → Sq l' → cs l' ≤ 40 → cp l' ≤ 300 → ∀ σ', RowL σ' x2 l' → Fq qj (w7 x2) ab σ σ' → K (cs l') σ') : wp5_S_cut σ x0 x1 x2 K := by
  have bad : ¬ ((0 ≤ x0 ∧ x0 ≤ 5) ∧ (0 ≤ x1 ∧ x1 ≤ 5) ∧ (0 ≤ x2 ∧ x2 ≤ 5)) → ∀ σ', Fq qj w67 ab σ σ' → K (-1) σ' := fun h => k0 (Or.inl ⟨h, rfl⟩)
  refine slotAt_k (fun v1 => ⟨fun z => absurd z (by omega), fun _ => ⟨⟨by omega, by omega⟩, slotAt_k (fun v2 => ⟨fun z => absurd z (by omega), fun _ => ⟨⟨by omega, by omega⟩, ?_⟩⟩) (fun v2 => ⟨fun _ => bad (fun q => v2 q.2.2) σ Fq.refl, fun z => absurd z (by decide)⟩)⟩⟩) (fun v1 => ⟨fun _ => slotAt_k (fun v2 => ⟨fun z => absurd z (by omega), fun _ => ⟨⟨by omega, by omega⟩, bad (fun q => v1 q.2.1) σ Fq.refl⟩⟩) (fun v2 => ⟨fun _ => bad (fun q => v1 q.2.1) σ Fq.refl, fun z => absurd z (by decide)⟩), fun z => absurd z (by decide)⟩)
  obtain ⟨l, h1, h2, h3, h4, h5, h6, h7⟩ := hS.get v1.1 v1.2
  by_cases v0 : 0 ≤ x0 ∧ x0 ≤ 5
  · refine cutDown_k v0 h2 v1 h1 h5 h6 hP (fun hn σ' f => ⟨fun z => absurd rfl z, fun _ => k0 (Or.inr ⟨⟨v0, v1, v2⟩, l, h2, Or.inl ⟨hn, rfl⟩⟩) σ' f⟩) (fun hy l' hc s1 s2 s3 σ1 r1 f1 => ⟨fun _ => ?_, fun z => absurd z (by decide)⟩)
    have b2 := s1.len
    have c480 : capI x2 = 480 := if_pos (by omega)
    refine copy_k (n := x2) (m := 6) (by omega) r1 (by omega) (by rw [c480]; omega) (fun σ2 r2 f2 => W_statements_k r2 (k1 l' (Or.inr ⟨⟨v0, v1, v2⟩, l, h2, Or.inr ⟨hy, l', hc, rfl⟩⟩) v2 s1 s2 s3 σ2 r2 ?_))
    exact (f1.mono (fun _ h => h) (fun _ h => Or.inl h) (fun _ h => h)).trans (f2.mono (fun _ h => h.elim) (fun _ h => Or.inr h) (fun _ h => h.elim))
  · have no : ∀ σ', Fq qj w67 ab σ σ' → ((0 : Int) ≠ 0 → wp5_W_copy σ' x2 6 (fun σr48 => wp5_W_statements σr48 x2 (fun r53 => K r53 σr48))) ∧ ((0 : Int) = 0 → K (-1) σ') := fun σ' f => u0 (bad (fun q => v0 q.1) σ' f)
    refine W_statements_k h2 ⟨fun _ => no σ Fq.refl, fun _ => ⟨fun _ => no σ Fq.refl, fun _ => ?_⟩⟩
    exact no_pass v0 (t0 (no σ Fq.refl))
theorem isWrong_x {V : List Int} {itemMany : Int → Int} {k : Int} (k0 : 0 ≤ k) (k5 : k ≤ 5) (v1 : At items (8 * k) V) (v2 : itemMany k = V.length) (v3 : V.length ≤ 8) (v4 : ∀ v ∈ V, (0 ≤ v ∧ v < 12 ∧ RW rule ruleRight ruleLong v (LX v) (RX v)) ∨ (20 ≤ v ∧ v ≤ 24)) {row fresh holds outs keptEnd keptMany keptOut bound isOut : Int → Int} {many made steps ending outMany cursor firstParting firstPlace partings anyTired patternAt someOut : Int} (h : WF row many l) {K : Int → (Int → Int) → (Int → Int) → Int → Int → (Int → Int) → (Int → Int) → Int → Int → Int → Int → (Int → Int) → (Int → Int) → (Int → Int) → Int → Int → Int → Int → (Int → Int) → Int → (Int → Int) → Int → Prop} (kw : Wrg LX RX V l → ∀ a1 a2 a3 a4 a5 a6 a7 a8 a9 a10 a11 a12 a13 a14 a15 a16 a17 a18 a19 a20 a21, K 1 a1 a2 a3 a4 a5 a6 a7 a8 a9 a10 a11 a12 a13 a14 a15 a16 a17 a18 a19 a20 a21) (kn : ¬ Wrg LX RX V l → ∀ a1 a2 a3 a4 a5 a6 a7 a8 a9 a10 a11 a12 a13 a14 a15 a16 a17 a18 a19 a20 a21, K 0 a1 a2 a3 a4 a5 a6 a7 a8 a9 a10 a11 a12 a13 a14 a15 a16 a17 a18 a19 a20 a21) : wp_isWrong row fresh many made rule ruleRight ruleLong holds outs steps ending outMany cursor keptEnd keptMany keptOut firstParting firstPlace partings anyTired bound patternAt isOut someOut items itemMany k K := by
  refine keeps_x h (fun h' o' s' e' m' c' x' y' z' k4 => makes_x (LX := LX) (RX := RX) k0 k5 v1 v2 v3 v4 h (fun l' hmk a b c d e g i j w' => ⟨fun _ => compares_x w' k4 (fun h2 o2 s2 e2 m2 c2 a' b' d' t' q1 q2 q3 q4 => ⟨fun z1 => kn (fun q => ?_) _ _ _ _ _ _ _ _ _ _ _ _ _ _ _ _ _ _ _ _ _, fun z1 => kw ⟨l', hmk, fun q => z1 (q1.trans q)⟩ _ _ _ _ _ _ _ _ _ _ _ _ _ _ _ _ _ _ _ _ _⟩), fun q => absurd q (by decide)⟩) (fun hmk a b c d e g i j => ⟨fun q => absurd rfl q, fun _ => kn (fun q => ?_) _ _ _ _ _ _ _ _ _ _ _ _ _ _ _ _ _ _ _ _ _⟩))
  · obtain ⟨l2, w1, w2⟩ := q
    have e := Option.some.inj (hmk.uq w1)
    subst e
    exact w2 (q1.symm.trans z1)
  · obtain ⟨l2, w1, _⟩ := q
    cases hmk.uq w1
theorem cutsOne_x {V : List Int} {itemMany : Int → Int} {k : Int} (k0 : 0 ≤ k) (k5 : k ≤ 5) (v1 : At items (8 * k) V) (v2 : itemMany k = V.length) (v3 : V.length ≤ 8) (v4 : ∀ v ∈ V, (0 ≤ v ∧ v < 12 ∧ RW rule ruleRight ruleLong v (LX v) (RX v)) ∨ (20 ≤ v ∧ v ≤ 24)) {row fresh holds outs keptEnd keptMany keptOut bound isOut : Int → Int} {many made steps ending outMany cursor firstParting firstPlace partings anyTired patternAt someOut : Int} {whole cutRow : Int → Int} {wholeLong : Int} (h : WF whole wholeLong l) {K : Int → (Int → Int) → (Int → Int) → Int → Int → (Int → Int) → (Int → Int) → Int → Int → Int → Int → (Int → Int) → (Int → Int) → (Int → Int) → Int → Int → Int → Int → (Int → Int) → Int → (Int → Int) → Int → (Int → Int) → Int → (Int → Int) → Prop} (hK0 : ct1 LX RX V l none → ∀ a1 a2 a3 a4 a5 a6 a7 a8 a9 a10 a11 a12 a13 a14 a15 a16 a17 a18 a19 a20 a21 cr, K 0 a1 a2 a3 a4 a5 a6 a7 a8 a9 a10 a11 a12 a13 a14 a15 a16 a17 a18 a19 a20 a21 whole wholeLong cr) (hK1 : ∀ l', ct1 LX RX V l (some l') → ∀ a1 a2 a3 a4 a5 a6 a7 a8 a9 a10 a11 a12 a13 a14 a15 a16 a17 a18 a19 a20 a21 w' wl' cr, WF w' wl' l' → K 1 a1 a2 a3 a4 a5 a6 a7 a8 a9 a10 a11 a12 a13 a14 a15 a16 a17 a18 a19 a20 a21 w' wl' cr) : wp_cutsOne row fresh many made rule ruleRight ruleLong holds outs steps ending outMany cursor keptEnd keptMany keptOut firstParting firstPlace partings anyTired bound patternAt isOut someOut items itemMany whole wholeLong cutRow k K := by
  have hl := h.len
  have hm := h.2.2.1
  refine wl23_rule (fun (i : Int) _ _ _ _ _ _ _ _ _ _ _ _ _ _ _ _ _ _ _ _ _ _ => ∃ n : Nat, i = (n : Int) ∧ n ≤ l.length ∧ ∀ j, j < n → ¬ CtS LX RX V l j) (fun (i : Int) _ _ _ _ _ _ _ _ _ _ _ _ _ _ _ _ _ _ _ _ _ _ => (wholeLong - i).toNat) ?_ ⟨0, rfl, Nat.zero_le _, fun j hj => absurd hj (Nat.not_lt_zero j)⟩
  rintro P i row fresh many made holds outs steps ending outMany cursor keptEnd keptMany keptOut firstParting firstPlace partings anyTired bound patternAt isOut someOut cutRow ⟨n, rfl, hn, old⟩ ih
  refine ⟨fun z => hK0 (Or.inr ⟨fun j hj => old j (by have := hj.1; omega) hj, rfl⟩) _ _ _ _ _ _ _ _ _ _ _ _ _ _ _ _ _ _ _ _ _ _, fun hlt => ⟨⟨by omega, by omega⟩, ?_⟩⟩
  have hnl : n < l.length := by omega
  have ew : whole n = getI l n := by
    have := getI_at h.2.1 (k := (n : Int)) ⟨by omega, by omega⟩
    rwa [Int.zero_add] at this
  have next : ¬ CtS LX RX V l n → ∀ a1 a2 a3 a4 a5 a6 a7 a8 a9 a10 a11 a12 a13 a14 a15 a16 a17 a18 a19 a20 a21 a22, rng ((n : Int) + 1) ∧ P ((n : Int) + 1) a1 a2 a3 a4 a5 a6 a7 a8 a9 a10 a11 a12 a13 a14 a15 a16 a17 a18 a19 a20 a21 a22 := by
    intro hno a1 a2 a3 a4 a5 a6 a7 a8 a9 a10 a11 a12 a13 a14 a15 a16 a17 a18 a19 a20 a21 a22
    refine ⟨⟨by omega, by omega⟩, ?_⟩
    rw [show (n : Int) + 1 = ((n + 1 : Nat) : Int) by omega]
    refine ih _ _ _ _ _ _ _ _ _ _ _ _ _ _ _ _ _ _ _ _ _ _ _ ⟨n + 1, rfl, by omega, fun j hj => ?_⟩ (by omega)
    by_cases e : j = n
    · rw [e]; exact hno
    · exact old j (by omega)
  rw [ew]
  refine isStatement_c (fun hS => u1 ?_) (fun hS => u0 (next (fun q => by rw [q.2.1] at hS; cases hS) _ _ _ _ _ _ _ _ _ _ _ _ _ _ _ _ _ _ _ _ _ _))
  refine takesWhole_ok h.2.1 hm (by omega) (fun row1 hr1 => clears_ok (fun o1 ho1 => ⟨⟨by omega, by omega⟩, ?_⟩))
  have hw1 : WF row1 wholeLong l := ⟨h.1, hr1, hm, h.2.2.2.1, h.2.2.2.2⟩
  obtain ⟨l', cr, hcp⟩ := copiedx hw1 (uZ o1 n 1)
  have el : l' = rmS l n := by
    rw [cr.2]
    refine rmF_congr h.1 0 (fun j j0 j1 => ?_)
    show uZ o1 n 1 j = mk1 n j
    unfold uZ mk1
    by_cases q : j = n
    · rw [if_pos q, if_pos q]
    · rw [if_neg q, if_neg q]; exact ho1 j j0 (by omega)
  obtain ⟨g1, g2, g3, g4⟩ := rmS_le h.1 hnl hS
  rw [← el] at g1 g2 g3 g4
  refine hcp fresh (fun f' r' n' m' => _) (fun f' row2 hw2 => ?_)
  refine wl2_rule (fun (j : Int) (c : Int → Int) => ∃ a b : List Int, l' = a ++ b ∧ j = a.length ∧ At c 0 a) (fun (j : Int) _ => ((l'.length : Int) - j).toNat) ?_ ⟨[], l', rfl, rfl, trivial⟩
  rintro P2 j c ⟨a, b, eab, rfl, hc⟩ ih2
  have hab : l'.length = a.length + b.length := by rw [eab]; simp
  refine ⟨fun hend => ?_, fun hlt2 => ?_⟩
  · have hb : b = [] := List.length_eq_zero_iff.mp (by omega)
    subst hb
    rw [List.append_nil] at eab
    subst eab
    refine isWrong_x k0 k5 v1 v2 v3 v4 hw2 (fun hw a1 a2 a3 a4 a5 a6 a7 a8 a9 a10 a11 a12 a13 a14 a15 a16 a17 a18 a19 a20 a21 => ⟨fun _ => ?_, fun z => absurd z (by decide)⟩) (fun hw a1 a2 a3 a4 a5 a6 a7 a8 a9 a10 a11 a12 a13 a14 a15 a16 a17 a18 a19 a20 a21 => ⟨fun z => absurd rfl z, fun _ => next (fun q => hw (by rw [el]; exact q.2.2)) _ _ _ _ _ _ _ _ _ _ _ _ _ _ _ _ _ _ _ _ _ _⟩)
    refine wl3_rule (fun (j : Int) (w : Int → Int) (c2 : Int → Int) => At c2 0 l' ∧ ∃ a b : List Int, l' = a ++ b ∧ j = a.length ∧ At w 0 a) (fun (j : Int) _ _ => ((l'.length : Int) - j).toNat) ?_ ⟨hc, [], l', rfl, rfl, trivial⟩
    rintro P3 j w c2 ⟨hc2, a, b, eab, rfl, hww⟩ ih3
    have hab : l'.length = a.length + b.length := by rw [eab]; simp
    refine ⟨fun hend3 => ?_, fun hlt3 => ?_⟩
    · have hb : b = [] := List.length_eq_zero_iff.mp (by omega)
      subst hb
      rw [List.append_nil] at eab
      subst eab
      exact hK1 l' (Or.inl ⟨n, ⟨hnl, hS, by rw [← el]; exact hw⟩, old, by rw [el]⟩) _ _ _ _ _ _ _ _ _ _ _ _ _ _ _ _ _ _ _ _ _ _ _ _ ⟨hw2.1, hww, rfl, hw2.2.2.2.1, hw2.2.2.2.2⟩
    · cases b with
      | nil => simp at hab; omega
      | cons d b =>
        have a2 : At c2 a.length (d :: b) := by
          have hh := hc2
          rw [eab] at hh
          have := (At_app.mp hh).2
          rwa [show (0 : Int) + a.length = a.length by omega] at this
        simp only [List.length_cons] at hab
        refine ⟨⟨by omega, by omega⟩, ⟨by omega, by omega⟩, ⟨by omega, by omega⟩, ih3 _ _ _ ⟨hc2, a ++ [d], b, by rw [eab]; simp, by simp, ?_⟩ (by omega)⟩
        have := At_snoc (c := c2 a.length) hww
        rw [show (0 : Int) + a.length = a.length by omega] at this
        rw [a2.1] at this ⊢
        exact this
  · cases b with
    | nil => simp at hab; omega
    | cons d b =>
      have a2 : At row2 a.length (d :: b) := by
        have hh := hw2.2.1
        rw [eab] at hh
        have := (At_app.mp hh).2
        rwa [show (0 : Int) + a.length = a.length by omega] at this
      simp only [List.length_cons] at hab
      refine ⟨⟨by omega, by omega⟩, ⟨by omega, by omega⟩, ⟨by omega, by omega⟩, ih2 _ _ ⟨a ++ [d], b, by rw [eab]; simp, by simp, ?_⟩ (by omega)⟩
      have := At_snoc (c := row2 a.length) hc
      rw [show (0 : Int) + a.length = a.length by omega] at this
      rw [a2.1] at this ⊢
      exact this
theorem cut_x (hS : SL σ slot slotLong) {itemMany : Int → Int} (hV : ∀ k, 0 ≤ k → k ≤ 5 → At items (8 * k) (PV k) ∧ itemMany k = (PV k).length ∧ (PV k).length ≤ 8 ∧ ∀ v ∈ PV k, (0 ≤ v ∧ v < 12 ∧ RW rule ruleRight ruleLong v (LX v) (RX v)) ∨ (20 ≤ v ∧ v ≤ 24)) {row fresh holds outs keptEnd keptMany keptOut bound isOut : Int → Int} {many made steps ending outMany cursor firstParting firstPlace partings anyTired patternAt someOut : Int} {whole cutRow : Int → Int} {wholeLong : Int} {K : Int → (Int → Int) → (Int → Int) → (Int → Int) → (Int → Int) → Int → Int → (Int → Int) → (Int → Int) → Int → Int → Int → Int → (Int → Int) → (Int → Int) → (Int → Int) → Int → Int → Int → Int → (Int → Int) → Int → (Int → Int) → Int → (Int → Int) → Int → (Int → Int) → Prop} (k0 : ctO σ LX RX PV x0 x1 x2 none → ∀ a1 a2 a3 a4 a5 a6 a7 a8 a9 a10 a11 a12 a13 a14 a15 a16 a17 a18 a19 a20 a21 a22 a23 a24, K (-1) slot slotLong a1 a2 a3 a4 a5 a6 a7 a8 a9 a10 a11 a12 a13 a14 a15 a16 a17 a18 a19 a20 a21 a22 a23 a24) (k1 : ∀ l', ctO σ LX RX PV x0 x1 x2 (some l') → (0 ≤ x2 ∧ x2 ≤ 5) → Sq l' → cs l' ≤ 40 → cp l' ≤ 300 → ∀ sl a1 a2 a3 a4 a5 a6 a7 a8 a9 a10 a11 a12 a13 a14 a15 a16 a17 a18 a19 a20 a21 a22 a23 a24, At sl (520 * x2) l' → (∀ j : Int, j < 520 * x2 ∨ 520 * x2 + l'.length ≤ j → sl j = slot j) → K (cs l') sl (uZ slotLong x2 l'.length) a1 a2 a3 a4 a5 a6 a7 a8 a9 a10 a11 a12 a13 a14 a15 a16 a17 a18 a19 a20 a21 a22 a23 a24) : wp_cut slot slotLong row fresh many made rule ruleRight ruleLong holds outs steps ending outMany cursor keptEnd keptMany keptOut firstParting firstPlace partings anyTired bound patternAt isOut someOut items itemMany whole wholeLong cutRow x0 x1 x2 K := by
  have bad : ¬ ((0 ≤ x0 ∧ x0 ≤ 5) ∧ (0 ≤ x1 ∧ x1 ≤ 5) ∧ (0 ≤ x2 ∧ x2 ≤ 5)) → ∀ a1 a2 a3 a4 a5 a6 a7 a8 a9 a10 a11 a12 a13 a14 a15 a16 a17 a18 a19 a20 a21 a22 a23 a24, K (-1) slot slotLong a1 a2 a3 a4 a5 a6 a7 a8 a9 a10 a11 a12 a13 a14 a15 a16 a17 a18 a19 a20 a21 a22 a23 a24 := fun h => k0 (Or.inl ⟨h, rfl⟩)
  refine isPass_c (fun a0 b0 => t1 (isSlot_c (fun a1 b1 => t1 (isSlot_c (fun a2 b2 => u1 ?_) (fun z => u0 (bad (fun q => z q.2.2) _ _ _ _ _ _ _ _ _ _ _ _ _ _ _ _ _ _ _ _ _ _ _ _)))) (fun z => t0 (bad (fun q => z q.2.1) _ _ _ _ _ _ _ _ _ _ _ _ _ _ _ _ _ _ _ _ _ _ _ _)))) (fun z => t0 (bad (fun q => z q.1) _ _ _ _ _ _ _ _ _ _ _ _ _ _ _ _ _ _ _ _ _ _ _ _))
  have hx2 : 0 ≤ x2 ∧ x2 ≤ 5 := ⟨a2, b2⟩
  obtain ⟨l, h1, h2, h3, h4, h5, h6, h7⟩ := hS.get a1 b1
  obtain ⟨v1, v2, v3, v4⟩ := hV x0 a0 b0
  have ok : ∀ o, ((¬ ((1 ≤ cs l ∧ cs l ≤ 12) ∧ Wrg LX RX (PV x0) l) ∧ o = none) ∨ (((1 ≤ cs l ∧ cs l ≤ 12) ∧ Wrg LX RX (PV x0) l) ∧ ∃ l', ctR LX RX (PV x0) 12 l l' ∧ o = some l')) → ctO σ LX RX PV x0 x1 x2 o := fun o q => Or.inr ⟨⟨⟨a0, b0⟩, ⟨a1, b1⟩, ⟨a2, b2⟩⟩, l, h2, q⟩
  refine takes_get a1 b1 h1 h3 h4 h5 h6 (fun r hw => statements_ok hw.2.1 rfl (by omega) (isIn_c (fun c1 c12 => u1 ?_) (fun z => u0 (k0 (ok _ (Or.inl ⟨fun q => z (by have := q.1; omega), rfl⟩)) _ _ _ _ _ _ _ _ _ _ _ _ _ _ _ _ _ _ _ _ _ _ _ _))))
  refine keepsWhole_ok hw.2.1 rfl (by omega) (fun w hww => isWrong_x a0 b0 v1 v2 v3 v4 hw (fun hwr a1 a2 a3 a4 a5 a6 a7 a8 a9 a10 a11 a12 a13 a14 a15 a16 a17 a18 a19 a20 a21 => ⟨fun _ => ?_, fun z => absurd z (by decide)⟩) (fun hwr a1 a2 a3 a4 a5 a6 a7 a8 a9 a10 a11 a12 a13 a14 a15 a16 a17 a18 a19 a20 a21 => ⟨fun z => absurd rfl z, fun _ => k0 (ok _ (Or.inl ⟨fun q => hwr q.2, rfl⟩)) _ _ _ _ _ _ _ _ _ _ _ _ _ _ _ _ _ _ _ _ _ _ _ _⟩))
  refine wl25_rule (fun (z : Int) _ _ _ _ _ _ _ _ _ _ _ _ _ _ _ _ _ _ _ _ _ (w : Int → Int) (wl : Int) _ => ∃ (n : Nat) (l1 : List Int), WF w wl l1 ∧ cs l1 ≤ n ∧ ((z ≠ 0 ∧ ∀ o, ctR LX RX (PV x0) n l1 o → ctR LX RX (PV x0) 12 l o) ∨ (z = 0 ∧ ctR LX RX (PV x0) 12 l l1))) (fun (z : Int) _ _ _ _ _ _ _ _ _ _ _ _ _ _ _ _ _ _ _ _ _ _ (wl : Int) _ => wl.toNat + (if z = 0 then 0 else 1)) ?_ ⟨12, l, ⟨hw.1, hww, rfl, hw.2.2.2.1, hw.2.2.2.2⟩, by omega, Or.inl ⟨by decide, fun o q => q⟩⟩
  rintro P z row fresh many made holds outs steps ending outMany cursor keptEnd keptMany keptOut firstParting firstPlace partings anyTired bound patternAt isOut someOut w wl cr ⟨n, l1, hw1, hn, inv⟩ ih
  have hl1 := hw1.len
  have hm1 := hw1.2.2.1
  refine ⟨fun hz => ?_, fun hz => ?_⟩
  · have hc : ctR LX RX (PV x0) 12 l l1 := by
      rcases inv with ⟨q, _⟩ | ⟨_, q⟩
      · exact absurd hz q
      · exact q
    refine takesWhole_ok hw1.2.1 hw1.2.2.1 (by omega) (fun r2 hr2 => puts_ok hx2.1 hx2.2 hr2 hm1 (by omega) (fun sl s1 s2 => statements_ok hr2 hm1 (by omega) ?_))
    rw [hm1]
    exact k1 l1 (ok _ (Or.inr ⟨⟨by omega, hwr⟩, l1, hc, rfl⟩)) hx2 hw1.1 hw1.2.2.2.1 hw1.2.2.2.2 sl _ _ _ _ _ _ _ _ _ _ _ _ _ _ _ _ _ _ _ _ _ _ _ _ s1 s2
  · have ho : ∀ o, ctR LX RX (PV x0) n l1 o → ctR LX RX (PV x0) 12 l o := by
      rcases inv with ⟨_, q⟩ | ⟨q, _⟩
      · exact q
      · exact absurd q hz
    refine cutsOne_x a0 b0 v1 v2 v3 v4 hw1 (fun hno a1 a2 a3 a4 a5 a6 a7 a8 a9 a10 a11 a12 a13 a14 a15 a16 a17 a18 a19 a20 a21 a22 => ih _ _ _ _ _ _ _ _ _ _ _ _ _ _ _ _ _ _ _ _ _ _ _ _ _ ⟨n, l1, hw1, hn, Or.inr ⟨rfl, ho l1 ?_⟩⟩ ?_) (fun l' hct a1 a2 a3 a4 a5 a6 a7 a8 a9 a10 a11 a12 a13 a14 a15 a16 a17 a18 a19 a20 a21 a22 a23 a24 hw' => ?_)
    · cases n with
      | zero => rfl
      | succ n => exact Or.inl ⟨hno, rfl⟩
    · rw [if_pos rfl, if_neg hz]; omega
    · obtain ⟨g1, g2, g3, g4⟩ := hct.lt hw1.1
      obtain ⟨n', rfl⟩ : ∃ n', n = n' + 1 := ⟨n - 1, by omega⟩
      have hm' := hw'.2.2.1
      refine ih _ _ _ _ _ _ _ _ _ _ _ _ _ _ _ _ _ _ _ _ _ _ _ _ _ ⟨n', l', hw', by omega, Or.inl ⟨by decide, fun o q => ho o (Or.inr ⟨l', hct, q⟩)⟩⟩ ?_
      rw [if_neg (show ¬ ((1 : Int) = 0) by decide), if_neg hz]; omega
end F2b
