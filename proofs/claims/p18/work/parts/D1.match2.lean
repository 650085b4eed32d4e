-- ===== matching in the class
theorem mL_one {c : Int} {g : Env} {e : List Int} (hc : 30 ≤ c ∧ c ≤ 32) (he : Ex lfR e) : mL [c] g e = bnd g (c - 30) e := by
  have h2 := mL_let (X := []) (g := g) (r := []) hc he
  rw [List.append_nil] at h2
  rw [h2]
  cases bnd g (c - 30) e <;> rfl
section MD
variable {σ : Sg} {n m : Int} {l a b e : List Int} {g : Env}
theorem EnvC.fr {σ' : Sg} (h : EnvC σ n m g) (e0 : σ'.2.2.2 0 m = σ.2.2.2 0 m) (el : σ'.2.2.1 0 m = σ.2.2.1 0 m) (e2 : σ'.2.2.2 2 n = σ.2.2.2 2 n) (e3 : σ'.2.2.2 3 n = σ.2.2.2 3 n) : EnvC σ' n m g := by
  intro k k0 k1
  rw [e0, el, e2, e3]
  exact h k k0 k1
theorem bind_k {k : Int} {K : Int → Sg → Prop} (h : RowL σ m (a ++ (e ++ b))) (he : Ex lfR e) (hk : 0 ≤ k ∧ k ≤ 2) (hg : EnvC σ n m g) (k1 : ∀ g', bnd g k e = some g' → ∀ σ', EnvC σ' n m g' → Fq No No ab σ σ' → K 1 σ') (k0 : bnd g k e = none → K 0 σ) : wp5_U_bind σ n m k a.length ((a.length : Int) + e.length) K := by
  have bd := h.bd
  have hrow := h
  obtain ⟨h1, h2, h3, h4⟩ := h
  simp only [List.length_append] at h3 h4 bd
  obtain ⟨a1, a2⟩ := At_app.mp h2
  obtain ⟨a3, a4⟩ := At_app.mp a2
  rw [Int.zero_add] at a3
  have pos := he.pos
  have hb := hg k hk.1 hk.2
  refine ⟨fun z => absurd z (by omega), fun _ => ⟨fun _ => ⟨by omega, fun z => ?_, fun z => ?_⟩, fun z => absurd z (by omega)⟩⟩
  · have gk : g k = [] := by
      rcases hb with q | q
      · exact q.1
      · omega
    have ebn : bnd g k e = some (upE g k e) := if_pos gk
    refine k1 _ ebn _ ?_ ⟨fun _ _ => ⟨rfl, rfl⟩, fun _ _ => ⟨rfl, rfl⟩, fun _ _ => rfl, fun c c1 hc => ?_⟩
    · have s2 : (pZ (pZ σ 2 n (uZ (σ.2.2.2 2 n) k a.length)) 3 n (uZ (σ.2.2.2 3 n) k ((a.length : Int) + e.length))).2.2.2 2 n = uZ (σ.2.2.2 2 n) k a.length := by
        show uF (σ.2.2.2 2) n (uZ (σ.2.2.2 2 n) k a.length) n = _
        exact uF_eq
      have s3 : (pZ (pZ σ 2 n (uZ (σ.2.2.2 2 n) k a.length)) 3 n (uZ (σ.2.2.2 3 n) k ((a.length : Int) + e.length))).2.2.2 3 n = uZ (σ.2.2.2 3 n) k ((a.length : Int) + e.length) := by
        show uF (σ.2.2.2 3) n (uZ (σ.2.2.2 3 n) k ((a.length : Int) + e.length)) n = _
        exact uF_eq
      intro j j0 j1
      rw [s2, s3]
      by_cases hj : j = k
      · subst hj
        refine Or.inr ?_
        rw [show upE g j e j = e from if_pos rfl, show uZ (σ.2.2.2 2 n) j (a.length : Int) j = a.length from if_pos rfl, show uZ (σ.2.2.2 3 n) j ((a.length : Int) + e.length) j = (a.length : Int) + e.length from if_pos rfl]
        exact ⟨he.ne, by omega, a3, rfl, by show (a.length : Int) + e.length ≤ σ.2.2.1 0 m; omega⟩
      · rw [show upE g k e j = g j from if_neg hj, show uZ (σ.2.2.2 2 n) k (a.length : Int) j = σ.2.2.2 2 n j from if_neg hj, show uZ (σ.2.2.2 3 n) k ((a.length : Int) + e.length) j = σ.2.2.2 3 n j from if_neg hj]
        exact hg j j0 j1
    · show (bif Nat.beq c 3 then _ else (bif Nat.beq c 2 then _ else σ.2.2.2 c)) = σ.2.2.2 c
      rw [beqF (fun q => hc (Or.inr q)), beqF (fun q => hc (Or.inl q))]; rfl
  · rcases hb with q | ⟨gk, p0, pa, pl, pm⟩
    · exact absurd q.2 z
    have ebn : bnd g k e = if g k = e then some g else none := if_neg gk
    rw [ebn] at k1 k0
    rw [pl] at pm ⊢
    refine ⟨rng_small (by omega) (by omega), rng_small (by omega) (by omega), fun q => k0 (if_neg (fun z => ?_)), fun q => ?_⟩
    · rw [z] at q; omega
    · refine repeats_k hrow p0 (by omega) (by simp only [List.length_append]; omega) (by simp only [List.length_append]; omega) pa a3 (by omega) (by omega) (fun z => t1 (k1 g (if_pos z) σ hg Fq.refl)) (fun z => t0 (k0 (if_neg z)))
def MtC (n m : Int) (K : Int → Sg → Prop) (L : Int → Int → Sg → Prop) (X : List Int) : Prop := ∀ (σ : Sg) (A B a b e : List Int) (g : Env), Ex lfR e → RowL σ (11 + 2 * n) (A ++ (X.map cv ++ B)) → RowL σ m (a ++ (e ++ b)) → EnvC σ n m g → (∀ g' σ', mL X g e = some g' → EnvC σ' n m g' → Fq No No ab σ σ' → L ((a.length : Int) + e.length) ((A.length : Int) + X.length) σ') → (mL X g e = none → ∀ σ', Fq No No ab σ σ' → K 0 σ') → L a.length A.length σ
theorem RowL.ab {σ' : Sg} {x : List Int} (h : RowL σ m x) (f : Fq No No ab σ σ') : RowL σ' m x := h.fr f (fun z => z)
theorem cv_no {c : Int} (h : ¬ (30 ≤ c ∧ c ≤ 32)) : cv c = c := if_neg h
theorem mtC_all {K : Int → Sg → Prop} {L : Int → Int → Sg → Prop} (hL : ∀ p i s, wp5_U_matches_45 K n m L p i s → L p i s) : ∀ {X : List Int}, Ex lfU X → MtC n m K L X := by
  intro X hX
  -- a cell that is no letter
  have cell : ∀ (σ : Sg) (A B a b : List Int) (c d : Int), ¬ (30 ≤ c ∧ c ≤ 32) → ¬ (20 ≤ c ∧ c ≤ 22) → RowL σ (11 + 2 * n) (A ++ (c :: B)) → RowL σ m (a ++ (d :: b)) → (d = c → L ((a.length : Int) + 1) ((A.length : Int) + 1) σ) → (d ≠ c → K 0 σ) → L a.length A.length σ := by
    intro σ A B a b c d h30 h20 hA ha k1 k0
    have b1 := hA.bd
    have b2 := ha.bd
    have hn := hA.2.2.1
    simp only [List.length_append, List.length_cons] at b1 b2 hn
    refine hL _ _ _ ⟨fun z => absurd z (by omega), fun _ => cell_mid hA rfl (letterOf_k (fun z => absurd z h20) (fun _ => ⟨fun _ => cell_mid hA rfl (cell_mid ha rfl ⟨fun q => k0 (fun z => q z.symm), fun q => ⟨rng_small (by omega) (by omega), rng_small (by omega) (by omega), k1 q.symm⟩⟩), fun z => absurd rfl z⟩))⟩
  refine Ex.ind (P := MtC n m K L) ?_ ?_ hX
  · intro c hc σ A B a b e g he hA ha hg k1 k0
    by_cases hl : 30 ≤ c ∧ c ≤ 32
    · have ecv : cv c = c - 10 := if_pos hl
      have hA' : RowL σ (11 + 2 * n) (A ++ ((c - 10) :: B)) := by rw [← ecv]; exact hA
      have b1 := hA'.bd
      have hn := hA'.2.2.1
      simp only [List.length_append, List.length_cons] at b1 hn
      rw [mL_one hl he] at k1 k0
      refine hL _ _ _ ⟨fun z => absurd z (by omega), fun _ => cell_mid hA' rfl (letterOf_k (fun _ => ⟨fun z => absurd z (by omega), fun _ => expressionEnd_k ha he rfl ?_⟩) (fun z => absurd (by omega) z))⟩
      rw [show c - 10 - 20 = c - 30 by omega]
      refine bind_k ha he ⟨by omega, by omega⟩ hg (fun g' q σ' hg' f => ⟨fun _ => ⟨rng_small (by omega) (by omega), ?_⟩, fun z => absurd z (by decide)⟩) (fun q => ⟨fun z => absurd rfl z, fun _ => k0 q σ Fq.refl⟩)
      have := k1 g' σ' q hg' f
      simpa using this
    · have hw : 0 ≤ c ∧ c ≤ 15 := by unfold lfU at hc; omega
      have hA' : RowL σ (11 + 2 * n) (A ++ (c :: B)) := by rw [← cv_no hl]; exact hA
      obtain ⟨d, y, rfl⟩ : ∃ d y, e = d :: y := by
        cases e with
        | nil => exact absurd rfl he.ne
        | cons d y => exact ⟨d, y, rfl⟩
      rw [mL_cell hl] at k1 k0
      refine cell σ A B a (y ++ b) c d hl (by omega) hA' ha (fun q => ?_) (fun q => k0 (if_neg q) σ Fq.refl)
      have hy : y = [] := by
        rcases he.cases with ⟨d', _, e1⟩ | ⟨o, _, _, ho, _, _, e1⟩
        · exact (List.cons.inj e1).2
        · have := (List.cons.inj e1).1
          unfold opC at ho; omega
      subst hy
      exact k1 g σ (if_pos q) hg Fq.refl
  · intro o X Y ho hX hY iX iY σ A B a b e g he hA ha hg k1 k0
    have hl : ¬ (30 ≤ o ∧ o ≤ 32) := by unfold opC at ho; omega
    have hA' : RowL σ (11 + 2 * n) (A ++ (o :: (X.map cv ++ (Y.map cv ++ B)))) := by
      have := hA
      simp only [List.map_cons, List.map_append] at this
      rw [cv_no hl] at this
      simpa using this
    have h20 : ¬ (20 ≤ o ∧ o ≤ 22) := by unfold opC at ho; omega
    rcases he.cases with ⟨d, hd, rfl⟩ | ⟨o', x, y, ho', hx, hy, rfl⟩
    · rw [mL_cell hl] at k1 k0
      have hne : d ≠ o := by unfold lfR at hd; unfold opC at ho; omega
      exact cell σ A _ a b o d hl h20 hA' ha (fun q => absurd q hne) (fun q => k0 (if_neg q) σ Fq.refl)
    · rw [mL_cell hl] at k1 k0
      refine cell σ A _ a ((x ++ y) ++ b) o o' hl h20 hA' ha (fun q => ?_) (fun q => k0 (if_neg q) σ Fq.refl)
      rw [if_pos q, mL_app hX _ _ _ _ hx] at k1 k0
      rw [show (a.length : Int) + 1 = ((a ++ [o']).length : Nat) by simp only [List.length_append, List.length_cons, List.length_nil]; omega, show (A.length : Int) + 1 = ((A ++ [o]).length : Nat) by simp only [List.length_append, List.length_cons, List.length_nil]; omega]
      refine iX σ (A ++ [o]) (Y.map cv ++ B) (a ++ [o']) (y ++ b) x g hx (by simpa using hA') (by simpa using ha) hg (fun g1 σ1 q1 e1 f1 => ?_) (fun q1 σ1 f1 => k0 (by rw [q1]; rfl) σ1 f1)
      rw [q1] at k1 k0
      rw [show (((a ++ [o']).length : Nat) : Int) + x.length = ((a ++ (o' :: x)).length : Nat) by simp only [List.length_append, List.length_cons, List.length_nil]; omega, show (((A ++ [o]).length : Nat) : Int) + X.length = ((A ++ (o :: X.map cv)).length : Nat) by simp only [List.length_append, List.length_cons, List.length_nil, List.length_map]; omega]
      refine iY σ1 (A ++ (o :: X.map cv)) B (a ++ (o' :: x)) b y g1 hy (by simpa using hA'.ab f1) (by simpa using ha.ab f1) e1 (fun g2 σ2 q2 e2 f2 => ?_) (fun q2 σ2 f2 => k0 q2 σ2 (f1.trans f2))
      have := k1 g2 σ2 q2 e2 (f1.trans f2)
      rw [show (((a ++ (o' :: x)).length : Nat) : Int) + y.length = (a.length : Int) + ((o' :: (x ++ y)).length : Nat) by simp only [List.length_append, List.length_cons]; omega, show (((A ++ (o :: X.map cv)).length : Nat) : Int) + Y.length = (A.length : Int) + ((o :: (X ++ Y)).length : Nat) by simp only [List.length_append, List.length_cons, List.length_map]; omega]
      exact this
def E0 : Env := fun _ => []
theorem matches_k {K : Int → Sg → Prop} {X : List Int} (hX : Ex lfU X) (hL : RowL σ (11 + 2 * n) (X.map cv)) (h : RowL σ m (a ++ (e ++ b))) (he : Ex lfR e) (k1 : ∀ g', mL X E0 e = some g' → ∀ σ', EnvC σ' n m g' → Fq No No ab σ σ' → K 1 σ') (k0 : mL X E0 e = none → ∀ σ', Fq No No ab σ σ' → K 0 σ') : wp5_U_matches σ n m a.length K := by
  obtain ⟨d, y, rfl⟩ : ∃ d y, e = d :: y := by
    cases e with
    | nil => exact absurd rfl he.ne
    | cons d y => exact ⟨d, y, rfl⟩
  have hd : isP d = true := he.isPs d List.mem_cons_self
  refine cell_mid (c := d) (b := y ++ b) h rfl (isExpression_k (fun _ => u1 ?_) (fun z => by rw [hd] at z; cases z))
  refine wl2_rule (fun (i : Int) (s : Sg) => 0 ≤ i ∧ i ≤ 3 ∧ Fq No No ab σ s ∧ ∀ j, 0 ≤ j → j < i → s.2.2.2 2 n j = -1) (fun (i : Int) _ => (3 - i).toNat) ?_ ⟨by omega, by omega, Fq.refl, fun j j0 j1 => by omega⟩
  rintro P i s ⟨i0, i1, f, hs⟩ ih
  refine ⟨fun z => ?_, fun z => ⟨by omega, rng_small (by omega) (by omega), ih _ _ ⟨by omega, by omega, f.trans ⟨fun _ _ => ⟨rfl, rfl⟩, fun _ _ => ⟨rfl, rfl⟩, fun _ _ => rfl, fun c c1 hc => ?_⟩, fun j j0 j1 => ?_⟩ (by omega)⟩⟩
  · intro L hl
    have env0 : EnvC s n m E0 := fun j j0 j1 => Or.inl ⟨rfl, hs j j0 (by omega)⟩
    have := mtC_all hl hX s [] [] a b (d :: y) E0 he (by simpa using hL.ab f) (h.ab f) env0 (fun g' s' q e1 f1 => hl _ _ _ ⟨fun _ => k1 g' q s' e1 (f.trans f1), fun z => ?_⟩) (fun q s' f1 => k0 q s' (f.trans f1))
    · exact this
    · have hh := ((hL.ab f).ab f1).2.2.1
      rw [hh, List.length_map] at z
      simp at z
  · show (bif Nat.beq c 3 then _ else (bif Nat.beq c 2 then _ else s.2.2.2 c)) = s.2.2.2 c
    rw [beqF (fun q => hc (Or.inr q)), beqF (fun q => hc (Or.inl q))]; rfl
  · show uF (s.2.2.2 2) n (uZ (s.2.2.2 2 n) i (-1)) n j = -1
    rw [uF_eq]
    by_cases q : j = i
    · exact if_pos q
    · exact (if_neg q).trans (hs j j0 (by omega))
end MD
