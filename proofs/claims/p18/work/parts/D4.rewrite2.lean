-- ===== Rule.rewrite
section RX
variable {σ : Sg} {n m x2 : Int} {l X R pre e t : List Int} {g : Env}
theorem EnvC.one {σ' : Sg} (h : EnvC σ n m g) (f : Fq No (one x2) No σ σ') (hm : ¬ one x2 m) : EnvC σ' n m g :=
  h.fr (f.2.1 m hm).2 (f.2.1 m hm).1 (by rw [f.2.2.2 2 (by decide) (fun z => z)]) (by rw [f.2.2.2 3 (by decide) (fun z => z)])
/-- the right side written behind what is there -/
theorem right_k {K : Int → Sg → Prop} {L : Int → Sg → Prop} {r13 : Int} (hL : ∀ i s, wp5_U_rewrite_55 K n m x2 r13 L i s → L i s) (hR : ∀ c ∈ R, lfU c ∨ opC c) (hm2 : ¬ one x2 m) (hr2 : ¬ one x2 (12 + 2 * n)) (hcap : 480 ≤ capI x2) : ∀ (B A : List Int) (σ : Sg) (o : List Int), R = A ++ B → RowL σ (12 + 2 * n) (R.map cv) → RowL σ m l → EnvC σ n m g → (∀ c ∈ R, 30 ≤ c → c ≤ 32 → g (c - 30) ≠ []) → RowL σ x2 o → o.length + (inst B g).length ≤ 480 → (∀ σ', RowL σ' x2 (o ++ inst B g) → RowL σ' m l → Fq No (one x2) No σ σ' → L R.length σ') → L A.length σ := by
  intro B
  induction B with
  | nil =>
    intro A σ o eR hr hm hg hb ho room k
    have : A = R := by rw [eR, List.append_nil]
    rw [this]
    refine k σ ?_ hm Fq.refl
    rw [show inst [] g = [] from rfl, List.append_nil]; exact ho
  | cons d B ih =>
    intro A σ o eR hr hm hg hb ho room k
    have hd : d ∈ R := by rw [eR]; simp
    have bd := hr.bd
    have hlen := hr.2.2.1
    rw [List.length_map] at bd hlen
    have lR : R.length = A.length + (B.length + 1) := by rw [eR, List.length_append, List.length_cons]
    have hr' : RowL σ (12 + 2 * n) (A.map cv ++ (cv d :: B.map cv)) := by rw [eR] at hr; simpa using hr
    have ec : inst (d :: B) g = (if 30 ≤ d ∧ d ≤ 32 then g (d - 30) else [d]) ++ inst B g := inst_cons
    rw [ec, List.length_append] at room
    rw [ec] at k
    have next : ∀ s', RowL s' x2 (o ++ (if 30 ≤ d ∧ d ≤ 32 then g (d - 30) else [d])) → Fq No (one x2) No σ s' → rng ((A.length : Int) + 1) ∧ L ((A.length : Int) + 1) s' := fun s' ho' f => by
      have hm' : RowL s' m l := hm.fr f hm2
      have := ih (A ++ [d]) s' (o ++ (if 30 ≤ d ∧ d ≤ 32 then g (d - 30) else [d])) (by rw [eR]; simp) (hr.fr f hr2) hm' (hg.one f hm2) hb ho' (by rw [List.length_append]; omega) (fun s'' a1 a2 a3 => k s'' (by rw [← List.append_assoc]; exact a1) a2 (f.trans a3))
      rw [show (((A ++ [d]).length : Nat) : Int) = (A.length : Int) + 1 by simp only [List.length_append, List.length_cons, List.length_nil]; omega] at this
      exact ⟨rng_small (by omega) (by omega), this⟩
    refine hL _ _ ⟨fun z => absurd z (by omega), fun _ => cell_mid hr' (by rw [List.length_map]) (letterOf_k (fun q => ⟨fun _ => ?_, fun q2 => absurd q2 (by omega)⟩) (fun q => ⟨fun q2 => absurd rfl q2, fun _ => ?_⟩))⟩
    · have hl : 30 ≤ d ∧ d ≤ 32 := by
        by_cases hl : 30 ≤ d ∧ d ≤ 32
        · exact hl
        · rw [cv_no hl] at q
          have := hR d hd
          unfold lfU opC at this; omega
      rw [if_pos hl] at room next
      rw [cv_let hl, show d - 10 - 20 = d - 30 by omega]
      rcases hg (d - 30) (by omega) (by omega) with q0 | ⟨_, q1, q2, q3, q4⟩
      · exact absurd q0.1 (hb d hd hl.1 hl.2)
      have hml := hm.2.2.1
      obtain ⟨a, b, ea, es⟩ := part_at hm.2.1 q2 q1 (by omega)
      exact ⟨by omega, addPart_k ho (by rw [← ea]; exact hm) es (by rw [q3, es]) (by omega) (fun s' a1 a2 => next s' a1 a2)⟩
    · have hl : ¬ (30 ≤ d ∧ d ≤ 32) := fun hl => by rw [cv_let hl] at q; omega
      rw [if_neg hl] at room next
      rw [cv_no hl] at hr'
      simp only [List.length_cons, List.length_nil] at room
      exact cell_mid hr' (by rw [List.length_map]) (add_k ho (by omega) (fun s' a1 a2 => next s' a1 a2))
theorem rewrite_k {K : Int → Sg → Prop} (hn : 0 ≤ n ∧ n < 12) (hX : Ex lfU X) (hR : Ex lfU R) (hLR : ∀ c ∈ R, 30 ≤ c → c ≤ 32 → c ∈ X) (hrX : RowL σ (11 + 2 * n) (X.map cv)) (hrR : RowL σ (12 + 2 * n) (R.map cv)) (h : RowL σ m (pre ++ (e ++ t))) (he : Ex lfR e) (hl : Sq (pre ++ (e ++ t))) (hcs : cs (pre ++ (e ++ t)) ≤ 40) (hcp : cp (pre ++ (e ++ t)) ≤ 300) (hx2 : 0 ≤ x2 ∧ x2 < 35) (hm2 : ¬ one x2 m) (hr2 : ¬ one x2 (12 + 2 * n)) (hcap : 480 ≤ capI x2)
    (hlen : ∀ g, EnvOK g → (inst R g).length + cp (pre ++ (e ++ t)) ≤ 300 + e.length → pre.length + (inst R g).length + t.length ≤ 480)
    (k1 : ∀ g', mL X E0 e = some g' → (inst R g').length + cp (pre ++ (e ++ t)) ≤ 300 + e.length → ∀ σ', RowL σ' x2 (pre ++ (inst R g' ++ t)) → RowL σ' m (pre ++ (e ++ t)) → Fq No (one x2) ab σ σ' → K 1 σ')
    (k2 : ∀ g', mL X E0 e = some g' → ¬ (inst R g').length + cp (pre ++ (e ++ t)) ≤ 300 + e.length → ∀ σ', Fq No (one x2) ab σ σ' → K 0 σ')
    (k0 : mL X E0 e = none → ∀ σ', Fq No (one x2) ab σ σ' → K 0 σ') : wp5_U_rewrite σ n m pre.length x2 K := by
  have up : ∀ {σ σ' : Sg}, Fq No No ab σ σ' → Fq No (one x2) ab σ σ' := fun f => f.mono (fun _ h => h) (fun _ h => h.elim) (fun _ h => h)
  have up2 : ∀ {σ σ' : Sg}, Fq No (one x2) No σ σ' → Fq No (one x2) ab σ σ' := fun f => f.mono (fun _ h => h) (fun _ h => h) (fun _ h => h.elim)
  have hRl : ∀ c ∈ R, lfU c ∨ opC c := hR.all
  refine matches_k hX hrX h he (fun g' q σ1 hg1 f1 => ⟨fun _ => ?_, fun z => absurd z (by decide)⟩) (fun q σ1 f1 => ⟨fun z => absurd rfl z, fun _ => k0 q σ1 (up f1)⟩)
  have e0 : EnvOK E0 := fun _ => Or.inl rfl
  obtain ⟨ok, _, bnds⟩ := mL_env hX E0 e g' he e0 q
  have hb : ∀ c ∈ R, 30 ≤ c → c ≤ 32 → g' (c - 30) ≠ [] := fun c hc h0 h1 => bnds c (hLR c hc h0 h1) h0 h1
  have hm1 := h.ab f1
  have hr1 := hrR.ab f1
  have bm := hm1.bd
  simp only [List.length_append] at bm
  refine expressionEnd_k hm1 he rfl (W_expressions_k hm1 (lengthOfRight_k hRl hr1 hn hg1 hm1 hb ?_))
  have hsmall : (inst R g').length ≤ 90000 := by
    have tot0 : ∀ A : List Int, (∀ c ∈ A, c ∈ R) → (inst A g').length ≤ 1000 * A.length := by
      intro A
      induction A with
      | nil => intro _; exact Nat.zero_le _
      | cons c A ih =>
        intro ee
        have := ih (fun d hd => ee d (List.mem_cons_of_mem _ hd))
        have hc := ee c List.mem_cons_self
        rw [inst_cons, List.length_append, List.length_cons]
        have h1 : (if 30 ≤ c ∧ c ≤ 32 then g' (c - 30) else [c]).length ≤ 1000 := by
          split
          · rename_i q
            rcases hg1 (c - 30) (by omega) (by omega) with z | ⟨_, z1, z2, z3, z4⟩
            · rw [z.1]; exact Nat.zero_le _
            · have := hm1.2.2.1
              simp only [List.length_append] at this
              omega
          · simp
        omega
    have := tot0 R (fun c hc => hc)
    have h4 := hr1.2.2.2
    have : capI (12 + 2 * n) ≤ 40 := by unfold capI; rw [if_neg (by omega), if_neg (by omega)]; exact Int.le_refl _
    rw [List.length_map] at h4
    omega
  refine ⟨rng_small (by omega) (by omega), fun z => ?_, fun z => k2 g' q (by omega) σ1 (up f1)⟩
  have hle : (inst R g').length + cp (pre ++ (e ++ t)) ≤ 300 + e.length := by omega
  have fits := hlen g' ok hle
  -- an empty row
  have f2 : Fq No (one x2) No σ1 (pY σ1 0 x2 0) := by
    refine ⟨fun _ _ => ⟨rfl, rfl⟩, fun k hk => ⟨?_, rfl⟩, fun c c1 => ?_, fun _ _ _ => rfl⟩
    · show uZ (σ1.2.2.1 0) x2 0 k = σ1.2.2.1 0 k
      exact if_neg (fun z => hk z)
    · show (bif Nat.beq c 0 then _ else σ1.2.2.1 c) = σ1.2.2.1 c
      rw [beqF (by omega)]; rfl
  have o2 : RowL (pY σ1 0 x2 0) x2 [] := ⟨hx2, trivial, by show uZ (σ1.2.2.1 0) x2 0 x2 = _; exact if_pos rfl, by show (0 : Int) ≤ _; omega⟩
  have m2 := hm1.fr f2 hm2
  refine addPart_k (a := []) (e := pre) (b := e ++ t) o2 (by simpa using m2) rfl (by simp) (by simp only [List.length_nil]; omega) (fun σ3 o3 f3 => ?_)
  have m3 := m2.fr f3 hm2
  rw [List.nil_append] at o3
  intro L hL
  refine right_k (R := R) (l := pre ++ (e ++ t)) (g := g') hL hRl hm2 hr2 hcap R [] σ3 pre rfl ((hr1.fr f2 hr2).fr f3 hr2) m3 ((hg1.one f2 hm2).one f3 hm2) hb o3 (by omega) (fun σ4 o4 m4 f4 => ?_)
  have hr4 := ((hr1.fr f2 hr2).fr f3 hr2).fr f4 hr2
  have hl4 := hr4.2.2.1
  rw [List.length_map] at hl4
  have hm4 := m4.2.2.1
  refine hL _ _ ⟨fun _ => ?_, fun z => absurd z (by omega)⟩
  refine addPart_k (a := pre ++ e) (e := t) (b := []) o4 (by simpa using m4) (by rw [List.length_append]; omega) (by rw [hm4]; simp only [List.length_append]; omega) (by rw [List.length_append]; omega) (fun σ5 o5 f5 => ?_)
  exact k1 g' q hle σ5 (by simpa using o5) (m4.fr f5 hm2) ((((up f1).trans (up2 f2)).trans (up2 f3)).trans ((up2 f4).trans (up2 f5)))
end RX
