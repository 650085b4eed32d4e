-- ===== the judge, exactly
theorem Cof0 {l : List Int} (hl : Sq l) {w : Int} : Cof (CL l NoV) 0 w ↔ LV l NoV w := by
  have ha : AtC (Cof (CL l NoV)) 0 (CL l NoV) := Cof_at (L := CL l NoV) (CL l NoV) [] rfl
  rcases hl.cases with rfl | ⟨s, r, hs, hr, rfl⟩
  · rw [LV_nil]
    rw [CL_nil]
    exact ⟨fun q => by obtain ⟨_, g, e1, _⟩ := q; simp at e1, fun q => q.elim⟩
  · have key : ∀ (f : Int → Prop) (M : List (Int → Prop)), CL (s ++ r) NoV = f :: M → LV (s ++ r) NoV = f → (Cof (CL (s ++ r) NoV) 0 w ↔ LV (s ++ r) NoV w) := by
      intro f M e1 e2
      rw [e1] at ha ⊢
      rw [e2]
      exact ha.1 w
    rcases hs with ⟨v, e, hv, he, rfl⟩ | rfl | ⟨t, a, b, B, C, ht, hA, hB, hb, hc, rfl⟩ | ⟨t, a, b, B, ht, hA, hB, hb, rfl⟩
    · exact key _ _ (CL_set hv he hr) (LV_set hv he hr)
    · exact key _ _ (CL_fail hr) (LV_fail hr)
    · exact key _ _ (CL_if ht hA hB hb hc hr) (LV_if ht hA hB hb hc hr)
    · exact key _ _ (CL_wh ht hA hB hb hr) (LV_wh ht hA hB hb hr)
theorem b63_12 : ∀ a : Fin 64, (ziand a.val 1 = 0 ↔ ¬ (ziand (zishr a.val 0) 1 ≠ 0)) ∧ (ziand a.val 2 = 0 ↔ ¬ (ziand (zishr a.val 1) 1 ≠ 0)) := by decide +kernel
/-- the judge's cells and those of its machines -/
def cj (a : Nat) : Prop := 32 ≤ a ∧ a ≤ 66
theorem MF.fq {qi : Nat} {σ σ' : Sg} (h : MF qi σ σ') (hq : 32 ≤ qi ∧ qi + 3 ≤ 66) : Fq cj No No σ σ' :=
  ⟨fun a z => ⟨funext (fun b => h.1 a b (Or.inl (fun e => z (by unfold cj; omega)))), h.2.1 a (by unfold cj at z; omega)⟩, fun _ _ => by rw [h.2.2]; exact ⟨rfl, rfl⟩, fun _ _ => by rw [h.2.2], fun _ _ _ => by rw [h.2.2]⟩
theorem fq32 {σ : Sg} {j : Nat} {v : Int} : Fq cj No No σ (pU σ 32 j v) :=
  ⟨fun a z => ⟨funext (fun b => by rw [pU_get, if_neg (fun e => z ⟨by omega, by omega⟩)]), rfl⟩, fun _ _ => ⟨rfl, rfl⟩, fun _ _ => rfl, fun _ _ _ => rfl⟩
theorem flcj {qi : Nat} {σ σ' : Sg} (f : Fq (fl qi) No No σ σ') (hq : qi = 37 ∨ qi = 54) : Fq cj No No σ σ' := f.mono (fun a h => by unfold fl at h; unfold cj; omega) (fun _ h => h) (fun _ h => h)
theorem Trc.same {q : Nat} {n : Int} {l : List Int} {σ σ' : Sg} (h : Trc q n l σ) (e1 : ∀ j, j ≤ 1 → σ'.1 q j = σ.1 q j) (e : ∀ k, 1 ≤ k → k ≤ 9 → σ'.2.1 (q + k) = σ.2.1 (q + k)) : Trc q n l σ' := by
  unfold Trc at h ⊢
  rw [e1 0 (by omega), e1 1 (by omega), e 1 (by omega) (by omega), e 2 (by omega) (by omega), e 3 (by omega) (by omega), e 4 (by omega) (by omega), e 5 (by omega) (by omega), e 6 (by omega) (by omega), e 7 (by omega) (by omega), e 8 (by omega) (by omega), e 9 (by omega) (by omega)]
  exact h
theorem Rs.same {q : Nat} {f : RFn} {σ σ' : Sg} (h : Rs q σ f) (e1 : ∀ j, 2 ≤ j → j ≤ 4 → σ'.1 q j = σ.1 q j) (e : ∀ k, 1 ≤ k → k ≤ 2 → σ'.2.1 (q + k) = σ.2.1 (q + k)) : Rs q σ' f := by
  unfold Rs at h ⊢
  rw [e1 2 (by omega) (by omega), e1 3 (by omega) (by omega), e1 4 (by omega) (by omega), e 1 (by omega) (by omega), e 2 (by omega) (by omega)]
  exact h
/-- what the judge may write but its own ints -/
def J32 (σ σ' : Sg) : Prop := (∀ a, a ≠ 32 → σ'.1 a = σ.1 a) ∧ σ'.2 = σ.2
theorem J32.u {σ : Sg} {j : Nat} {v : Int} : J32 σ (pU σ 32 j v) := ⟨fun a z => funext (fun b => by rw [pU_get, if_neg (fun e => z e.1)]), rfl⟩
theorem J32.trans {σ σ1 σ2 : Sg} (h : J32 σ σ1) (g : J32 σ1 σ2) : J32 σ σ2 := ⟨fun a z => (g.1 a z).trans (h.1 a z), g.2.trans h.2⟩
theorem J32.fq {σ σ' : Sg} (h : J32 σ σ') : Fq cj No No σ σ' :=
  ⟨fun a z => ⟨h.1 a (fun e => z (by unfold cj; omega)), by rw [h.2]⟩, fun _ _ => by rw [h.2]; exact ⟨rfl, rfl⟩, fun _ _ => by rw [h.2], fun _ _ _ => by rw [h.2]⟩
section JD
variable {σ : Sg} {f g : RFn}
theorem output_k {qi : Nat} {j : Int} {K : Int → Prop} (hf : Rs qi σ f) (hj : 0 ≤ j ∧ j < f.2.2.1.length) (k : K (σ.2.1 (qi + 1) j)) : wp5_M_output σ qi j K := by
  obtain ⟨a1, a2, a3, a4, a5, a6, a7⟩ := hf
  exact ⟨fun z => absurd z (by omega), fun _ => ⟨fun z => absurd z (by omega), fun _ => ⟨fun z => absurd z (by omega), fun _ => ⟨⟨by omega, by omega⟩, k⟩⟩⟩⟩
theorem plD_k {K : Int → Prop} (hf : Rs 33 σ f) (hg : Rs 50 σ g) (k : K (plF f g)) : wp5_J_placeThatDiffers σ K := by
  have e1 := hf.2.2.1
  have e2 := hg.2.2.1
  have b1 := hf.2.2.2.2.2
  have b2 := hg.2.2.2.2.2
  refine wl1_rule (fun (j : Int) => ∃ A1 A2 B2 : List Int, f.2.2.1 = A1 ++ A2 ∧ g.2.2.1 = A1 ++ B2 ∧ j = A1.length ∧ plF f g = plc A2 B2 j) (fun j => (100 - j).toNat) ?_ ⟨[], f.2.2.1, g.2.2.1, rfl, rfl, rfl, rfl⟩
  rintro P j ⟨A1, A2, B2, eA, eB, hj, ep⟩ ih
  have la : f.2.2.1.length = A1.length + A2.length := by rw [eA, List.length_append]
  have lb : g.2.2.1.length = A1.length + B2.length := by rw [eB, List.length_append]
  refine ⟨fun z => ?_, fun z => ?_⟩
  · cases A2 with
    | nil => rw [ep, plc_nil] at k; exact k
    | cons x A2 =>
      cases B2 with
      | nil => rw [ep, plc_nilr] at k; exact k
      | cons y B2 => simp only [List.length_cons] at la lb; omega
  · cases A2 with
    | nil => simp only [List.length_nil] at la; omega
    | cons x A2 =>
      cases B2 with
      | nil => simp only [List.length_nil] at lb; omega
      | cons y B2 =>
        simp only [List.length_cons] at la lb
        have va : σ.2.1 34 j = x := by
          have := hf.2.1
          rw [eA] at this
          rw [hj]; exact At_mid this
        have vb : σ.2.1 51 j = y := by
          have := hg.2.1
          rw [eB] at this
          rw [hj]; exact At_mid this
        refine output_k hf (by omega) (output_k hg (by omega) ?_)
        show (σ.2.1 34 j = σ.2.1 51 j → _) ∧ (σ.2.1 34 j ≠ σ.2.1 51 j → _)
        rw [va, vb]
        rw [plc_cons] at ep
        refine ⟨fun q => ⟨rng_small (by omega) (by omega), ih _ ⟨A1 ++ [x], A2, B2, by rw [eA]; simp, by rw [eB, q]; simp, by simp only [List.length_append, List.length_cons, List.length_nil]; omega, by rw [ep, if_pos q]⟩ (by omega)⟩, fun q => ?_⟩
        rw [ep, if_neg q] at k
        exact k
/-- what noting one pair of runs does -/
def Nt (σ σ' : Sg) (x w : Int) (b : Bool) (pl : Int) (T : Bool) : Prop := J32 σ σ' ∧ σ'.1 32 3 = (if T = true then 1 else 0) ∧ (b = false → σ'.1 32 0 = σ.1 32 0 ∧ σ'.1 32 1 = σ.1 32 1 ∧ σ'.1 32 2 = σ.1 32 2) ∧ (b = true → σ'.1 32 2 = σ.1 32 2 + w ∧ (σ.1 32 2 = 0 → σ'.1 32 0 = x ∧ σ'.1 32 1 = pl) ∧ (σ.1 32 2 ≠ 0 → σ'.1 32 0 = σ.1 32 0 ∧ σ'.1 32 1 = σ.1 32 1))
theorem note_k {K : Sg → Prop} {x w : Int} {T : Bool} (hf : Rs 33 σ f) (hg : Rs 50 σ g) (hT : σ.1 32 3 = (if T = true then 1 else 0)) (hr : 0 ≤ σ.1 32 2 ∧ σ.1 32 2 ≤ 10000) (hw : 0 ≤ w ∧ w ≤ 1000) (k : ∀ σ', Nt σ σ' x w (prt f g) (plF f g) (T || trd f g) → K σ') : wp5_J_note σ x w K := by
  have e1 := hf.2.2.1
  have e2 := hg.2.2.1
  have n1 := hf.2.2.2.2.1
  have n2 := hg.2.2.2.2.1
  refine plD_k hf hg ?_
  have h110 : prt f g = true → ∀ s91, s91 = (if (T || trd f g) = true then (1 : Int) else 0) → wp5_J_note_110 K σ x w (plF f g) s91 := by
    intro hp s91 e91
    have hr2 : rng (σ.1 32 2 + w) := rng_small (by omega) (by omega)
    refine ⟨fun z => ⟨hr2, k _ ⟨J32.u.trans J32.u, ?_, fun q => (by rw [hp] at q; cases q), fun _ => ⟨?_, fun q => absurd q z, fun _ => ⟨?_, ?_⟩⟩⟩⟩, fun z => ⟨hr2, k _ ⟨((J32.u.trans J32.u).trans J32.u).trans J32.u, ?_, fun q => (by rw [hp] at q; cases q), fun _ => ⟨?_, fun _ => ⟨?_, ?_⟩, fun q => absurd z q⟩⟩⟩⟩
    · rw [pU_get, if_neg (by omega), pU_get, if_pos ⟨rfl, rfl⟩]; exact e91
    · rw [pU_get, if_pos ⟨rfl, rfl⟩]
    · rw [pU_get, if_neg (by omega), pU_get, if_neg (by omega)]
    · rw [pU_get, if_neg (by omega), pU_get, if_neg (by omega)]
    · rw [pU_get, if_neg (by omega), pU_get, if_neg (by omega), pU_get, if_neg (by omega), pU_get, if_pos ⟨rfl, rfl⟩]; exact e91
    · rw [pU_get, if_pos ⟨rfl, rfl⟩]
    · rw [pU_get, if_neg (by omega), pU_get, if_neg (by omega), pU_get, if_pos ⟨rfl, rfl⟩]
    · rw [pU_get, if_neg (by omega), pU_get, if_pos ⟨rfl, rfl⟩]
  have hoff : prt f g = false → ∀ s91, s91 = (if (T || trd f g) = true then (1 : Int) else 0) → K (pU σ 32 3 s91) := by
    intro hp s91 e91
    refine k _ ⟨J32.u, ?_, fun _ => ⟨?_, ?_, ?_⟩, fun q => (by rw [hp] at q; cases q)⟩
    · rw [pU_get, if_pos ⟨rfl, rfl⟩]; exact e91
    · rw [pU_get, if_neg (by omega)]
    · rw [pU_get, if_neg (by omega)]
    · rw [pU_get, if_neg (by omega)]
  have h91 : ∀ s30 s71 s91, (trd f g = true ↔ s30 ≠ 0) → (ulk f g = true ↔ s71 ≠ 0) → s91 = (if (T || trd f g) = true then (1 : Int) else 0) → wp5_J_note_91 K σ x w (plF f g) s30 s71 s91 := by
    intro s30 s71 s91 c1 c2 e91
    have hb : s91 = 0 ∨ s91 = 1 := by
      rw [e91]
      by_cases q : (T || trd f g) = true
      · rw [if_pos q]; exact Or.inr rfl
      · rw [if_neg q]; exact Or.inl rfl
    refine ⟨hb, fun z => h110 ?_ s91 e91, fun z => ⟨fun z2 => hoff ?_ s91 e91, fun z2 => ⟨fun z3 => h110 ?_ s91 e91, fun z3 => hoff ?_ s91 e91⟩⟩⟩
    · unfold prt
      rw [decide_eq_false z] <;> rfl
    · unfold prt
      rw [decide_eq_true z, c1.mpr z2] <;> rfl
    · have t0' : trd f g = false := Bool.eq_false_iff.mpr (fun q => (c1.mp q) z2)
      unfold prt
      rw [decide_eq_true z, t0', c2.mpr z3] <;> rfl
    · have t0' : trd f g = false := Bool.eq_false_iff.mpr (fun q => (c1.mp q) z2)
      have u0' : ulk f g = false := Bool.eq_false_iff.mpr (fun q => (c2.mp q) z3)
      unfold prt
      rw [decide_eq_true z, t0', u0'] <;> rfl
  have h71 : ∀ s30 s71, (trd f g = true ↔ s30 ≠ 0) → (ulk f g = true ↔ s71 ≠ 0) → wp5_J_note_71 K σ x w (plF f g) s30 s71 := by
    intro s30 s71 c1 c2
    refine ⟨fun z => h91 s30 s71 1 c1 c2 ?_, fun z => ⟨fun z2 => h91 s30 s71 0 c1 c2 ?_, fun z2 => h91 s30 s71 1 c1 c2 ?_⟩⟩
    · have : T = true := by
        by_cases q : T = true
        · exact q
        · rw [if_neg q] at hT; exact absurd hT z
      rw [this, Bool.true_or, if_pos rfl]
    · have q1 : T = false := by
        by_cases q : T = true
        · rw [if_pos q] at hT; rw [hT] at z; exact absurd z (by decide)
        · exact Bool.eq_false_iff.mpr q
      have t0' : trd f g = false := Bool.eq_false_iff.mpr (fun q => (c1.mp q) z2)
      rw [q1, t0'] <;> rfl
    · rw [c1.mpr z2, Bool.or_true, if_pos rfl]
  have h30 : ∀ s30, (trd f g = true ↔ s30 ≠ 0) → wp5_J_note_30 K σ x w (plF f g) s30 := by
    intro s30 c1
    unfold wp5_J_note_30
    rw [e1, e2, n1, n2]
    have cu : ∀ z : ¬ (f.2.2.1.length = g.2.2.1.length ∧ f.1 = g.1), (ulk f g = true ↔ (1 : Int) ≠ 0) := by
      intro z
      refine ⟨fun _ => by decide, fun _ => ?_⟩
      unfold ulk
      by_cases q : f.2.2.1.length = g.2.2.1.length
      · rw [decide_eq_false (fun q2 : f.1 = g.1 => z ⟨q, q2⟩), Bool.and_false] <;> rfl
      · rw [decide_eq_false q] <;> rfl
    refine ⟨fun z => h71 s30 1 c1 (cu (fun q => z (by rw [q.1]))), fun z => ⟨fun z2 => h71 s30 0 c1 ⟨fun q => ?_, fun q => absurd rfl q⟩, fun z2 => h71 s30 1 c1 (cu (fun q => z2 q.2))⟩⟩
    unfold ulk at q
    rw [decide_eq_true (show f.2.2.1.length = g.2.2.1.length by omega), decide_eq_true z2] at q
    exact absurd q (by decide)
  have td : trd f g = true ↔ (f.1 = 2 ∨ g.1 = 2) := by
    unfold trd
    rw [Bool.or_eq_true, decide_eq_true_iff, decide_eq_true_iff]
  have y30 : (f.1 = 2 ∨ g.1 = 2) → wp5_J_note_25 K σ x w (plF f g) := fun q => h30 1 ⟨fun _ => by decide, fun _ => td.mpr q⟩
  refine ⟨fun z => u0 ?_, fun z => u1 (y30 (Or.inl (n1.symm.trans z)))⟩
  refine ⟨fun z2 => t0 (h30 0 ⟨fun q => ?_, fun q => absurd rfl q⟩), fun z2 => t1 (y30 (Or.inr (n2.symm.trans z2)))⟩
  rcases td.mp q with q | q
  · exact absurd (n1.trans q) z
  · exact absurd (n2.trans q) z2
end JD
/-- both rows traced, and what stays as it was -/
def Jv (n1 n2 : Int) (l1 l2 : List Int) (σ0 σ : Sg) : Prop := Trc 37 n1 l1 σ ∧ Trc 54 n2 l2 σ ∧ RowL σ n1 l1 ∧ RowL σ n2 l2 ∧ Fq cj No No σ0 σ
section JV
variable {n1 n2 : Int} {l1 l2 : List Int} {σ0 σ σ' : Sg}
theorem Jv.mf (h : Jv n1 n2 l1 l2 σ0 σ) {qi : Nat} (hq : qi = 33 ∨ qi = 50) (f : MF qi σ σ') : Jv n1 n2 l1 l2 σ0 σ' := by
  obtain ⟨h1, h2, h3, h4, h5⟩ := h
  exact ⟨h1.same (fun j _ => f.1 37 j (by omega)) (fun k k1 k2 => f.2.1 (37 + k) (by omega)), h2.same (fun j _ => f.1 54 j (by omega)) (fun k k1 k2 => f.2.1 (54 + k) (by omega)), h3.of22 f.2.2, h4.of22 f.2.2, h5.trans (f.fq (by omega))⟩
theorem Jv.j32 (h : Jv n1 n2 l1 l2 σ0 σ) (f : J32 σ σ') : Jv n1 n2 l1 l2 σ0 σ' := by
  obtain ⟨h1, h2, h3, h4, h5⟩ := h
  have e : σ'.2.1 = σ.2.1 := by rw [f.2]
  have e2 : σ'.2.2 = σ.2.2 := by rw [f.2]
  exact ⟨h1.same (fun j _ => by rw [f.1 37 (by decide)]) (fun k k1 k2 => by rw [e]), h2.same (fun j _ => by rw [f.1 54 (by decide)]) (fun k k1 k2 => by rw [e]), h3.of22 e2, h4.of22 e2, h5.trans f.fq⟩
/-- what the judge has found up to an input -/
def Jd (l1 l2 : List Int) (c : Int) (N : Nat) (σ : Sg) : Prop := σ.1 32 0 = fstP (gP l1 l2) N ∧ σ.1 32 1 = fplP (gP l1 l2) (pP l1 l2) N ∧ σ.1 32 2 = c * cntP (gP l1 l2) N ∧ σ.1 32 3 = (if anyP (tP l1 l2) N = true then 1 else 0)
theorem Jd.of {c : Int} {N : Nat} (h : Jd l1 l2 c N σ) (e : σ'.1 32 = σ.1 32) : Jd l1 l2 c N σ' := by
  unfold Jd at h ⊢
  rw [e]; exact h
theorem mul01 {c : Int} {m : Nat} (hc : c = 1 ∨ c = 16) : (c * (m : Int) = 0 ↔ m = 0) ∧ 0 ≤ c * (m : Int) ∧ (m ≤ 256 → c * (m : Int) ≤ 4096) := by
  rcases hc with rfl | rfl
  · exact ⟨⟨fun z => by omega, fun z => by omega⟩, by omega, fun z => by omega⟩
  · exact ⟨⟨fun z => by omega, fun z => by omega⟩, by omega, fun z => by omega⟩
/-- one input, or sixteen that nothing tells apart -/
theorem judge_one {K : Sg → Prop} (s1 : Sq l1) (s2 : Sq l2) (c1 : cs l1 ≤ 40) (c2 : cs l2 ≤ 40) (p1 : cp l1 ≤ 300) (p2 : cp l2 ≤ 300) (hJ : Jv n1 n2 l1 l2 σ0 σ) {c : Int} (hc : c = 1 ∨ c = 16) {d : Nat} (hd : d = 1 ∨ d = 16) {a b N : Nat} (ha : a < 16) (hb : b < 16) (hN : N = 16 * a + b) (hD : Jd l1 l2 c N σ) (hsame : ∀ j, j < d → gP l1 l2 (N + j) = gP l1 l2 N ∧ tP l1 l2 (N + j) = tP l1 l2 N) (k : ∀ σ', Jv n1 n2 l1 l2 σ0 σ' → Jd l1 l2 c (N + d) σ' → K σ') : wp5_M_go σ 33 a b (fun σr125 => wp5_M_go σr125 50 a b (fun σr136 => rng ((16 * (a : Int)) + b) ∧ rng (c * (d : Int)) ∧ wp5_J_note σr136 ((16 * (a : Int)) + b) (c * (d : Int)) K)) := by
  have hcd : 0 ≤ c * (d : Int) ∧ c * (d : Int) ≤ 256 := by
    rcases hc with rfl | rfl <;> rcases hd with rfl | rfl <;> exact ⟨by decide, by decide⟩
  refine go_k hJ.1 hJ.2.2.1 s1 c1 p1 (fun σ1 f1 r1 => ?_)
  have hJ1 := hJ.mf (Or.inl rfl) f1
  have hD1 : Jd l1 l2 c N σ1 := hD.of (funext (fun j => f1.1 32 j (by omega)))
  refine go_k hJ1.2.1 hJ1.2.2.2.1 s2 c2 p2 (fun σ2 f2 r2 => ?_)
  have hJ2 := hJ1.mf (Or.inr rfl) f2
  have hD2 : Jd l1 l2 c N σ2 := hD1.of (funext (fun j => f2.1 32 j (by omega)))
  have r1' : Rs 33 σ2 (rnF l1 a b) := r1.same (fun j _ _ => f2.1 33 j (by omega)) (fun j _ _ => f2.2.1 (33 + j) (by omega))
  obtain ⟨g1, g2, g3⟩ := gP_at (l := l1) (m := l2) hN hb
  obtain ⟨d0, d1, d2, d3⟩ := hD2
  have mm := mul01 (m := cntP (gP l1 l2) N) hc
  have cl := cntP_le (g := gP l1 l2) N
  refine ⟨rng_small (by omega) (by omega), rng_small (by omega) (by omega), note_k (T := anyP (tP l1 l2) N) r1' r2 d3 (by rw [d2]; exact ⟨mm.2.1, by have := mm.2.2 (by omega); omega⟩) ⟨hcd.1, by omega⟩ (fun σ3 h3 => ?_)⟩
  obtain ⟨j3, t3, o3, y3⟩ := h3
  rw [← g1] at o3 y3
  rw [← g3] at y3
  rw [← g2] at t3
  obtain ⟨d', rfl⟩ : ∃ d', d = d' + 1 := ⟨d - 1, by omega⟩
  obtain ⟨b1, b2, b3, b4⟩ := blk (pl := pP l1 l2) d' hsame
  refine k σ3 (hJ2.j32 j3) ?_
  have e4 : σ3.1 32 3 = (if anyP (tP l1 l2) (N + (d' + 1)) = true then 1 else 0) := by rw [b4]; exact t3
  by_cases q : gP l1 l2 N = true
  · obtain ⟨y1, y2, y4⟩ := y3 q
    rw [if_pos q] at b1
    have e3 : σ3.1 32 2 = c * (cntP (gP l1 l2) (N + (d' + 1)) : Int) := by
      rw [y1, d2, b1]
      have : ((cntP (gP l1 l2) N + (d' + 1) : Nat) : Int) = (cntP (gP l1 l2) N : Int) + ((d' + 1 : Nat) : Int) := by omega
      rw [this, Int.mul_add]
    by_cases z : fstP (gP l1 l2) N = -1
    · have zc : σ2.1 32 2 = 0 := by rw [d2]; exact mm.1.mpr ((fst_cnt N).mp z)
      obtain ⟨w1, w2⟩ := y2 zc
      refine ⟨?_, ?_, e3, e4⟩
      · rw [b2, fstP_1 z q, w1, hN]; omega
      · rw [b3, fplP_1 z q]; exact w2
    · have zc : σ2.1 32 2 ≠ 0 := by rw [d2]; exact fun e => z ((fst_cnt N).mpr (mm.1.mp e))
      obtain ⟨w1, w2⟩ := y4 zc
      refine ⟨?_, ?_, e3, e4⟩
      · rw [b2, fstP_k z, w1]; exact d0
      · rw [b3, fplP_k z, w2]; exact d1
  · obtain ⟨w0, w1, w2⟩ := o3 (Bool.eq_false_iff.mpr q)
    rw [if_neg q, Nat.add_zero] at b1
    refine ⟨?_, ?_, ?_, e4⟩
    · rw [b2, w0, d0]
      by_cases z : fstP (gP l1 l2) N = -1
      · rw [fstP_0 z q, z]
      · rw [fstP_k z]
    · rw [b3, w1, d1]
      by_cases z : fstP (gP l1 l2) N = -1
      · rw [fplP_0 z q]; exact (fst_none N z).2
      · rw [fplP_k z]
    · rw [b1, w2, d2, Nat.add_zero]
end JV
