-- ===== blame, on both sides
section F1
variable {σ : Sg} {l l' : List Int} {n m : Int}
theorem isLike_k {K : Int → Prop} (h : RowL σ n l) (h' : RowL σ m l') (k1 : l = l' → K 1) (k0 : l ≠ l' → K 0) : wp5_W_isLike σ n m K := by
  have e1 := h.2.2.1
  have e2 := h'.2.2.1
  have c1 := h.2.2.2
  have c2 := h'.2.2.2
  have b1 := h.bd
  refine ⟨fun z => ?_, fun z => k0 (fun e => z (by rw [e1, e2, e]))⟩
  refine wl1_rule (fun (k : Int) => ∃ A B C : List Int, l = A ++ B ∧ l' = A ++ C ∧ k = A.length) (fun k => (1000 - k).toNat) ?_ ⟨[], l, l', rfl, rfl, rfl⟩
  rintro P k ⟨A, B, C, eA, eB, ek⟩ ih
  have la : l.length = A.length + B.length := by rw [eA, List.length_append]
  have lb : l'.length = A.length + C.length := by rw [eB, List.length_append]
  refine ⟨fun q => k1 ?_, fun q => ⟨⟨by omega, by omega⟩, ⟨by omega, by omega⟩, ?_⟩⟩
  · have hB : B = [] := List.length_eq_zero_iff.mp (by omega)
    have hC : C = [] := List.length_eq_zero_iff.mp (by omega)
    rw [eA, eB, hB, hC]
  · cases B with
    | nil => simp only [List.length_nil] at la; exfalso; omega
    | cons x B =>
      cases C with
      | nil => simp only [List.length_nil, List.length_cons] at la lb; exfalso; omega
      | cons y C =>
        simp only [List.length_cons] at la lb
        have va : σ.2.2.2 0 n k = x := by
          have := h.2.1
          rw [eA] at this
          rw [ek]; exact At_mid this
        have vb : σ.2.2.2 0 m k = y := by
          have := h'.2.1
          rw [eB] at this
          rw [ek]; exact At_mid this
        rw [va, vb]
        refine ⟨fun q3 => ⟨rng_small (by omega) (by omega), ih _ ⟨A ++ [x], B, C, by rw [eA]; simp, by rw [eB, q3]; simp, by simp only [List.length_append, List.length_cons, List.length_nil]; omega⟩ (by omega)⟩, fun q3 => k0 (fun e => q3 ?_)⟩
        rw [eA, eB] at e
        exact (List.cons.inj (List.append_cancel_left e)).1
theorem madeWrong_k {K : Int → Sg → Prop} (h : RowL σ n l) (h' : RowL σ 9 l') (s1 : Sq l) (s2 : Sq l') (c1 : cs l ≤ 40) (c2 : cs l' ≤ 40) (p1 : cp l ≤ 300) (p2 : cp l' ≤ 300) (k1 : fstP (gP l l') 256 ≠ -1 → ∀ σ', Fq cj No No σ σ' → σ'.1 32 0 = fstP (gP l l') 256 → K 1 σ') (k0 : fstP (gP l l') 256 = -1 → ∀ σ', Fq cj No No σ σ' → K 0 σ') : wp5_P_madeWrong σ n K := by
  refine isLike_k h h' (fun e => u1 (k0 (by rw [← e]; exact fst_self 256) σ Fq.refl)) (fun _ => u0 ?_)
  refine compare_k h h' s1 s2 c1 c2 p1 p2 (fun r σ' f o1 o2 _ => ?_)
  rcases o1 with ⟨rfl, q⟩ | ⟨rfl, q⟩
  · exact ⟨fun _ => k0 q σ' f, fun z => absurd rfl z⟩
  · exact ⟨fun z => absurd z (by decide), fun _ => k1 q σ' f o2⟩
end F1
/-- which PASS is to blame, and the first inputs -/
def blX (LX RX PV : Int → List Int) : Nat → Int → List Int → Int × Int → Prop
  | 0, _, _, o => o = (-1, -1)
  | n + 1, k, l, o => (mkR LX RX (PV k) l none ∧ o = (k, -1)) ∨ ∃ l', mkR LX RX (PV k) l (some l') ∧ ((fstP (gP l l') 256 ≠ -1 ∧ o = (k, fstP (gP l l') 256)) ∨ (fstP (gP l l') 256 = -1 ∧ blX LX RX PV n (k + 1) l' o))
theorem blX.uq {LX RX PV : Int → List Int} : ∀ {n : Nat} {k : Int} {l : List Int} {o o' : Int × Int}, blX LX RX PV n k l o → blX LX RX PV n k l o' → o = o'
  | 0, _, _, _, _, h, h' => h.trans h'.symm
  | n + 1, k, l, o, o', h, h' => by
    rcases h with ⟨h1, h2⟩ | ⟨l1, h1, h2⟩
    · rcases h' with ⟨_, g2⟩ | ⟨l2, g1, _⟩
      · rw [h2, g2]
      · cases h1.uq g1
    · rcases h' with ⟨g1, _⟩ | ⟨l2, g1, g2⟩
      · cases h1.uq g1
      · have e := Option.some.inj (h1.uq g1)
        subst e
        rcases h2 with ⟨a1, a2⟩ | ⟨a1, a2⟩
        · rcases g2 with ⟨_, b2⟩ | ⟨b1, _⟩
          · rw [a2, b2]
          · exact absurd b1 a1
        · rcases g2 with ⟨b1, _⟩ | ⟨_, b2⟩
          · exact absurd a1 b1
          · exact blX.uq a2 b2
/-- the items of a PASS as a list -/
def lsF (f : Int → Int) : Nat → Int → List Int
  | 0, _ => []
  | n + 1, p => f p :: lsF f n (p + 1)
theorem lsF_at {f : Int → Int} : ∀ (n : Nat) (p : Int), (lsF f n p).length = n ∧ At f p (lsF f n p)
  | 0, _ => ⟨rfl, trivial⟩
  | n + 1, p => ⟨by show (lsF f n (p + 1)).length + 1 = n + 1; rw [(lsF_at n (p + 1)).1], rfl, (lsF_at n (p + 1)).2⟩
def pvF (σ : Sg) (k : Int) : List Int := lsF (σ.2.2.2 1 k) (σ.2.1 69 k).toNat 0
/-- all PASSES, as the code holds them -/
def Pvk (σ : Sg) (LX RX PV : Int → List Int) : Prop := ∀ k, 0 ≤ k → k ≤ 5 → At (σ.2.2.2 1 k) 0 (PV k) ∧ σ.2.1 69 k = (PV k).length ∧ (PV k).length ≤ 8 ∧ ∀ v ∈ PV k, (0 ≤ v ∧ v < 12 ∧ RuC σ v (LX v) (RX v)) ∨ (20 ≤ v ∧ v ≤ 24)
theorem Pvk.fr {σ σ' : Sg} {LX RX PV : Int → List Int} {Q : Nat → Prop} {R : Int → Prop} {C : Nat → Prop} (h : Pvk σ LX RX PV) (f : Fq Q R C σ σ') (h69 : ¬ Q 69) (hR : ∀ k, R k → k < 11) (hC : ¬ C 1) : Pvk σ' LX RX PV := by
  intro k k0 k5
  obtain ⟨h1, h2, h3, h4⟩ := h k k0 k5
  refine ⟨by rw [f.2.2.2 1 (Nat.le_refl _) hC]; exact h1, by rw [(f.1 69 h69).2]; exact h2, h3, fun v hv => ?_⟩
  rcases h4 v hv with ⟨v0, v1, a1, a2, a3, a4, a5⟩ | q
  · exact Or.inl ⟨v0, v1, a1, a2, a3, a4.fr f (fun z => by have := hR _ z; omega), a5.fr f (fun z => by have := hR _ z; omega)⟩
  · exact Or.inr q
theorem Pvk.of {σ : Sg} {items rule ruleRight ruleLong : Int → Int} {LX RX : Int → List Int} (hI : IW (σ.1 0 1) items (σ.2.1 69)) (hL : IL σ items) (hR : RuX σ rule ruleRight ruleLong LX RX) : Pvk σ LX RX (pvF σ) ∧ ∀ k, 0 ≤ k → k ≤ 5 → At items (8 * k) (pvF σ k) ∧ σ.2.1 69 k = (pvF σ k).length ∧ (pvF σ k).length ≤ 8 ∧ ∀ v ∈ pvF σ k, (0 ≤ v ∧ v < 12 ∧ RW rule ruleRight ruleLong v (LX v) (RX v)) ∨ (20 ≤ v ∧ v ≤ 24) := by
  have key : ∀ k, 0 ≤ k → k ≤ 5 → ∃ V : List Int, V = pvF σ k ∧ (At (σ.2.2.2 1 k) 0 V ∧ At items (8 * k) V ∧ σ.2.1 69 k = V.length ∧ V.length ≤ 8 ∧ ∀ v ∈ V, (0 ≤ v ∧ v < 12 ∧ RW rule ruleRight ruleLong v (LX v) (RX v) ∧ RuC σ v (LX v) (RX v)) ∨ (20 ≤ v ∧ v ≤ 24)) := by
    intro k k0 k5
    obtain ⟨V, w⟩ := items_get hI hL hR k0 k5
    refine ⟨V, ?_, w⟩
    have e := lsF_at (f := σ.2.2.2 1 k) (σ.2.1 69 k).toNat 0
    exact At_uniq w.1 e.2 (by have := e.1; have := w.2.2.1; show V.length = (lsF (σ.2.2.2 1 k) (σ.2.1 69 k).toNat 0).length; omega)
  constructor
  · intro k k0 k5
    obtain ⟨V, rfl, w1, w2, w3, w4, w5⟩ := key k k0 k5
    exact ⟨w1, w3, w4, fun v hv => (w5 v hv).imp (fun q => ⟨q.1, q.2.1, q.2.2.2⟩) (fun q => q)⟩
  · intro k k0 k5
    obtain ⟨V, rfl, w1, w2, w3, w4, w5⟩ := key k k0 k5
    exact ⟨w2, w3, w4, fun v hv => (w5 v hv).imp (fun q => ⟨q.1, q.2.1, q.2.2.1⟩) (fun q => q)⟩
def q31 (a : Nat) : Prop := a = 31 ∨ cj a ∨ fl 71 a
def w6 (k : Int) : Prop := k = 6 ∨ k = 9 ∨ k = 10
theorem fq31 {σ : Sg} {j : Nat} {v : Int} : Fq q31 w6 ab σ (pU σ 31 j v) :=
  ⟨fun a z => ⟨funext (fun b => by rw [pU_get, if_neg (fun e => z (Or.inl e.1))]), rfl⟩, fun _ _ => ⟨rfl, rfl⟩, fun _ _ => rfl, fun _ _ _ => rfl⟩
section F1b
variable {σ : Sg} {slot slotLong rule ruleRight ruleLong items : Int → Int} {LX RX : Int → List Int} {x0 x1 : Int}
theorem findBad_k {K : Sg → Prop} {m : Int} {l : List Int} {PV : Int → List Int} (h : RowL σ m l) (hm : 0 ≤ m ∧ m ≤ 5) (hl : Sq l) (hcs : cs l ≤ 40) (hcp : cp l ≤ 300) (hP : Pvk σ LX RX PV) (k : ∀ σ', blX LX RX PV 6 0 l (σ'.1 31 3, σ'.1 31 4) → Fq q31 w6 ab σ σ' → K σ') : wp5_P_findBad σ m K := by
  have lb := hl.len
  have up6 : ∀ {σ σ' : Sg}, Fq No (one 6) No σ σ' → Fq q31 w6 ab σ σ' := fun f => f.mono (fun _ h => h.elim) (fun _ h => Or.inl h) (fun _ h => h.elim)
  have upm : ∀ {σ σ' : Sg}, Fq (fl 71) mk9 ab σ σ' → Fq q31 w6 ab σ σ' := fun f => f.mono (fun _ h => Or.inr (Or.inr h)) (fun _ h => Or.inr h) (fun _ h => h)
  have upj : ∀ {σ σ' : Sg}, Fq cj No No σ σ' → Fq q31 w6 ab σ σ' := fun f => f.mono (fun _ h => Or.inr (Or.inl h)) (fun _ h => h.elim) (fun _ h => h.elim)
  refine copy_k (n := 6) (m := m) (by omega) (h.of22 rfl) (by omega) (by have : capI 6 = 480 := rfl; omega) (fun σ1 r1 f1 => ?_)
  have e3 : σ1.1 31 3 = -1 := by rw [(f1.1 31 (fun z => z)).1, pU_get, if_neg (by omega), pU_get, if_pos ⟨rfl, rfl⟩]
  have e4 : σ1.1 31 4 = -1 := by rw [(f1.1 31 (fun z => z)).1, pU_get, if_pos ⟨rfl, rfl⟩]
  refine wl2_rule (fun (i : Int) (s : Sg) => ∃ n : Nat, i = 6 - (n : Int) ∧ n ≤ 6 ∧ Fq q31 w6 ab σ s ∧ ((s.1 31 3 = -1 ∧ s.1 31 4 = -1 ∧ ∃ l1, RowL s 6 l1 ∧ Sq l1 ∧ cs l1 ≤ 40 ∧ cp l1 ≤ 300 ∧ ∀ o, blX LX RX PV n i l1 o → blX LX RX PV 6 0 l o) ∨ (s.1 31 3 ≠ -1 ∧ blX LX RX PV 6 0 l (s.1 31 3, s.1 31 4)))) (fun (i : Int) _ => (6 - i).toNat) ?_ ⟨6, by omega, Nat.le_refl _, (fq31.trans fq31).trans (up6 f1), Or.inl ⟨e3, e4, l, r1, hl, hcs, hcp, fun o q => q⟩⟩
  rintro P i s ⟨n, rfl, hn, f, inv⟩ ih
  have hPs : Pvk s LX RX PV := hP.fr f (by unfold q31 cj fl; omega) (fun k z => by unfold w6 at z; omega) (fun z => by unfold ab at z; omega)
  have nn : n ≠ 0 → (6 : Int) - (n : Int) + 1 = 6 - ((n - 1 : Nat) : Int) := fun z => by omega
  refine ⟨fun z => ?_, fun z => ⟨fun z3 => ?_, fun z3 => ?_⟩⟩
  · have n0 : n = 0 := by omega
    rcases inv with ⟨a1, a2, l1, _, _, _, _, ho⟩ | ⟨_, a2⟩
    · refine k s ?_ f
      rw [a1, a2]
      rw [n0] at ho
      exact ho _ rfl
    · exact k s a2 f
  · rcases inv with ⟨a1, _⟩ | ⟨_, a2⟩
    · exact absurd a1 z3
    · exact k s a2 f
  · rcases inv with ⟨a1, a2, l1, g1, g2, g3, g4, ho⟩ | ⟨a1, _⟩
    · obtain ⟨v1, v2, v3, v4⟩ := hPs (6 - (n : Int)) (by omega) (by omega)
      obtain ⟨n', rfl⟩ : ∃ n', n = n' + 1 := ⟨n - 1, by omega⟩
      have ei : (6 : Int) - ((n' + 1 : Nat) : Int) + 1 = 6 - (n' : Int) := by omega
      refine makeOf_k (LX := LX) (RX := RX) ⟨by omega, by omega⟩ g1 (by decide) g2 g3 g4 v1 v2 v3 v4 (fun l' hmk s1 s2 s3 σ2 r2 f2 => ⟨fun _ => ?_, fun q => absurd q (by decide)⟩) (fun hmk σ2 f2 => ⟨fun q => absurd rfl q, fun _ => ⟨rng_small (by omega) (by omega), ?_⟩⟩)
      · have g1' : RowL σ2 6 l1 := g1.fr f2 (fun q => by unfold mk9 at q; omega)
        have b3 : σ2.1 31 3 = -1 := by rw [(f2.1 31 (fun q => by unfold fl at q; omega)).1]; exact a1
        have b4 : σ2.1 31 4 = -1 := by rw [(f2.1 31 (fun q => by unfold fl at q; omega)).1]; exact a2
        refine madeWrong_k g1' r2 g2 s1 g3 s2 g4 s3 (fun hw σ3 f3 e32 => ⟨fun q => absurd q (by decide), fun _ => ⟨rng_small (by omega) (by omega), ?_⟩⟩) (fun hw σ3 f3 => ⟨fun _ => ?_, fun q => absurd rfl q⟩)
        · rw [ei]
          refine ih _ _ ⟨n', rfl, by omega, ((f.trans (upm f2)).trans (upj f3)).trans (fq31.trans fq31), Or.inr ⟨?_, ?_⟩⟩ (by omega)
          · rw [pU_get, if_neg (by omega), pU_get, if_pos ⟨rfl, rfl⟩]; omega
          · rw [pU_get, if_neg (by omega), pU_get, if_pos ⟨rfl, rfl⟩, pU_get, if_pos ⟨rfl, rfl⟩, e32]
            exact ho _ (Or.inr ⟨l', hmk, Or.inl ⟨hw, rfl⟩⟩)
        · have r9 : RowL σ3 9 l' := r2.fr f3 (fun q => q)
          have lb' := s1.len
          refine copy_k (n := 6) (m := 9) (by omega) r9 (by decide) (by have : capI 6 = 480 := rfl; omega) (fun σ4 r4 f4 => ⟨rng_small (by omega) (by omega), ?_⟩)
          rw [ei]
          refine ih _ _ ⟨n', rfl, by omega, ((f.trans (upm f2)).trans (upj f3)).trans (up6 f4), Or.inl ⟨?_, ?_, l', r4, s1, s2, s3, fun o q => ho o (Or.inr ⟨l', hmk, Or.inr ⟨hw, by rw [ei]; exact q⟩⟩)⟩⟩ (by omega)
          · rw [(f4.1 31 (fun q => q)).1, (f3.1 31 (fun q => by unfold cj at q; omega)).1]; exact b3
          · rw [(f4.1 31 (fun q => q)).1, (f3.1 31 (fun q => by unfold cj at q; omega)).1]; exact b4
      · rw [ei]
        have b4 : σ2.1 31 4 = -1 := by rw [(f2.1 31 (fun q => by unfold fl at q; omega)).1]; exact a2
        refine ih _ _ ⟨n', rfl, by omega, (f.trans (upm f2)).trans fq31, Or.inr ⟨?_, ?_⟩⟩ (by omega)
        · rw [pU_get, if_pos ⟨rfl, rfl⟩]; omega
        · rw [pU_get, if_pos ⟨rfl, rfl⟩, pU_get, if_neg (by omega), b4]
          exact ho _ (Or.inl ⟨hmk, rfl⟩)
    · exact absurd z3 a1
/-- what blame answers -/
def blO (σ : Sg) (LX RX PV : Int → List Int) (x0 x1 r : Int) : Prop := (¬ ((0 ≤ x0 ∧ x0 ≤ 5) ∧ (0 ≤ x1 ∧ x1 ≤ 1)) ∧ r = -1) ∨ (((0 ≤ x0 ∧ x0 ≤ 5) ∧ (0 ≤ x1 ∧ x1 ≤ 1)) ∧ ∃ l o, RowL σ x0 l ∧ blX LX RX PV 6 0 l o ∧ r = if x1 = 0 then o.1 else o.2)
theorem blO.uq {PV : Int → List Int} {r r' : Int} (h : blO σ LX RX PV x0 x1 r) (h' : blO σ LX RX PV x0 x1 r') : r = r' := by
  rcases h with ⟨a1, a2⟩ | ⟨a1, l, o, a2, a3, a4⟩
  · rcases h' with ⟨b1, b2⟩ | ⟨b1, _⟩
    · rw [a2, b2]
    · exact absurd b1 a1
  · rcases h' with ⟨b1, b2⟩ | ⟨b1, l', o', b2, b3, b4⟩
    · exact absurd a1 b1
    · have e1 := a2.uq b2
      subst e1
      rw [a4, b4, a3.uq b3]
theorem blame_k (hS : SL σ slot slotLong) {PV : Int → List Int} (hP : Pvk σ LX RX PV) {K : Int → Sg → Prop} (k : ∀ r, blO σ LX RX PV x0 x1 r → ∀ σ', Fq q31 w6 ab σ σ' → K r σ') : wp5_S_blame σ x0 x1 K := by
  refine slotAt_k (fun v0 => ⟨fun z => absurd z (by omega), fun _ => ⟨⟨by omega, by omega⟩, fun z => k _ (Or.inl ⟨fun q => by have := q.2.1; omega, rfl⟩) σ Fq.refl, fun z => ⟨fun z2 => ?_, fun z2 => k _ (Or.inl ⟨fun q => by have := q.2.2; omega, rfl⟩) σ Fq.refl⟩⟩⟩) (fun v0 => ⟨fun _ => k _ (Or.inl ⟨fun q => v0 q.1, rfl⟩) σ Fq.refl, fun z => absurd z (by decide)⟩)
  obtain ⟨l, h1, h2, h3, h4, h5, h6, h7⟩ := hS.get v0.1 v0.2
  refine findBad_k h2 v0 h1 h5 h6 hP (fun σ' hb f => ⟨fun q => k _ (Or.inr ⟨⟨v0, z, z2⟩, l, _, h2, hb, ?_⟩) σ' f, fun q => k _ (Or.inr ⟨⟨v0, z, z2⟩, l, _, h2, hb, ?_⟩) σ' f⟩)
  · rw [if_neg q] <;> rfl
  · rw [if_pos q] <;> rfl
theorem blame_x (hS : SL σ slot slotLong) {itemMany : Int → Int} {PV : Int → List Int} (hV : ∀ k, 0 ≤ k → k ≤ 5 → At items (8 * k) (PV k) ∧ itemMany k = (PV k).length ∧ (PV k).length ≤ 8 ∧ ∀ v ∈ PV k, (0 ≤ v ∧ v < 12 ∧ RW rule ruleRight ruleLong v (LX v) (RX v)) ∨ (20 ≤ v ∧ v ≤ 24)) {row fresh holds outs keptEnd keptMany keptOut bound isOut : Int → Int} {many made steps ending outMany cursor firstParting firstPlace partings anyTired patternAt someOut : Int} {K : Int → (Int → Int) → (Int → Int) → Int → Int → (Int → Int) → (Int → Int) → Int → Int → Int → Int → (Int → Int) → (Int → Int) → (Int → Int) → Int → Int → Int → Int → (Int → Int) → Int → (Int → Int) → Int → Prop} (k : ∀ r, blO σ LX RX PV x0 x1 r → ∀ a1 a2 a3 a4 a5 a6 a7 a8 a9 a10 a11 a12 a13 a14 a15 a16 a17 a18 a19 a20 a21, K r a1 a2 a3 a4 a5 a6 a7 a8 a9 a10 a11 a12 a13 a14 a15 a16 a17 a18 a19 a20 a21) : wp_blame slot slotLong row fresh many made rule ruleRight ruleLong holds outs steps ending outMany cursor keptEnd keptMany keptOut firstParting firstPlace partings anyTired bound patternAt isOut someOut items itemMany x0 x1 K := by
  refine isSlot_c (fun s0 s5 => t1 (isIn_c (fun a0 a1 => u1 ?_) (fun z => u0 (k _ (Or.inl ⟨fun q => z q.2, rfl⟩) _ _ _ _ _ _ _ _ _ _ _ _ _ _ _ _ _ _ _ _ _)))) (fun z => t0 (k _ (Or.inl ⟨fun q => z q.1, rfl⟩) _ _ _ _ _ _ _ _ _ _ _ _ _ _ _ _ _ _ _ _ _))
  obtain ⟨l, h1, h2, h3, h4, h5, h6, h7⟩ := hS.get s0 s5
  have ok : ∀ o : Int × Int, blX LX RX PV 6 0 l o → ∀ r, r = (if x1 = 0 then o.1 else o.2) → ∀ a1 a2 a3 a4 a5 a6 a7 a8 a9 a10 a11 a12 a13 a14 a15 a16 a17 a18 a19 a20 a21, K r a1 a2 a3 a4 a5 a6 a7 a8 a9 a10 a11 a12 a13 a14 a15 a16 a17 a18 a19 a20 a21 := fun o ho r er => k r (Or.inr ⟨⟨⟨s0, s5⟩, a0, a1⟩, l, o, h2, ho, er⟩)
  refine takes_get s0 s5 h1 h3 h4 h5 h6 (fun r w => ?_)
  refine wl22_rule (fun (i : Int) (row : Int → Int) _ (many : Int) _ _ _ _ _ _ _ _ _ _ _ _ _ _ _ _ _ _ => ∃ n : Nat, i = 6 - (n : Int) ∧ n ≤ 6 ∧ ∃ l1, WF row many l1 ∧ ∀ o, blX LX RX PV n i l1 o → blX LX RX PV 6 0 l o) (fun (i : Int) _ _ _ _ _ _ _ _ _ _ _ _ _ _ _ _ _ _ _ _ _ => (6 - i).toNat) ?_ ⟨6, by omega, Nat.le_refl _, l, w, fun o q => q⟩
  rintro P i row fresh many made holds outs steps ending outMany cursor keptEnd keptMany keptOut firstParting firstPlace partings anyTired bound patternAt isOut someOut ⟨n, rfl, hn, l1, hw, ho⟩ ih
  refine ⟨fun z => ?_, fun z => ?_⟩
  · have n0 : n = 0 := by omega
    rw [n0] at ho
    refine ok (-1, -1) (ho _ rfl) _ ?_ _ _ _ _ _ _ _ _ _ _ _ _ _ _ _ _ _ _ _ _ _
    by_cases q : x1 = 0
    · rw [if_pos q] <;> rfl
    · rw [if_neg q] <;> rfl
  · obtain ⟨n', rfl⟩ : ∃ n', n = n' + 1 := ⟨n - 1, by omega⟩
    have ei : (6 : Int) - ((n' + 1 : Nat) : Int) + 1 = 6 - (n' : Int) := by omega
    obtain ⟨v1, v2, v3, v4⟩ := hV (6 - ((n' + 1 : Nat) : Int)) (by omega) (by omega)
    refine ⟨⟨by omega, by omega⟩, fun zi => keeps_x hw (fun h' o' s' e' m' c' x' y' z' k4 => makes_x (LX := LX) (RX := RX) (by omega) (by omega) v1 v2 v3 v4 hw (fun l' hmk a b c d e g i j w' => ⟨fun _ => compares_x w' k4 (fun h2 o2 s2 e2 m2 c2 a' b' d' t' q1 q2 q3 q4 => ⟨fun z1 => ⟨⟨by omega, by omega⟩, ?_⟩, fun z1 => ⟨fun zx => ?_, fun zx => ?_⟩⟩), fun q => absurd q (by decide)⟩) (fun hmk a b c d e g i j => ⟨fun q => absurd rfl q, fun _ => ⟨fun zx => ?_, fun zx => ?_⟩⟩)), fun zi => ⟨⟨by omega, by omega⟩, ?_⟩⟩
    · rw [ei]
      exact ih _ _ _ _ _ _ _ _ _ _ _ _ _ _ _ _ _ _ _ _ _ _ ⟨n', rfl, by omega, l', w', fun o q => ho o (Or.inr ⟨l', hmk, Or.inr ⟨q1.symm.trans z1, by rw [ei]; exact q⟩⟩)⟩ (by omega)
    · refine ok _ (ho _ (Or.inr ⟨l', hmk, Or.inl ⟨fun q => z1 (q1.trans q), rfl⟩⟩)) _ ?_ _ _ _ _ _ _ _ _ _ _ _ _ _ _ _ _ _ _ _ _ _
      rw [if_neg zx]
      generalize fstP (gP l1 l') 256 = ww at q1 ⊢
      exact q1
    · refine ok _ (ho _ (Or.inr ⟨l', hmk, Or.inl ⟨fun q => z1 (q1.trans q), rfl⟩⟩)) _ ?_ _ _ _ _ _ _ _ _ _ _ _ _ _ _ _ _ _ _ _ _ _
      rw [if_pos zx] <;> rfl
    · refine ok _ (ho _ (Or.inl ⟨hmk, rfl⟩)) _ ?_ _ _ _ _ _ _ _ _ _ _ _ _ _ _ _ _ _ _ _ _ _
      rw [if_neg zx] <;> rfl
    · refine ok _ (ho _ (Or.inl ⟨hmk, rfl⟩)) _ ?_ _ _ _ _ _ _ _ _ _ _ _ _ _ _ _ _ _ _ _ _ _
      rw [if_pos zx] <;> rfl
    · have hnil : PV (6 - ((n' + 1 : Nat) : Int)) = [] := List.length_eq_zero_iff.mp (by omega)
      rw [ei]
      refine ih _ _ _ _ _ _ _ _ _ _ _ _ _ _ _ _ _ _ _ _ _ _ ⟨n', rfl, by omega, l1, hw, fun o q => ho o (Or.inr ⟨l1, ?_, Or.inr ⟨fst_self 256, by rw [ei]; exact q⟩⟩)⟩ (by omega)
      rw [hnil]
      rfl
end F1b
