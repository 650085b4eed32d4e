-- ===== Flow.number: every statement's place, kind, ends, reads, sets; every place's owner
theorem pF_get {σ : Sg} {q a : Nat} {g : Int → Int} : (pF σ q g).2.1 a = if a = q then g else σ.2.1 a := by
  show (bif Nat.beq a q then g else σ.2.1 a) = _
  by_cases h : a = q
  · subst h; rw [Nat.beq_refl, if_pos rfl]; rfl
  · rw [beqF h, if_neg h]; rfl
theorem pU_get {σ : Sg} {q j a b : Nat} {v : Int} : (pU σ q j v).1 a b = if a = q ∧ b = j then v else σ.1 a b := by
  show (bif (Nat.beq a q && Nat.beq b j) then v else σ.1 a b) = _
  by_cases h : a = q
  · subst h
    by_cases h2 : b = j
    · subst h2; rw [Nat.beq_refl, Nat.beq_refl, if_pos ⟨rfl, rfl⟩]; rfl
    · rw [Nat.beq_refl, beqF h2, if_neg (fun z => h2 z.2)]; rfl
  · rw [beqF h, if_neg (fun z => h z.1)]; rfl
theorem pF_1 {σ : Sg} {q : Nat} {g : Int → Int} : (pF σ q g).1 = σ.1 := rfl
theorem pF_22 {σ : Sg} {q : Nat} {g : Int → Int} : (pF σ q g).2.2 = σ.2.2 := rfl
theorem pU_2 {σ : Sg} {q j : Nat} {v : Int} : (pU σ q j v).2 = σ.2 := rfl
/-- the cells of a flow -/
def fl (qi a : Nat) : Prop := qi ≤ a ∧ a ≤ qi + 12
theorem fqF {σ : Sg} {qi k : Nat} {g : Int → Int} (hk : k ≤ 12) : Fq (fl qi) No No σ (pF σ (qi + k) g) :=
  ⟨fun a z => ⟨rfl, by rw [pF_get, if_neg (fun e => z ⟨by omega, by omega⟩)]⟩, fun _ _ => ⟨rfl, rfl⟩, fun _ _ => rfl, fun _ _ _ => rfl⟩
theorem fqU {σ : Sg} {qi j : Nat} {v : Int} : Fq (fl qi) No No σ (pU σ qi j v) :=
  ⟨fun a z => ⟨funext (fun b => by rw [pU_get, if_neg (fun e => z ⟨by omega, by omega⟩)]), rfl⟩, fun _ _ => ⟨rfl, rfl⟩, fun _ _ => rfl, fun _ _ _ => rfl⟩
theorem RowL.fl {σ σ' : Sg} {n : Int} {l : List Int} {qi : Nat} (h : RowL σ n l) (f : Fq (fl qi) No No σ σ') : RowL σ' n l := h.fr f (fun z => z)
def rd1 (c : Int) : Int := if 20 ≤ c ∧ c ≤ 25 then zishl 1 (c - 20) else 0
def rdL (r : Int) (e : List Int) : Int := e.foldl (fun r c => zior r (rd1 c)) r
theorem rdL_b {e : List Int} : ∀ {r : Int} {x : List Int}, RdB r x → RdB (rdL r e) (x ++ e) := by
  induction e with
  | nil => intro r x h; rw [List.append_nil]; exact h
  | cons c e ih =>
    intro r x h
    have : x ++ c :: e = (x ++ [c]) ++ e := by simp
    rw [this]
    refine ih (r := zior r (rd1 c)) ?_
    unfold rd1
    by_cases hc : 20 ≤ c ∧ c ≤ 25
    · rw [if_pos hc]; exact h.snoc hc
    · rw [if_neg hc]; exact h.skip hc
def stC (v : Int) : Int := if 100 ≤ v ∧ v ≤ 105 then zishl 1 (v - 100) else 0
abbrev N6 : Type := Int × Int × Int × Int × Int × Int
/-- place, kind, from, to, reads, sets of every statement, in their order -/
noncomputable def nmL (l : List Int) : Int → List N6 := SqF (X := Int → List N6) (fun _ => []) (fun v e _ y p => (p, v, p + 1, p + 1 + e.length, rdL 0 e, stC v) :: y (p + 1 + e.length)) (fun _ y p => (p, 111, p + 1, p + 1, 0, 0) :: y (p + 1))
  (fun _ a b B C _ yB yC y p => ((p, 112, p + 2, p + 2 + a.length + b.length, rdL 0 (a ++ b), 0) :: (yB (p + 2 + a.length + b.length) ++ yC (p + 2 + a.length + b.length + B.length + 1))) ++ y (p + 2 + a.length + b.length + B.length + 1 + C.length + 1))
  (fun _ a b B _ yB y p => ((p, 115, p + 2, p + 2 + a.length + b.length, rdL 0 (a ++ b), 0) :: yB (p + 2 + a.length + b.length)) ++ y (p + 2 + a.length + b.length + B.length + 1)) l
def ng (k : Nat) : List Int := List.replicate k (-1)
/-- whose every place is -/
noncomputable def owL (l : List Int) : Int → List Int := SqF (X := Int → List Int) (fun _ => []) (fun _ e _ y i => i :: (ng e.length ++ y (i + 1))) (fun _ y i => i :: y (i + 1))
  (fun _ a b B C _ yB yC y i => (i :: -1 :: (ng (a.length + b.length) ++ (yB (i + 1) ++ (i :: (yC (i + 1 + cs B) ++ [i]))))) ++ y (i + 1 + cs B + cs C))
  (fun _ a b B _ yB y i => (i :: -1 :: (ng (a.length + b.length) ++ (yB (i + 1) ++ [i]))) ++ y (i + 1 + cs B)) l
section NL
variable {p i : Int}
theorem nmL_nil : nmL [] p = [] := congrFun (SqF_nil (X := Int → List N6)) p
theorem nmL_set {v : Int} {e r : List Int} (hv : setC v ∨ v = 110) (he : Ex lfR e) (hr : Sq r) : nmL ((v :: e) ++ r) p = (p, v, p + 1, p + 1 + e.length, rdL 0 e, stC v) :: nmL r (p + 1 + e.length) := congrFun (SqF_set (X := Int → List N6) hv he hr) p
theorem nmL_fail {r : List Int} (hr : Sq r) : nmL ([111] ++ r) p = (p, 111, p + 1, p + 1, 0, 0) :: nmL r (p + 1) := congrFun (SqF_fail (X := Int → List N6) hr) p
theorem nmL_if {t : Int} {a b B C r : List Int} (ht : testC t) (ha : Ex lfR a) (hb : Ex lfR b) (hB : Sq B) (hC : Sq C) (hr : Sq r) : nmL ((112 :: t :: (a ++ (b ++ (B ++ (113 :: (C ++ [114])))))) ++ r) p = ((p, 112, p + 2, p + 2 + a.length + b.length, rdL 0 (a ++ b), 0) :: (nmL B (p + 2 + a.length + b.length) ++ nmL C (p + 2 + a.length + b.length + B.length + 1))) ++ nmL r (p + 2 + a.length + b.length + B.length + 1 + C.length + 1) := congrFun (SqF_if (X := Int → List N6) ht ha hb hB hC hr) p
theorem nmL_wh {t : Int} {a b B r : List Int} (ht : testC t) (ha : Ex lfR a) (hb : Ex lfR b) (hB : Sq B) (hr : Sq r) : nmL ((115 :: t :: (a ++ (b ++ (B ++ [114])))) ++ r) p = ((p, 115, p + 2, p + 2 + a.length + b.length, rdL 0 (a ++ b), 0) :: nmL B (p + 2 + a.length + b.length)) ++ nmL r (p + 2 + a.length + b.length + B.length + 1) := congrFun (SqF_wh (X := Int → List N6) ht ha hb hB hr) p
theorem owL_nil : owL [] i = [] := congrFun (SqF_nil (X := Int → List Int)) i
theorem owL_set {v : Int} {e r : List Int} (hv : setC v ∨ v = 110) (he : Ex lfR e) (hr : Sq r) : owL ((v :: e) ++ r) i = i :: (ng e.length ++ owL r (i + 1)) := congrFun (SqF_set (X := Int → List Int) hv he hr) i
theorem owL_fail {r : List Int} (hr : Sq r) : owL ([111] ++ r) i = i :: owL r (i + 1) := congrFun (SqF_fail (X := Int → List Int) hr) i
theorem owL_if {t : Int} {a b B C r : List Int} (ht : testC t) (ha : Ex lfR a) (hb : Ex lfR b) (hB : Sq B) (hC : Sq C) (hr : Sq r) : owL ((112 :: t :: (a ++ (b ++ (B ++ (113 :: (C ++ [114])))))) ++ r) i = (i :: -1 :: (ng (a.length + b.length) ++ (owL B (i + 1) ++ (i :: (owL C (i + 1 + cs B) ++ [i]))))) ++ owL r (i + 1 + cs B + cs C) := congrFun (SqF_if (X := Int → List Int) ht ha hb hB hC hr) i
theorem owL_wh {t : Int} {a b B r : List Int} (ht : testC t) (ha : Ex lfR a) (hb : Ex lfR b) (hB : Sq B) (hr : Sq r) : owL ((115 :: t :: (a ++ (b ++ (B ++ [114])))) ++ r) i = (i :: -1 :: (ng (a.length + b.length) ++ (owL B (i + 1) ++ [i]))) ++ owL r (i + 1 + cs B) := congrFun (SqF_wh (X := Int → List Int) ht ha hb hB hr) i
theorem ng_len {k : Nat} : (ng k).length = k := List.length_replicate ..
theorem nmL_len : ∀ {l : List Int}, Sq l → ∀ p, (nmL l p).length = cs l := by
  intro l hl
  refine Sq.ind (P := fun l => ∀ p, (nmL l p).length = cs l) ?_ ?_ hl
  · intro p; rw [nmL_nil]; rfl
  · intro s r hs hr ih p
    rcases hs with ⟨v, e, hv, he, rfl⟩ | rfl | ⟨t, a, b, B, C, ht, hA, hB, hb, hc, rfl⟩ | ⟨t, a, b, B, ht, hA, hB, hb, rfl⟩
    · rw [nmL_set hv he hr, List.length_cons, ih, cs_app, cs_yes (by unfold setC at hv; omega), he.csz]; omega
    · rw [nmL_fail hr, List.length_cons, ih, cs_app, cs_yes (by omega)]; show _ = 0 + 1 + _; omega
    · rw [nmL_if ht hA hB hb.1 hc.1 hr, List.length_append, List.length_cons, List.length_append, ih, hb.2, hc.2, cs_app, cs_if ht hA hB]
    · rw [nmL_wh ht hA hB hb.1 hr, List.length_append, List.length_cons, ih, hb.2, cs_app, cs_wh ht hA hB]
theorem owL_len : ∀ {l : List Int}, Sq l → ∀ i, (owL l i).length = l.length := by
  intro l hl
  refine Sq.ind (P := fun l => ∀ i, (owL l i).length = l.length) ?_ ?_ hl
  · intro p; rw [owL_nil]
  · intro s r hs hr ih p
    rcases hs with ⟨v, e, hv, he, rfl⟩ | rfl | ⟨t, a, b, B, C, ht, hA, hB, hb, hc, rfl⟩ | ⟨t, a, b, B, ht, hA, hB, hb, rfl⟩
    · rw [owL_set hv he hr]; simp only [List.length_cons, List.length_append, ng_len, ih]; omega
    · rw [owL_fail hr]; simp only [List.length_cons, List.length_append, List.length_nil, ih]; omega
    · rw [owL_if ht hA hB hb.1 hc.1 hr]; simp only [List.length_cons, List.length_append, List.length_nil, ng_len, ih, hb.2, hc.2]; omega
    · rw [owL_wh ht hA hB hb.1 hr]; simp only [List.length_cons, List.length_append, List.length_nil, ng_len, ih, hb.2]; omega
end NL
section NB
variable {σ : Sg} {qi : Nat} {K : Sg → Prop} {L : Int → Int → Sg → Prop} {d p i c : Int} {a b e : List Int}
theorem isHere_k {x : Int} {K : Int → Prop} (h1 : 0 ≤ x ∧ x < σ.1 qi 1 ∧ x < 40 → K 1) (h0 : ¬ (0 ≤ x ∧ x < σ.1 qi 1 ∧ x < 40) → K 0) : wp5_F_isHere σ qi x K :=
  ⟨fun z => h0 (by omega), fun z => ⟨fun z2 => h0 (by omega), fun z2 => ⟨fun z3 => h0 (by omega), fun z3 => h1 ⟨z, z2, z3⟩⟩⟩⟩
/-- what an expression's cells do -/
def ExS (qi : Nat) (i p : Int) (e : List Int) (σ σ' : Sg) : Prop :=
  σ'.1 = σ.1 ∧ (∀ k, 1 ≤ k → k ≤ 11 → k ≠ 4 → k ≠ 7 → σ'.2.1 (qi + k) = σ.2.1 (qi + k)) ∧ (∀ k j, j ≠ i → (k = 4 ∨ k = 7) → σ'.2.1 (qi + k) j = σ.2.1 (qi + k) j) ∧ σ'.2.1 (qi + 4) i = (if e = [] then σ.2.1 (qi + 4) i else p + e.length) ∧ σ'.2.1 (qi + 7) i = rdL (σ.2.1 (qi + 7) i) e ∧ At (σ'.2.1 (qi + 12)) p (ng e.length) ∧ (∀ j, j < p ∨ p + e.length ≤ j → σ'.2.1 (qi + 12) j = σ.2.1 (qi + 12) j) ∧ Fq (fl qi) No No σ σ'
theorem tk_exp (hL : ∀ d p s, wp5_F_number_9 K qi L d p s → L d p s) (h : RowL σ (σ.1 qi 0) (a ++ c :: b)) (hb : (a ++ c :: b).length ≤ 480) (hp : p = a.length) (hc : isP c = true) (hi : σ.1 qi 1 = i + 1) (i0 : 0 ≤ i ∧ i < 40) (k : ∀ σ', ExS qi i p [c] σ σ' → L d (p + 1) σ') : L d p σ := by
  have hcP := isP_t.mp hc
  have hr := h.1
  have hn := h.2.2.1
  simp only [List.length_append, List.length_cons] at hb hn
  have hl : ∀ σ', ExS qi i p [c] σ σ' → rng (p + 1) ∧ L d (p + 1) σ' := fun σ' q => ⟨rng_small (by omega) (by omega), k σ' q⟩
  have e1 : σ.1 qi 1 - 1 = i := by omega
  refine hL _ _ _ ⟨hr, fun z => absurd z (by omega), fun _ => ⟨fun z => absurd z (by omega), fun _ => cell_mid h hp ⟨⟨by omega, by omega⟩, isStatement_k (fun z => absurd (isS_t.mp z) (by omega)) (fun _ => t0 ?_)⟩⟩⟩
  refine ⟨fun _ => ⟨fun _ => isExpression_k (fun _ => t1 ?_) (fun z => by rw [hc] at z; cases z), fun z => absurd z (by omega)⟩, fun z => absurd z (by omega)⟩
  rw [e1]
  refine ⟨rng_small (by omega) (by omega), isHere_k (fun _ => t1 ⟨rng_small (by omega) (by omega), i0, ?_⟩) (fun z => absurd ⟨i0.1, by show i < σ.1 qi 1; omega, i0.2⟩ z)⟩
  have key : ∀ σ', σ' = pF (pF (pF σ (qi + 12) (uZ (σ.2.1 (qi + 12)) p (-1))) (qi + 4) (uZ (σ.2.1 (qi + 4)) i (p + 1))) (qi + 7) (uZ (σ.2.1 (qi + 7)) i (zior (σ.2.1 (qi + 7) i) (rd1 c))) → ExS qi i p [c] σ σ' := by
    rintro σ' rfl
    refine ⟨rfl, fun k k1 k2 k4 k7 => ?_, fun k j hj hk => ?_, ?_, ?_, ⟨?_, trivial⟩, fun j hj => ?_, ((fqF (k := 12) (by decide)).trans (fqF (k := 4) (by decide))).trans (fqF (k := 7) (by decide))⟩
    · rw [pF_get, if_neg (by omega), pF_get, if_neg (by omega), pF_get, if_neg (by omega)]
    · rcases hk with rfl | rfl
      · rw [pF_get, if_neg (by omega), pF_get, if_pos rfl]; exact if_neg hj
      · rw [pF_get, if_pos rfl]; exact if_neg hj
    · rw [pF_get, if_neg (by omega), pF_get, if_pos rfl, if_neg (List.cons_ne_nil _ _)]; exact if_pos rfl
    · rw [pF_get, if_pos rfl]; exact if_pos rfl
    · rw [pF_get, if_neg (by omega), pF_get, if_neg (by omega), pF_get, if_pos rfl]; exact if_pos rfl
    · rw [pF_get, if_neg (by omega), pF_get, if_neg (by omega), pF_get, if_pos rfl]
      exact if_neg (by simp only [List.length_cons, List.length_nil] at hj; omega)
  refine isRead_k (fun z => t1 (k _ (key _ ?_))) (fun z => t0 (k _ (key _ ?_)))
  · unfold rd1; rw [if_pos z]
  · unfold rd1; rw [if_neg z]
theorem rdL_cons {r : Int} {c : Int} {e : List Int} : rdL r (c :: e) = rdL (zior r (rd1 c)) e := rfl
theorem tk_exps (hL : ∀ d p s, wp5_F_number_9 K qi L d p s → L d p s) (i0 : 0 ≤ i ∧ i < 40) : ∀ (e : List Int) {σ : Sg} {a : List Int} {p : Int}, (∀ c ∈ e, isP c = true) → RowL σ (σ.1 qi 0) (a ++ (e ++ b)) → (a ++ (e ++ b)).length ≤ 480 → p = a.length → σ.1 qi 1 = i + 1 → (∀ σ', ExS qi i p e σ σ' → L d (p + e.length) σ') → L d p σ
  | [], σ, a, p, _, h, hb, hp, hi, k => by
    have := k σ ⟨rfl, fun _ _ _ _ _ => rfl, fun _ _ _ _ => rfl, by rw [if_pos rfl], rfl, trivial, fun _ _ => rfl, Fq.refl⟩
    simpa using this
  | c :: e, σ, a, p, hc, h, hb, hp, hi, k => by
    refine tk_exp (a := a) (b := e ++ b) hL h hb hp (hc c List.mem_cons_self) hi i0 (fun σ1 s1 => ?_)
    obtain ⟨q1, q2, q3, q4, q5, q6, q7, q8⟩ := s1
    have hh : RowL σ1 (σ1.1 qi 0) ((a ++ [c]) ++ (e ++ b)) := by rw [q1]; simpa using h.fl q8
    refine tk_exps hL i0 e (a := a ++ [c]) (fun d hd => hc d (List.mem_cons_of_mem _ hd)) hh (by simpa using hb) (by simp only [List.length_append, List.length_cons, List.length_nil]; omega) (by rw [q1]; exact hi) (fun σ2 s2 => ?_)
    obtain ⟨w1, w2, w3, w4, w5, w6, w7, w8⟩ := s2
    rw [show p + 1 + (e.length : Int) = p + ((c :: e).length : Nat) by simp only [List.length_cons]; omega]
    refine k σ2 ⟨w1.trans q1, fun x x1 x2 x3 x4 => (w2 x x1 x2 x3 x4).trans (q2 x x1 x2 x3 x4), fun x j hj hx => (w3 x j hj hx).trans (q3 x j hj hx), ?_, ?_, ?_, fun j hj => ?_, q8.trans w8⟩
    · rw [w4, q4, if_neg (List.cons_ne_nil _ _), if_neg (List.cons_ne_nil _ _)]
      cases e with
      | nil => rw [if_pos rfl]
      | cons _ _ => rw [if_neg (List.cons_ne_nil _ _)]; simp only [List.length_cons]; omega
    · rw [w5, q5]; rfl
    · refine ⟨?_, w6⟩
      rw [w7 p (Or.inl (by omega))]
      exact q6.1
    · simp only [List.length_cons] at hj
      rw [w7 j (by omega), q7 j (by simp only [List.length_cons, List.length_nil]; omega)]
end NB
