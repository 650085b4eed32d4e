-- ===== the class's rows as lists
def RowL (σ : Sg) (n : Int) (l : List Int) : Prop := (0 ≤ n ∧ n < 35) ∧ At (σ.2.2.2 0 n) 0 l ∧ σ.2.2.1 0 n = l.length ∧ (l.length : Int) ≤ capI n
/-- what may change: cells, rows, families of arrays -/
def Fq (Q : Nat → Prop) (R : Int → Prop) (C : Nat → Prop) (σ σ' : Sg) : Prop :=
  (∀ a, ¬ Q a → σ'.1 a = σ.1 a ∧ σ'.2.1 a = σ.2.1 a) ∧ (∀ k, ¬ R k → σ'.2.2.1 0 k = σ.2.2.1 0 k ∧ σ'.2.2.2 0 k = σ.2.2.2 0 k) ∧ (∀ c, 1 ≤ c → σ'.2.2.1 c = σ.2.2.1 c) ∧ ∀ c, 1 ≤ c → ¬ C c → σ'.2.2.2 c = σ.2.2.2 c
theorem Fq.refl {Q : Nat → Prop} {R : Int → Prop} {C : Nat → Prop} {σ : Sg} : Fq Q R C σ σ := ⟨fun _ _ => ⟨rfl, rfl⟩, fun _ _ => ⟨rfl, rfl⟩, fun _ _ => rfl, fun _ _ _ => rfl⟩
theorem Fq.trans {Q : Nat → Prop} {R : Int → Prop} {C : Nat → Prop} {σ σ' σ'' : Sg} (h : Fq Q R C σ σ') (h' : Fq Q R C σ' σ'') : Fq Q R C σ σ'' :=
  ⟨fun a z => ⟨(h'.1 a z).1.trans (h.1 a z).1, (h'.1 a z).2.trans (h.1 a z).2⟩, fun k z => ⟨(h'.2.1 k z).1.trans (h.2.1 k z).1, (h'.2.1 k z).2.trans (h.2.1 k z).2⟩, fun c z => (h'.2.2.1 c z).trans (h.2.2.1 c z), fun c z z2 => (h'.2.2.2 c z z2).trans (h.2.2.2 c z z2)⟩
theorem Fq.mono {Q Q' : Nat → Prop} {R R' : Int → Prop} {C C' : Nat → Prop} {σ σ' : Sg} (h : Fq Q R C σ σ') (hQ : ∀ a, Q a → Q' a) (hR : ∀ k, R k → R' k) (hC : ∀ c, C c → C' c) : Fq Q' R' C' σ σ' :=
  ⟨fun a z => h.1 a (fun q => z (hQ a q)), fun k z => h.2.1 k (fun q => z (hR k q)), h.2.2.1, fun c z z2 => h.2.2.2 c z (fun q => z2 (hC c q))⟩
def No {α : Type} (_ : α) : Prop := False
theorem RowL.fr {Q : Nat → Prop} {R : Int → Prop} {C : Nat → Prop} {σ σ' : Sg} {n : Int} {l : List Int} (h : RowL σ n l) (f : Fq Q R C σ σ') (hn : ¬ R n) : RowL σ' n l := by
  obtain ⟨h1, h2, h3, h4⟩ := h
  obtain ⟨e1, e2⟩ := f.2.1 n hn
  exact ⟨h1, by rw [e2]; exact h2, by rw [e1]; exact h3, h4⟩
theorem At_mid {f : Int → Int} {a b : List Int} {c : Int} (h : At f 0 (a ++ c :: b)) : f a.length = c := by
  have := (At_app.mp h).2.1
  rwa [show (0 : Int) + a.length = a.length by omega] at this
theorem RowL.mid {σ : Sg} {n : Int} {a b : List Int} {c : Int} (h : RowL σ n (a ++ c :: b)) : σ.2.2.2 0 n a.length = c := At_mid h.2.1
theorem len_mid {a b : List Int} {c : Int} : ((a ++ c :: b).length : Int) = a.length + 1 + b.length := by
  simp only [List.length_append, List.length_cons]; omega
theorem len_app {a b : List Int} : ((a ++ b).length : Int) = a.length + b.length := by
  simp only [List.length_append]; omega
theorem len_cons {c : Int} {b : List Int} : ((c :: b).length : Int) = 1 + b.length := by
  simp only [List.length_cons]; omega
/-- the operation's value -/
def opR (o x y : Int) : Int := if o = 120 then ziand (x + y) 15 else if o = 121 then ziand (x - y) 15 else ziand (x * y) 15
section A0
variable {σ : Sg} {n p : Int} {l a b : List Int} {c : Int} {K : Int → Prop} {K2 : Sg → Prop}
theorem cell_mid (h : RowL σ n (a ++ c :: b)) (hp : p = a.length) (k : K c) : wp5_W_cell σ n p K := by
  subst hp
  have e := h.mid
  obtain ⟨h1, h2, h3, h4⟩ := h
  rw [len_mid] at h3 h4
  unfold wp5_W_cell
  exact ⟨fun z => absurd z (by omega), fun _ => ⟨fun z => absurd z (by omega), fun _ => ⟨⟨by omega, by omega⟩, by rw [e]; exact k⟩⟩⟩
theorem cell_out (h : RowL σ n l) (hp : p < 0 ∨ l.length ≤ p) (k : K (-1)) : wp5_W_cell σ n p K := by
  obtain ⟨h1, h2, h3, h4⟩ := h
  unfold wp5_W_cell
  rcases hp with hp | hp
  · exact ⟨fun _ => k, fun z => absurd z (by omega)⟩
  · exact ⟨fun _ => k, fun _ => ⟨fun _ => k, fun z => absurd z (by omega)⟩⟩
theorem isStatement_k (h1 : isS c = true → K 1) (h0 : isS c = false → K 0) : wp5_W_isStatement c K := by
  have f : ¬ ((100 ≤ c ∧ c ≤ 105) ∨ c = 110 ∨ c = 111 ∨ c = 112 ∨ c = 115) → isS c = false := fun a => Bool.eq_false_iff.mpr (fun h => a (isS_t.mp h))
  have tail : (c < 100 ∨ 106 ≤ c) → wp5_W_isStatement_12 K c := fun z => ⟨fun e => h1 (isS_t.mpr (by omega)), fun n1 => ⟨fun e => h1 (isS_t.mpr (by omega)), fun n2 => ⟨fun e => h1 (isS_t.mpr (by omega)), fun n3 => ⟨fun n4 => h0 (f (by omega)), fun e => h1 (isS_t.mpr (by omega))⟩⟩⟩⟩
  exact ⟨fun z => tail (Or.inl z), fun z => ⟨fun z2 => h1 (isS_t.mpr (by omega)), fun z2 => tail (Or.inr z2)⟩⟩
theorem isExpression_k (h1 : isP c = true → K 1) (h0 : isP c = false → K 0) : wp5_W_isExpression c K := by
  have f : ¬ ((0 ≤ c ∧ c ≤ 15) ∨ (20 ≤ c ∧ c ≤ 25) ∨ (120 ≤ c ∧ c ≤ 122)) → isP c = false := fun a => Bool.eq_false_iff.mpr (fun h => a (isP_t.mp h))
  have t22 : ¬ (0 ≤ c ∧ c ≤ 15) → ¬ (20 ≤ c ∧ c ≤ 25) → wp5_W_isExpression_22 K c := fun z1 z2 => ⟨fun z => h0 (f (by omega)), fun z => ⟨fun z3 => h0 (f (by omega)), fun z3 => h1 (isP_t.mpr (by omega))⟩⟩
  have t10 : ¬ (0 ≤ c ∧ c ≤ 15) → wp5_W_isExpression_10 K c := fun z1 => ⟨fun z => t22 z1 (by omega), fun z => ⟨fun z2 => h1 (isP_t.mpr (by omega)), fun z2 => t22 z1 (by omega)⟩⟩
  exact ⟨fun z => t10 (by omega), fun z => ⟨fun z2 => h1 (isP_t.mpr (by omega)), fun z2 => t10 (by omega)⟩⟩
theorem isBranch_k (h1 : (c = 112 ∨ c = 115) → K 1) (h0 : c ≠ 112 → c ≠ 115 → K 0) : wp5_W_isBranch c K :=
  ⟨fun z => h1 (Or.inl z), fun z => ⟨fun z2 => h0 z z2, fun z2 => h1 (Or.inr z2)⟩⟩
theorem isSet_k (h1 : 100 ≤ c ∧ c ≤ 105 → K 1) (h0 : ¬ (100 ≤ c ∧ c ≤ 105) → K 0) : wp5_W_isSet c K :=
  ⟨fun z => h0 (by omega), fun z => ⟨fun z2 => h0 (by omega), fun z2 => h1 ⟨z, by omega⟩⟩⟩
theorem isRead_k (h1 : 20 ≤ c ∧ c ≤ 25 → K 1) (h0 : ¬ (20 ≤ c ∧ c ≤ 25) → K 0) : wp5_W_isRead c K :=
  ⟨fun z => h0 (by omega), fun z => ⟨fun z2 => h0 (by omega), fun z2 => h1 ⟨z, by omega⟩⟩⟩
theorem isNumber_k (h1 : 0 ≤ c ∧ c ≤ 15 → K 1) (h0 : ¬ (0 ≤ c ∧ c ≤ 15) → K 0) : wp5_W_isNumber c K :=
  ⟨fun z => h0 (by omega), fun z => ⟨fun z2 => h0 (by omega), fun z2 => h1 ⟨z, by omega⟩⟩⟩
theorem isOperation_k (h1 : opC c → K 1) (h0 : ¬ opC c → K 0) : wp5_W_isOperation c K := by
  unfold opC at h1 h0
  exact ⟨fun z => h0 (by omega), fun z => ⟨fun z2 => h0 (by omega), fun z2 => h1 ⟨z, z2⟩⟩⟩
theorem result_k {o x y : Int} (k : K (opR o x y)) : wp5_W_result o x y K := by
  unfold opR at k
  refine ⟨fun z => ⟨fun z2 => ?_, fun z2 => ?_⟩, fun z => ?_⟩
  · rwa [if_neg z, if_neg z2] at k
  · rwa [if_neg z, if_pos z2] at k
  · rwa [if_pos z] at k
theorem isWord_k (h1 : 0 ≤ c ∧ c ≤ 15 → K 1) (h0 : ¬ (0 ≤ c ∧ c ≤ 15) → K 0) : wp5_S_isWord c K :=
  ⟨fun z => h0 (by omega), fun z => ⟨fun z2 => h0 (by omega), fun z2 => h1 ⟨z, by omega⟩⟩⟩
theorem isVariable_k (h1 : 0 ≤ c ∧ c ≤ 5 → K 1) (h0 : ¬ (0 ≤ c ∧ c ≤ 5) → K 0) : wp5_S_isVariable c K :=
  ⟨fun z => h0 (by omega), fun z => ⟨fun z2 => h0 (by omega), fun z2 => h1 ⟨z, by omega⟩⟩⟩
theorem slotAt_k (h1 : 0 ≤ c ∧ c ≤ 5 → K c) (h0 : ¬ (0 ≤ c ∧ c ≤ 5) → K (-1)) : wp5_S_slotAt σ c K :=
  ⟨fun z => h0 (by omega), fun z => ⟨fun z2 => h0 (by omega), fun z2 => ⟨⟨z, z2⟩, h1 ⟨z, by omega⟩⟩⟩⟩
theorem W_statements_k (h : RowL σ n l) (k : K (cs l)) : wp5_W_statements σ n K := by
  obtain ⟨h1, h2, h3, h4⟩ := h
  have hc := capI_pos n
  refine wl2_rule (fun (m i : Int) => ∃ a b : List Int, l = a ++ b ∧ i = a.length ∧ m = cs a) (fun (_ i : Int) => ((l.length : Int) - i).toNat) ?_ ⟨[], l, rfl, rfl, rfl⟩
  rintro P m i ⟨a, b, rfl, rfl, rfl⟩ ih
  rw [List.length_append] at h3 h4
  refine ⟨fun z => ?_, fun z => ⟨⟨by omega, by omega⟩, ?_⟩⟩
  · have : b = [] := List.length_eq_zero_iff.mp (by omega)
    subst this
    rw [List.append_nil] at k; exact k
  · cases b with
    | nil => simp at h3; omega
    | cons c b =>
      rw [At_mid h2]
      have hle := List.countP_le_length (p := isS) (l := a)
      have hx : (cs a : Int) ≤ a.length := by unfold cs; omega
      simp only [List.length_cons] at h3 h4
      refine isStatement_k (fun g => t1 ⟨⟨by omega, by omega⟩, ⟨by omega, by omega⟩, ih _ _ ⟨a ++ [c], b, by simp, by simp, ?_⟩ (by simp only [List.length_append, List.length_cons]; omega)⟩) (fun g => t0 ⟨⟨by omega, by omega⟩, ih _ _ ⟨a ++ [c], b, by simp, by simp, ?_⟩ (by simp only [List.length_append, List.length_cons]; omega)⟩)
      · rw [cs_split (b := b), if_pos g]; omega
      · rw [cs_split (b := b), if_neg (by rw [g]; decide)]; omega
theorem W_expressions_k (h : RowL σ n l) (k : K (cp l)) : wp5_W_expressions σ n K := by
  obtain ⟨h1, h2, h3, h4⟩ := h
  have hc := capI_pos n
  refine wl2_rule (fun (m i : Int) => ∃ a b : List Int, l = a ++ b ∧ i = a.length ∧ m = cp a) (fun (_ i : Int) => ((l.length : Int) - i).toNat) ?_ ⟨[], l, rfl, rfl, rfl⟩
  rintro P m i ⟨a, b, rfl, rfl, rfl⟩ ih
  rw [List.length_append] at h3 h4
  refine ⟨fun z => ?_, fun z => ⟨⟨by omega, by omega⟩, ?_⟩⟩
  · have : b = [] := List.length_eq_zero_iff.mp (by omega)
    subst this
    rw [List.append_nil] at k; exact k
  · cases b with
    | nil => simp at h3; omega
    | cons c b =>
      rw [At_mid h2]
      have hle := List.countP_le_length (p := isP) (l := a)
      have hx : (cp a : Int) ≤ a.length := by unfold cp; omega
      simp only [List.length_cons] at h3 h4
      refine isExpression_k (fun g => t1 ⟨⟨by omega, by omega⟩, ⟨by omega, by omega⟩, ih _ _ ⟨a ++ [c], b, by simp, by simp, ?_⟩ (by simp only [List.length_append, List.length_cons]; omega)⟩) (fun g => t0 ⟨⟨by omega, by omega⟩, ih _ _ ⟨a ++ [c], b, by simp, by simp, ?_⟩ (by simp only [List.length_append, List.length_cons]; omega)⟩)
      · rw [cp_split (b := b), if_pos g]; omega
      · rw [cp_split (b := b), if_neg (by rw [g]; decide)]; omega
theorem isTooLarge_k (h : RowL σ n l) (h1 : (40 < cs l ∨ 300 < cp l) → K 1) (h0 : cs l ≤ 40 → cp l ≤ 300 → K 0) : wp5_W_isTooLarge σ n K :=
  W_statements_k h ⟨fun z => h1 (Or.inl (by omega)), fun z => W_expressions_k h ⟨fun z2 => h0 (by omega) (by omega), fun z2 => h1 (Or.inr (by omega))⟩⟩
end A0
