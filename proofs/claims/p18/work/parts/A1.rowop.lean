-- ===== what the class writes into its rows
section A1
variable {σ : Sg} {n m : Int} {l a b e : List Int} {c v : Int} {K2 : Sg → Prop}
def one {α : Type} (n k : α) : Prop := k = n
theorem fq_row {f : Int → Int} {v : Int} : Fq No (one n) No σ (pY (pZ σ 0 n f) 0 n v) := by
  refine ⟨fun a _ => ⟨rfl, rfl⟩, fun k hk => ⟨?_, ?_⟩, fun c hc => ?_, fun c hc _ => ?_⟩
  · show uZ (σ.2.2.1 0) n v k = _
    exact uZ_ne hk
  · show uF (σ.2.2.2 0) n f k = _
    exact uF_ne hk
  · show (bif Nat.beq c 0 then _ else σ.2.2.1 c) = _
    rw [beqF (by omega)]; rfl
  · show (bif Nat.beq c 0 then _ else σ.2.2.2 c) = _
    rw [beqF (by omega)]; rfl
theorem fq_rowZ {f : Int → Int} : Fq No (one n) No σ (pZ σ 0 n f) := by
  refine ⟨fun a _ => ⟨rfl, rfl⟩, fun k hk => ⟨rfl, ?_⟩, fun c hc => rfl, fun c hc _ => ?_⟩
  · show uF (σ.2.2.2 0) n f k = _
    exact uF_ne hk
  · show (bif Nat.beq c 0 then _ else σ.2.2.2 c) = _
    rw [beqF (by omega)]; rfl
theorem fq_rowY {v : Int} : Fq No (one n) No σ (pY σ 0 n v) := by
  refine ⟨fun a _ => ⟨rfl, rfl⟩, fun k hk => ⟨?_, rfl⟩, fun c hc => ?_, fun c hc _ => rfl⟩
  · show uZ (σ.2.2.1 0) n v k = _
    exact uZ_ne hk
  · show (bif Nat.beq c 0 then _ else σ.2.2.1 c) = _
    rw [beqF (by omega)]; rfl
theorem rowL_new {f : Int → Int} {v : Int} (hn : 0 ≤ n ∧ n < 35) (hf : At f 0 l) (hv : v = l.length) (hc : (l.length : Int) ≤ capI n) : RowL (pY (pZ σ 0 n f) 0 n v) n l := by
  refine ⟨hn, ?_, ?_, hc⟩
  · show At (uF (σ.2.2.2 0) n f n) 0 l
    rw [uF_eq]; exact hf
  · show uZ (σ.2.2.1 0) n v n = _
    rw [uZ_eq]; exact hv
theorem rowL_nil (hn : 0 ≤ n ∧ n < 35) : RowL (pY σ 0 n 0) n [] := by
  refine ⟨hn, trivial, ?_, ?_⟩
  · show uZ (σ.2.2.1 0) n 0 n = _
    rw [uZ_eq]; rfl
  · have := capI_pos n
    simp only [List.length_nil]
    omega
theorem At_cpI {f g : Int → Int} {x y k : Int} (hf : At f x e) (hk : (e.length : Int) ≤ k) : At (cpI f g x y k) y e := by
  refine At_congr (fun i h0 h1 => ?_) hf
  unfold cpI
  rw [if_pos (by omega)]
  exact congrArg f (by omega)
theorem At_cpI_out {f g : Int → Int} {x y k p : Int} (hg : At g p e) (hk : p + e.length ≤ y ∨ y + k ≤ p) : At (cpI f g x y k) p e := by
  refine At_same (fun i h0 h1 => ?_) hg
  unfold cpI
  rw [if_neg (by omega)]
theorem At_z {f : Int → Int} {k : Nat} {l : List Int} : At f (0 + (k : Int)) l ↔ At f (k : Int) l := by
  rw [show (0 : Int) + (k : Int) = k by omega]
/-- a part of another row, behind this one -/
theorem addPart_k {x y : Int} (h : RowL σ n l) (h2 : RowL σ m (a ++ (e ++ b))) (hx : x = a.length) (hy : y = a.length + e.length) (room : (l.length : Int) + e.length ≤ capI n) (k : ∀ σ', RowL σ' n (l ++ e) → Fq No (one n) No σ σ' → K2 σ') : wp5_W_addPart σ n m x y K2 := by
  obtain ⟨g1, g2, g3, g4⟩ := h
  obtain ⟨m1, m2, m3, m4⟩ := h2
  have cn := capI_pos n
  have cm := capI_pos m
  simp only [List.length_append] at m3 m4
  have ex : y - x = e.length := by omega
  unfold wp5_W_addPart
  rw [ex]
  refine ⟨fun z => absurd z (by omega), fun _ => ⟨⟨by omega, by omega⟩, fun z => ?_, fun z => ⟨fun z2 => absurd z2 (by omega), fun _ => ⟨⟨by omega, by omega⟩, fun z2 => absurd z2 (by omega), fun _ => ⟨⟨by omega, by omega, by omega, by omega, by omega⟩, ⟨by omega, by omega⟩, ?_⟩⟩⟩⟩⟩
  · have : e = [] := List.length_eq_zero_iff.mp (by omega)
    subst this
    refine k σ ⟨g1, by rw [List.append_nil]; exact g2, by rw [List.append_nil]; exact g3, by rw [List.append_nil]; exact g4⟩ Fq.refl
  · refine k _ (rowL_new g1 (At_app.mpr ⟨At_cpI_out g2 (Or.inl (by omega)), ?_⟩) (by rw [len_app]; omega) (by rw [len_app]; exact room)) fq_row
    rw [g3, At_z]
    have := (At_app.mp (At_app.mp m2).2).1
    rw [At_z] at this
    rw [hx]
    exact At_cpI this (by omega)
theorem add_k (h : RowL σ n l) (room : (l.length : Int) + 1 ≤ capI n) (k : ∀ σ', RowL σ' n (l ++ [v]) → Fq No (one n) No σ σ' → K2 σ') : wp5_W_add σ n v K2 := by
  obtain ⟨g1, g2, g3, g4⟩ := h
  have cn := capI_pos n
  unfold wp5_W_add
  refine ⟨fun z => absurd z (by omega), fun _ => ⟨⟨by omega, by omega⟩, ⟨by omega, by omega⟩, k _ (rowL_new g1 ?_ (by rw [len_app]; simp only [List.length_cons, List.length_nil]; omega) (by rw [len_app]; simp only [List.length_cons, List.length_nil]; omega)) fq_row⟩⟩
  rw [g3]
  have := At_snoc (c := v) g2
  rwa [show (0 : Int) + l.length = l.length by omega] at this
theorem copy_k (hn : 0 ≤ n ∧ n < 35) (h2 : RowL σ m e) (hne : m ≠ n) (room : (e.length : Int) ≤ capI n) (k : ∀ σ', RowL σ' n e → Fq No (one n) No σ σ' → K2 σ') : wp5_W_copy σ n m K2 := by
  unfold wp5_W_copy
  refine ⟨fun z => absurd z hne, fun _ => ?_⟩
  have h3 : RowL (pY σ 0 n 0) m ([] ++ (e ++ [])) := by
    rw [List.append_nil]; exact h2.fr fq_rowY hne
  refine addPart_k (l := []) (rowL_nil hn) h3 rfl ?_ (by simpa using room) (fun σ' hr hf => k σ' hr (fq_rowY.trans hf))
  rw [uZ_ne hne, h2.2.2.1]
  simp
/-- a part of a row taken out -/
theorem remove_k {x y : Int} (h : RowL σ n (a ++ (e ++ b))) (hx : x = a.length) (hy : y = a.length + e.length) (k : ∀ σ', RowL σ' n (a ++ b) → Fq No (one n) No σ σ' → K2 σ') : wp5_W_remove σ n x y K2 := by
  obtain ⟨g1, g2, g3, g4⟩ := h
  have cn := capI_pos n
  simp only [List.length_append] at g3 g4
  obtain ⟨a1, a2⟩ := At_app.mp g2
  obtain ⟨a3, a4⟩ := At_app.mp a2
  unfold wp5_W_remove
  refine ⟨fun z => absurd z (by omega), fun _ => ⟨fun z => ?_, fun z => ⟨fun z2 => absurd z2 (by omega), fun _ => ⟨⟨by omega, by omega, by omega, by omega, by omega⟩, ⟨by omega, by omega⟩, ?_⟩⟩⟩⟩
  · have : e = [] := List.length_eq_zero_iff.mp (by omega)
    subst this
    exact k σ ⟨g1, g2, by simp only [List.length_append]; simpa using g3, by simp only [List.length_append]; simpa using g4⟩ Fq.refl
  · refine k _ (rowL_new g1 (At_app.mpr ⟨At_cpI_out a1 (Or.inl (by omega)), ?_⟩) (by rw [len_app]; omega) (by rw [len_app]; omega)) fq_row
    rw [At_z, hx]
    refine At_cpI ?_ (by omega)
    rw [show y = 0 + (a.length : Int) + e.length by omega]
    exact a4
theorem change_k {x : Int} (h : RowL σ n (a ++ c :: b)) (hx : x = a.length) (k : ∀ σ', RowL σ' n (a ++ v :: b) → Fq No (one n) No σ σ' → K2 σ') : wp5_W_change σ n x v K2 := by
  obtain ⟨g1, g2, g3, g4⟩ := h
  subst hx
  rw [len_mid] at g3 g4
  obtain ⟨a1, a2⟩ := At_app.mp g2
  unfold wp5_W_change
  refine ⟨fun z => absurd z (by omega), fun _ => ⟨fun z => absurd z (by omega), fun _ => ⟨⟨by omega, by omega⟩, k _ ⟨g1, ?_, by rw [len_mid]; exact g3, by rw [len_mid]; exact g4⟩ fq_rowZ⟩⟩⟩
  show At (uF (σ.2.2.2 0) n (uZ (σ.2.2.2 0 n) a.length v) n) 0 (a ++ v :: b)
  rw [uF_eq]
  refine At_app.mpr ⟨At_uZ (Or.inr (by omega)) a1, ?_, ?_⟩
  · rw [show (0 : Int) + a.length = a.length by omega]; exact uZ_eq
  · exact At_uZ (Or.inl (by omega)) a2.2
end A1
