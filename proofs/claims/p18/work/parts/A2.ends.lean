-- ===== where the class finds the ends of expressions, blocks and statements
section A2
variable {σ : Sg} {n p : Int} {l a b : List Int} {K : Int → Prop} {P : Int → Int → Prop} {S : List Int → Prop}
theorem At_app2 {f : Int → Int} {q : Int} {x y : List Int} (h : At f q (x ++ y)) : At f q x ∧ At f (q + x.length) y := At_app.mp h
theorem eEnd_run (hP : ∀ x y, wp5_W_expressionEnd_8 K σ n P x y → P x y) (hc : σ.2.2.1 0 n ≤ capI n) : ∀ {e : List Int}, Ex lfR e → ∀ q m : Int, 0 ≤ q → 1 ≤ m → m ≤ 2000 → At (σ.2.2.2 0 n) q e → q + e.length ≤ σ.2.2.1 0 n → m + e.length ≤ 2000 → P (q + e.length) (m - 1) → P q m := by
  intro e he
  have cn := capI_pos n
  refine Ex.ind (P := fun e => ∀ q m : Int, 0 ≤ q → 1 ≤ m → m ≤ 2000 → At (σ.2.2.2 0 n) q e → q + e.length ≤ σ.2.2.1 0 n → m + e.length ≤ 2000 → P (q + e.length) (m - 1) → P q m) ?_ ?_ he
  · intro c hl q m q0 m1 m2 ha hq hm h
    simp only [List.length_cons, List.length_nil] at hq hm h
    have e1 : σ.2.2.2 0 n q = c := ha.1
    refine hP _ _ ⟨fun z => absurd z (by omega), fun _ => ⟨fun z => absurd z (by omega), fun _ => ⟨⟨by omega, by omega⟩, ?_⟩⟩⟩
    rw [e1]
    refine isOperation_k (fun g => ?_) (fun _ => t0 ⟨⟨by omega, by omega⟩, ⟨by omega, by omega⟩, ?_⟩)
    · unfold opC at g; unfold lfR at hl; omega
    · have : q + ((0 + 1 : Nat) : Int) = q + 1 := by omega
      rw [this] at h
      exact h
  · intro o x y ho _ _ ihx ihy q m q0 m1 m2 ha hq hm h
    simp only [List.length_cons, List.length_append] at hq hm h
    have e1 : σ.2.2.2 0 n q = o := ha.1
    obtain ⟨hx, hy⟩ := At_app2 ha.2
    refine hP _ _ ⟨fun z => absurd z (by omega), fun _ => ⟨fun z => absurd z (by omega), fun _ => ⟨⟨by omega, by omega⟩, ?_⟩⟩⟩
    rw [e1]
    refine isOperation_k (fun _ => t1 ⟨⟨by omega, by omega⟩, ⟨by omega, by omega⟩, ?_⟩) (fun g => absurd ho g)
    refine ihx (q + 1) (m + 1) (by omega) (by omega) (by omega) hx (by omega) (by omega) ?_
    refine ihy _ _ (by omega) (by omega) (by omega) hy (by omega) (by omega) ?_
    have e2 : q + 1 + (x.length : Int) + y.length = q + ((x.length + y.length + 1 : Nat) : Int) := by omega
    have e3 : m + 1 - 1 - 1 = m - 1 := by omega
    rw [e2, e3]; exact h
theorem expressionEnd_k {e : List Int} (h : RowL σ n (a ++ (e ++ b))) (he : Ex lfR e) (hp : p = a.length) (k : K (a.length + e.length)) : wp5_W_expressionEnd σ n p K := by
  obtain ⟨g1, g2, g3, g4⟩ := h
  have cn := capI_pos n
  simp only [List.length_append] at g3 g4
  have a2 := (At_app2 (At_app2 g2).2).1
  rw [show (0 : Int) + a.length = p by omega] at a2
  intro P hP
  have e0 : max p 0 = p := Int.max_eq_left (by omega)
  rw [e0]
  refine eEnd_run hP (by omega) he p 1 (by omega) (by omega) (by omega) a2 (by omega) (by omega) (hP _ _ ⟨fun _ => ?_, fun z => absurd z (by omega)⟩)
  rw [hp]; exact k
/-- anywhere else it ends, too -/
theorem expressionEnd_any (h : RowL σ n l) (hp : p ≤ 100000) (hp0 : -100000 ≤ p) (k : ∀ r, max p 0 ≤ r → (r ≤ l.length ∨ r = max p 0) → K r) : wp5_W_expressionEnd σ n p K := by
  obtain ⟨g1, g2, g3, g4⟩ := h
  have cn := capI_pos n
  have hm : max p 0 = p ∨ max p 0 = 0 := by
    rcases Int.le_total p 0 with z | z
    · exact Or.inr (Int.max_eq_right z)
    · exact Or.inl (Int.max_eq_left z)
  have hm0 : 0 ≤ max p 0 := Int.le_max_right _ _
  refine wl2_rule (fun (e m : Int) => max p 0 ≤ e ∧ (e ≤ l.length ∨ e = max p 0) ∧ -(1 + e) ≤ m ∧ m ≤ 1 + e) (fun (e _ : Int) => ((l.length : Int) - e).toNat) ?_ ⟨Int.le_refl _, Or.inr rfl, by omega, by omega⟩
  rintro P e m ⟨i1, i2, i3, i4⟩ ih
  refine ⟨fun _ => k e i1 i2, fun z => ⟨fun _ => k e i1 i2, fun z2 => ⟨⟨by omega, by omega⟩, isOperation_k (fun _ => t1 ⟨⟨by omega, by omega⟩, ⟨by omega, by omega⟩, ih _ _ ⟨by omega, Or.inl (by omega), by omega, by omega⟩ (by omega)⟩) (fun _ => t0 ⟨⟨by omega, by omega⟩, ⟨by omega, by omega⟩, ih _ _ ⟨by omega, Or.inl (by omega), by omega, by omega⟩ (by omega)⟩)⟩⟩⟩
-- ===== closeOf, elseOf
theorem cl_skip (hP : ∀ x y, wp5_W_closeOf_8 K σ n P x y → P x y) (hc : σ.2.2.1 0 n ≤ capI n) : ∀ {e : List Int} (o q : Int), (∀ c ∈ e, c ≠ 112 ∧ c ≠ 115 ∧ c ≠ 114) → 0 ≤ q → At (σ.2.2.2 0 n) q e → q + e.length ≤ σ.2.2.1 0 n → P o (q + e.length) → P o q := by
  intro e
  have cn := capI_pos n
  induction e with
  | nil => intro o q _ _ _ _ h; simpa using h
  | cons c e ih =>
    intro o q hc2 q0 ha hq h
    obtain ⟨z1, z2, z3⟩ := hc2 c List.mem_cons_self
    simp only [List.length_cons] at hq h
    have e1 : σ.2.2.2 0 n q = c := ha.1
    refine hP _ _ ⟨fun z => absurd z (by omega), fun _ => ⟨⟨by omega, by omega⟩, ?_⟩⟩
    rw [e1]
    refine isBranch_k (fun z => absurd z (by omega)) (fun _ _ => t0 ⟨fun _ => ⟨⟨by omega, by omega⟩, ?_⟩, fun z => absurd z z3⟩)
    refine ih o (q + 1) (fun d hd => hc2 d (List.mem_cons_of_mem _ hd)) (by omega) ha.2 (by omega) ?_
    rw [show q + 1 + (e.length : Int) = q + ((e.length + 1 : Nat) : Int) by omega]; exact h
theorem Ex.no {e : List Int} (h : Ex lfR e) : ∀ c ∈ e, c ≠ 112 ∧ c ≠ 115 ∧ c ≠ 114 ∧ c ≠ 113 := by
  intro c hc
  have := h.all c hc
  unfold lfR opC at this
  omega
theorem cl_open (hP : ∀ x y, wp5_W_closeOf_8 K σ n P x y → P x y) (hc : σ.2.2.1 0 n ≤ capI n) {o q c : Int} (h2 : c = 112 ∨ c = 115) (q0 : 0 ≤ q) (o0 : -2000 ≤ o ∧ o ≤ 2000) (e1 : σ.2.2.2 0 n q = c) (hq : q + 1 ≤ σ.2.2.1 0 n) (h : P (o + 1) (q + 1)) : P o q := by
  have cn := capI_pos n
  refine hP _ _ ⟨fun z => absurd z (by omega), fun _ => ⟨⟨by omega, by omega⟩, ?_⟩⟩
  rw [e1]
  exact isBranch_k (fun _ => t1 ⟨⟨by omega, by omega⟩, ⟨by omega, by omega⟩, h⟩) (fun z1 z2 => absurd h2 (by omega))
theorem cl_shut (hP : ∀ x y, wp5_W_closeOf_8 K σ n P x y → P x y) (hc : σ.2.2.1 0 n ≤ capI n) {o q : Int} (q0 : 0 ≤ q) (o0 : 2 ≤ o ∧ o ≤ 2000) (e1 : σ.2.2.2 0 n q = 114) (hq : q + 1 ≤ σ.2.2.1 0 n) (h : P (o - 1) (q + 1)) : P o q := by
  have cn := capI_pos n
  refine hP _ _ ⟨fun z => absurd z (by omega), fun _ => ⟨⟨by omega, by omega⟩, ?_⟩⟩
  rw [e1]
  exact isBranch_k (fun z => absurd z (by omega)) (fun _ _ => t0 ⟨fun z => absurd rfl z, fun _ => ⟨⟨by omega, by omega⟩, fun _ => ⟨⟨by omega, by omega⟩, h⟩, fun z => absurd z (by omega)⟩⟩)
/-- over a row of statements -/
def ClB (σ : Sg) (n : Int) (K : Int → Prop) (B : List Int) : Prop := ∀ (P : Int → Int → Prop), (∀ x y, wp5_W_closeOf_8 K σ n P x y → P x y) → ∀ o q : Int, 1 ≤ o → o + B.length ≤ 2000 → 0 ≤ q → At (σ.2.2.2 0 n) q B → q + B.length ≤ σ.2.2.1 0 n → P o (q + B.length) → P o q
theorem testC.no {t : Int} (h : testC t) : ∀ c ∈ [t], c ≠ 112 ∧ c ≠ 115 ∧ c ≠ 114 := by
  intro c hc
  rw [List.mem_singleton.mp hc]
  unfold testC at h
  omega
/-- an if or a while up to its close -/
theorem cl_inner (hP : ∀ x y, wp5_W_closeOf_8 K σ n P x y → P x y) (hc : σ.2.2.1 0 n ≤ capI n) {s : List Int} (hs : (∃ (t : Int) (x y B C : List Int), testC t ∧ Ex lfR x ∧ Ex lfR y ∧ ClB σ n K B ∧ ClB σ n K C ∧ s = 112 :: t :: (x ++ (y ++ (B ++ (113 :: (C ++ [114])))))) ∨ (∃ (t : Int) (x y B : List Int), testC t ∧ Ex lfR x ∧ Ex lfR y ∧ ClB σ n K B ∧ s = 115 :: t :: (x ++ (y ++ (B ++ [114]))))) {o q : Int} (o0 : 0 ≤ o) (o2 : o + s.length ≤ 2000) (q0 : 0 ≤ q) (ha : At (σ.2.2.2 0 n) q s) (hq : q + s.length ≤ σ.2.2.1 0 n) (h : σ.2.2.2 0 n (q + s.length - 1) = 114 → P (o + 1) (q + s.length - 1)) : P o q := by
  rcases hs with ⟨t, x, y, B, C, ht, hx, hy, hB, hC, rfl⟩ | ⟨t, x, y, B, ht, hx, hy, hB, rfl⟩
  · rw [len_if] at hq h o2
    obtain ⟨r1, r2, r3, r4, r5, r6, r7, r8⟩ := At_if.mp ha
    refine cl_open hP hc (Or.inl rfl) q0 (by omega) r1 (by omega) ?_
    refine cl_skip (e := [t]) hP hc _ _ ht.no (by omega) ⟨r2, trivial⟩ (by simp only [List.length_cons, List.length_nil]; omega) ?_
    rw [show q + 1 + (([t] : List Int).length : Int) = q + 2 by simp only [List.length_cons, List.length_nil]; omega]
    refine cl_skip hP hc _ _ (fun c hm => ⟨(hx.no c hm).1, (hx.no c hm).2.1, (hx.no c hm).2.2.1⟩) (by omega) r3 (by omega) ?_
    refine cl_skip hP hc _ _ (fun c hm => ⟨(hy.no c hm).1, (hy.no c hm).2.1, (hy.no c hm).2.2.1⟩) (by omega) r4 (by omega) ?_
    refine hB P hP _ _ (by omega) (by omega) (by omega) r5 (by omega) ?_
    refine cl_skip (e := [113]) hP hc _ _ (by intro c hm; rw [List.mem_singleton.mp hm]; decide) (by omega) ⟨r6, trivial⟩ (by simp only [List.length_cons, List.length_nil]; omega) ?_
    rw [show q + 2 + (x.length : Int) + y.length + B.length + (([113] : List Int).length : Int) = q + 2 + x.length + y.length + B.length + 1 by simp only [List.length_cons, List.length_nil]; omega]
    refine hC P hP _ _ (by omega) (by omega) (by omega) r7 (by omega) ?_
    have e : q + ((x.length + y.length + B.length + C.length + 4 : Nat) : Int) - 1 = q + 2 + x.length + y.length + B.length + 1 + C.length := by omega
    rw [e] at h
    exact h r8
  · rw [len_wh] at hq h o2
    obtain ⟨r1, r2, r3, r4, r5, r6⟩ := At_wh.mp ha
    refine cl_open hP hc (Or.inr rfl) q0 (by omega) r1 (by omega) ?_
    refine cl_skip (e := [t]) hP hc _ _ ht.no (by omega) ⟨r2, trivial⟩ (by simp only [List.length_cons, List.length_nil]; omega) ?_
    rw [show q + 1 + (([t] : List Int).length : Int) = q + 2 by simp only [List.length_cons, List.length_nil]; omega]
    refine cl_skip hP hc _ _ (fun c hm => ⟨(hx.no c hm).1, (hx.no c hm).2.1, (hx.no c hm).2.2.1⟩) (by omega) r3 (by omega) ?_
    refine cl_skip hP hc _ _ (fun c hm => ⟨(hy.no c hm).1, (hy.no c hm).2.1, (hy.no c hm).2.2.1⟩) (by omega) r4 (by omega) ?_
    refine hB P hP _ _ (by omega) (by omega) (by omega) r5 (by omega) ?_
    have e : q + ((x.length + y.length + B.length + 3 : Nat) : Int) - 1 = q + 2 + x.length + y.length + B.length := by omega
    rw [e] at h
    exact h r6
theorem ClB_all (hc : σ.2.2.1 0 n ≤ capI n) : ∀ {B : List Int}, Sq B → ClB σ n K B := by
  intro B hB
  refine Sq.ind (P := ClB σ n K) ?_ ?_ hB
  · intro P hP o q _ _ _ _ _ h
    simpa using h
  · intro s r hs _ ih P hP o q o1 o2 q0 ha hq h
    rw [List.length_append] at o2 hq h
    obtain ⟨a1, a2⟩ := At_app2 ha
    have nx : P o (q + s.length) := by
      refine ih P hP o _ o1 (by omega) (by omega) a2 (by omega) ?_
      rw [show q + (s.length : Int) + r.length = q + ((s.length + r.length : Nat) : Int) by omega]; exact h
    have pos := hs.pos
    have inner : ((∃ (t : Int) (x y B C : List Int), testC t ∧ Ex lfR x ∧ Ex lfR y ∧ ClB σ n K B ∧ ClB σ n K C ∧ s = 112 :: t :: (x ++ (y ++ (B ++ (113 :: (C ++ [114])))))) ∨ (∃ (t : Int) (x y B : List Int), testC t ∧ Ex lfR x ∧ Ex lfR y ∧ ClB σ n K B ∧ s = 115 :: t :: (x ++ (y ++ (B ++ [114]))))) → P o q := by
      intro hi
      refine cl_inner hP hc hi (by omega) (by omega) q0 a1 (by omega) (fun e1 => cl_shut hP hc (by omega) (by omega) e1 (by omega) ?_)
      rw [show o + 1 - 1 = o by omega, show q + (s.length : Int) - 1 + 1 = q + s.length by omega]; exact nx
    rcases hs with ⟨v, e, hv, he, rfl⟩ | rfl | ⟨t, x, y, B, C, ht, hx, hy, hB, hC, rfl⟩ | ⟨t, x, y, B, ht, hx, hy, hB, rfl⟩
    · refine cl_skip hP hc o q (fun c hm => ?_) q0 a1 (by omega) nx
      rcases List.mem_cons.mp hm with z | z
      · unfold setC at hv; omega
      · exact ⟨(he.no c z).1, (he.no c z).2.1, (he.no c z).2.2.1⟩
    · refine cl_skip hP hc o q (fun c hm => ?_) q0 a1 (by omega) nx
      rw [List.mem_singleton.mp hm]; decide
    · exact inner (Or.inl ⟨t, x, y, B, C, ht, hx, hy, hB.2, hC.2, rfl⟩)
    · exact inner (Or.inr ⟨t, x, y, B, ht, hx, hy, hB.2, rfl⟩)
/-- an if or a while -/
def Br (s : List Int) : Prop := (∃ (t : Int) (x y B C : List Int), testC t ∧ Ex lfR x ∧ Ex lfR y ∧ Sq B ∧ Sq C ∧ s = 112 :: t :: (x ++ (y ++ (B ++ (113 :: (C ++ [114])))))) ∨ (∃ (t : Int) (x y B : List Int), testC t ∧ Ex lfR x ∧ Ex lfR y ∧ Sq B ∧ s = 115 :: t :: (x ++ (y ++ (B ++ [114]))))
theorem closeOf_k {s : List Int} (h : RowL σ n (a ++ (s ++ b))) (hs : Br s) (hp : p = a.length) (k : K (a.length + s.length - 1)) : wp5_W_closeOf σ n p K := by
  obtain ⟨g1, g2, g3, g4⟩ := h
  have cn := capI_pos n
  simp only [List.length_append] at g3 g4
  have hc : σ.2.2.1 0 n ≤ capI n := by omega
  have a2 := (At_app2 (At_app2 g2).2).1
  rw [show (0 : Int) + a.length = p by omega] at a2
  intro P hP
  have e0 : max p 0 = p := Int.max_eq_left (by omega)
  rw [e0]
  have pos : 1 ≤ s.length := by rcases hs with ⟨t, x, y, B, C, _, _, _, _, _, rfl⟩ | ⟨t, x, y, B, _, _, _, _, rfl⟩ <;> simp
  refine cl_inner hP hc ?_ (Int.le_refl 0) (by omega) (by omega) a2 (by omega) (fun e1 => hP _ _ ⟨fun z => absurd z (by omega), fun _ => ⟨⟨by omega, by omega⟩, ?_⟩⟩)
  · rcases hs with ⟨t, x, y, B, C, h1, h2, h3, h4, h5, h6⟩ | ⟨t, x, y, B, h1, h2, h3, h4, h5⟩
    · exact Or.inl ⟨t, x, y, B, C, h1, h2, h3, ClB_all hc h4, ClB_all hc h5, h6⟩
    · exact Or.inr ⟨t, x, y, B, h1, h2, h3, ClB_all hc h4, h5⟩
  · rw [e1]
    refine isBranch_k (fun z => absurd z (by omega)) (fun _ _ => t0 ⟨fun z => absurd rfl z, fun _ => ⟨⟨by omega, by omega⟩, fun z => absurd z (by omega), fun _ => ?_⟩⟩)
    rw [hp]; exact k
theorem statementEnd_k {s : List Int} (h : RowL σ n (a ++ (s ++ b))) (hs : Sm Sq s) (hp : p = a.length) (k : K (a.length + s.length)) : wp5_W_statementEnd σ n p K := by
  have cn := capI_pos n
  have hl : (a.length : Int) + s.length ≤ 1000 := by
    have := h.2.2.2
    simp only [List.length_append] at this
    omega
  unfold wp5_W_statementEnd
  have br : Br s → wp5_W_closeOf σ n p (fun r15 => rng (r15 + 1) ∧ K (r15 + 1)) := fun hb => closeOf_k h hb hp (by
    rw [show (a.length : Int) + s.length - 1 + 1 = a.length + s.length by omega]
    exact ⟨⟨by omega, by omega⟩, k⟩)
  rcases hs with ⟨v, e, hv, he, rfl⟩ | rfl | ⟨t, x, y, B, C, ht, hx, hy, hB, hC, rfl⟩ | ⟨t, x, y, B, ht, hx, hy, hB, rfl⟩
  · refine cell_mid (b := e ++ b) h hp (isBranch_k (fun z => ?_) (fun _ _ => t0 ⟨fun _ => ⟨⟨by omega, by omega⟩, ?_⟩, fun z => ?_⟩))
    · unfold setC at hv; omega
    · refine expressionEnd_k (a := a ++ [v]) (e := e) (b := b) (by simpa using h) he (by rw [len_app]; simp only [List.length_cons, List.length_nil]; omega) ?_
      have : ((a ++ [v]).length : Int) + e.length = a.length + ((v :: e).length : Nat) := by
        rw [len_app]; simp only [List.length_cons, List.length_nil]; omega
      rw [this]; exact k
    · unfold setC at hv; omega
  · refine cell_mid (b := b) h hp (isBranch_k (fun z => absurd z (by omega)) (fun _ _ => t0 ⟨fun z => absurd rfl z, fun _ => ⟨⟨by omega, by omega⟩, ?_⟩⟩))
    rw [hp]; exact k
  · exact cell_mid (b := _) h hp (isBranch_k (fun _ => t1 (br (Or.inl ⟨t, x, y, B, C, ht, hx, hy, hB, hC, rfl⟩))) (fun z => absurd rfl z))
  · exact cell_mid (b := _) h hp (isBranch_k (fun _ => t1 (br (Or.inr ⟨t, x, y, B, ht, hx, hy, hB, rfl⟩))) (fun _ z => absurd rfl z))
end A2
