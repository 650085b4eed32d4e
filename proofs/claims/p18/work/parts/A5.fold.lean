-- ===== FOLD in the class
section A5
variable {σ : Sg} {n p : Int} {l a b : List Int} {K : Int → Prop} {P : Int → Int → Prop}
theorem cell_any (h : RowL σ n l) (k : ∀ r, K r) : wp5_W_cell σ n p K := by
  obtain ⟨h1, h2, h3, h4⟩ := h
  unfold wp5_W_cell
  exact ⟨fun _ => k _, fun _ => ⟨fun _ => k _, fun _ => ⟨⟨by omega, by omega⟩, k _⟩⟩⟩
theorem el_skip (hP : ∀ x y, wp5_W_elseOf_8 K σ n P x y → P x y) (hc : σ.2.2.1 0 n ≤ capI n) : ∀ {e : List Int} (o q : Int), (∀ c ∈ e, c ≠ 112 ∧ c ≠ 115 ∧ c ≠ 114 ∧ (c ≠ 113 ∨ o ≠ 1)) → 0 ≤ q → At (σ.2.2.2 0 n) q e → q + e.length ≤ σ.2.2.1 0 n → P o (q + e.length) → P o q := by
  intro e
  have cn := capI_pos n
  induction e with
  | nil => intro o q _ _ _ _ h; simpa using h
  | cons c e ih =>
    intro o q hc2 q0 ha hq h
    obtain ⟨z1, z2, z3, z4⟩ := hc2 c List.mem_cons_self
    simp only [List.length_cons] at hq h
    have e1 : σ.2.2.2 0 n q = c := ha.1
    have nx : P o (q + 1) := by
      refine ih o (q + 1) (fun d hd => hc2 d (List.mem_cons_of_mem _ hd)) (by omega) ha.2 (by omega) ?_
      rw [show q + 1 + (e.length : Int) = q + ((e.length + 1 : Nat) : Int) by omega]; exact h
    refine hP _ _ ⟨fun z => absurd z (by omega), fun _ => ⟨⟨by omega, by omega⟩, ?_⟩⟩
    rw [e1]
    refine isBranch_k (fun z => absurd z (by omega)) (fun _ _ => t0 ⟨fun _ => ⟨fun _ => ⟨⟨by omega, by omega⟩, nx⟩, fun z => ⟨fun _ => ⟨⟨by omega, by omega⟩, nx⟩, fun z5 => ?_⟩⟩, fun z => absurd z z3⟩)
    omega
theorem el_open (hP : ∀ x y, wp5_W_elseOf_8 K σ n P x y → P x y) (hc : σ.2.2.1 0 n ≤ capI n) {o q c : Int} (h2 : c = 112 ∨ c = 115) (q0 : 0 ≤ q) (o0 : -2000 ≤ o ∧ o ≤ 2000) (e1 : σ.2.2.2 0 n q = c) (hq : q + 1 ≤ σ.2.2.1 0 n) (h : P (o + 1) (q + 1)) : P o q := by
  have cn := capI_pos n
  refine hP _ _ ⟨fun z => absurd z (by omega), fun _ => ⟨⟨by omega, by omega⟩, ?_⟩⟩
  rw [e1]
  exact isBranch_k (fun _ => t1 ⟨⟨by omega, by omega⟩, ⟨by omega, by omega⟩, h⟩) (fun z1 z2 => absurd h2 (by omega))
theorem el_shut (hP : ∀ x y, wp5_W_elseOf_8 K σ n P x y → P x y) (hc : σ.2.2.1 0 n ≤ capI n) {o q : Int} (q0 : 0 ≤ q) (o0 : -2000 ≤ o ∧ o ≤ 2000) (e1 : σ.2.2.2 0 n q = 114) (hq : q + 1 ≤ σ.2.2.1 0 n) (h : P (o - 1) (q + 1)) : P o q := by
  have cn := capI_pos n
  refine hP _ _ ⟨fun z => absurd z (by omega), fun _ => ⟨⟨by omega, by omega⟩, ?_⟩⟩
  rw [e1]
  exact isBranch_k (fun z => absurd z (by omega)) (fun _ _ => t0 ⟨fun z => absurd rfl z, fun _ => ⟨⟨by omega, by omega⟩, ⟨by omega, by omega⟩, h⟩⟩)
def ElB (σ : Sg) (n : Int) (K : Int → Prop) (B : List Int) : Prop := ∀ (P : Int → Int → Prop), (∀ x y, wp5_W_elseOf_8 K σ n P x y → P x y) → ∀ o q : Int, 1 ≤ o → o + B.length ≤ 2000 → 0 ≤ q → At (σ.2.2.2 0 n) q B → q + B.length ≤ σ.2.2.1 0 n → P o (q + B.length) → P o q
theorem ElB_all (hc : σ.2.2.1 0 n ≤ capI n) : ∀ {B : List Int}, Sq B → ElB σ n K B := by
  intro B hB
  refine Sq.ind (P := ElB σ n K) ?_ ?_ hB
  · intro P hP o q _ _ _ _ _ h
    simpa using h
  · intro s r hs _ ih P hP o q o1 o2 q0 ha hq h
    rw [List.length_append] at o2 hq h
    obtain ⟨a1, a2⟩ := At_app2 ha
    have nx : P o (q + s.length) := by
      refine ih P hP o _ o1 (by omega) (by omega) a2 (by omega) ?_
      rw [show q + (s.length : Int) + r.length = q + ((s.length + r.length : Nat) : Int) by omega]; exact h
    have pos := hs.pos
    have ex : ∀ {e : List Int}, Ex lfR e → ∀ o, ∀ c ∈ e, c ≠ 112 ∧ c ≠ 115 ∧ c ≠ 114 ∧ (c ≠ 113 ∨ o ≠ (1 : Int)) := fun he o c hm => ⟨(he.no c hm).1, (he.no c hm).2.1, (he.no c hm).2.2.1, Or.inl (he.no c hm).2.2.2⟩
    rcases hs with ⟨v, e, hv, he, rfl⟩ | rfl | ⟨t, x, y, B, C, ht, hx, hy, hB, hC, rfl⟩ | ⟨t, x, y, B, ht, hx, hy, hB, rfl⟩
    · refine el_skip hP hc o q (fun c hm => ?_) q0 a1 (by omega) nx
      rcases List.mem_cons.mp hm with z | z
      · unfold setC at hv; exact ⟨by omega, by omega, by omega, Or.inl (by omega)⟩
      · exact ex he o c z
    · refine el_skip hP hc o q (fun c hm => ?_) q0 a1 (by omega) nx
      rw [List.mem_singleton.mp hm]; exact ⟨by decide, by decide, by decide, Or.inl (by decide)⟩
    · rw [len_if] at o2 hq nx
      obtain ⟨r1, r2, r3, r4, r5, r6, r7, r8⟩ := At_if.mp a1
      unfold testC at ht
      refine el_open hP hc (Or.inl rfl) q0 (by omega) r1 (by omega) ?_
      refine el_skip (e := [t]) hP hc _ _ (fun c hm => by rw [List.mem_singleton.mp hm]; exact ⟨by omega, by omega, by omega, Or.inl (by omega)⟩) (by omega) ⟨r2, trivial⟩ (by simp only [List.length_cons, List.length_nil]; omega) ?_
      rw [show q + 1 + (([t] : List Int).length : Int) = q + 2 by simp only [List.length_cons, List.length_nil]; omega]
      refine el_skip hP hc _ _ (ex hx _) (by omega) r3 (by omega) ?_
      refine el_skip hP hc _ _ (ex hy _) (by omega) r4 (by omega) ?_
      refine hB.2 P hP _ _ (by omega) (by omega) (by omega) r5 (by omega) ?_
      refine el_skip (e := [113]) hP hc _ _ (fun c hm => by rw [List.mem_singleton.mp hm]; exact ⟨by decide, by decide, by decide, Or.inr (by omega)⟩) (by omega) ⟨r6, trivial⟩ (by simp only [List.length_cons, List.length_nil]; omega) ?_
      rw [show q + 2 + (x.length : Int) + y.length + B.length + (([113] : List Int).length : Int) = q + 2 + x.length + y.length + B.length + 1 by simp only [List.length_cons, List.length_nil]; omega]
      refine hC.2 P hP _ _ (by omega) (by omega) (by omega) r7 (by omega) ?_
      refine el_shut hP hc (by omega) (by omega) r8 (by omega) ?_
      rw [show o + 1 - 1 = o by omega, show q + 2 + (x.length : Int) + y.length + B.length + 1 + C.length + 1 = q + ((x.length + y.length + B.length + C.length + 4 : Nat) : Int) by omega]
      exact nx
    · rw [len_wh] at o2 hq nx
      obtain ⟨r1, r2, r3, r4, r5, r6⟩ := At_wh.mp a1
      unfold testC at ht
      refine el_open hP hc (Or.inr rfl) q0 (by omega) r1 (by omega) ?_
      refine el_skip (e := [t]) hP hc _ _ (fun c hm => by rw [List.mem_singleton.mp hm]; exact ⟨by omega, by omega, by omega, Or.inl (by omega)⟩) (by omega) ⟨r2, trivial⟩ (by simp only [List.length_cons, List.length_nil]; omega) ?_
      rw [show q + 1 + (([t] : List Int).length : Int) = q + 2 by simp only [List.length_cons, List.length_nil]; omega]
      refine el_skip hP hc _ _ (ex hx _) (by omega) r3 (by omega) ?_
      refine el_skip hP hc _ _ (ex hy _) (by omega) r4 (by omega) ?_
      refine hB.2 P hP _ _ (by omega) (by omega) (by omega) r5 (by omega) ?_
      refine el_shut hP hc (by omega) (by omega) r6 (by omega) ?_
      rw [show o + 1 - 1 = o by omega, show q + 2 + (x.length : Int) + y.length + B.length + 1 = q + ((x.length + y.length + B.length + 3 : Nat) : Int) by omega]
      exact nx
theorem elseOf_k {t : Int} {x y B C : List Int} (h : RowL σ n (a ++ ((112 :: t :: (x ++ (y ++ (B ++ (113 :: (C ++ [114])))))) ++ b))) (ht : testC t) (hx : Ex lfR x) (hy : Ex lfR y) (hB : Sq B) (hp : p = a.length) (k : K (a.length + 2 + x.length + y.length + B.length)) : wp5_W_elseOf σ n p K := by
  obtain ⟨g1, g2, g3, g4⟩ := h
  have cn := capI_pos n
  simp only [List.length_append] at g3 g4
  rw [len_if] at g3 g4
  have hc : σ.2.2.1 0 n ≤ capI n := by omega
  have a2 := (At_app2 (At_app2 g2).2).1
  rw [show (0 : Int) + a.length = p by omega] at a2
  obtain ⟨r1, r2, r3, r4, r5, r6, r7, r8⟩ := At_if.mp a2
  intro P hP
  have e0 : max p 0 = p := Int.max_eq_left (by omega)
  rw [e0]
  have ex : ∀ {e : List Int}, Ex lfR e → ∀ o, ∀ c ∈ e, c ≠ 112 ∧ c ≠ 115 ∧ c ≠ 114 ∧ (c ≠ 113 ∨ o ≠ (1 : Int)) := fun he o c hm => ⟨(he.no c hm).1, (he.no c hm).2.1, (he.no c hm).2.2.1, Or.inl (he.no c hm).2.2.2⟩
  unfold testC at ht
  refine el_open hP hc (Or.inl rfl) (by omega) (by omega) r1 (by omega) ?_
  refine el_skip (e := [t]) hP hc _ _ (fun c hm => by rw [List.mem_singleton.mp hm]; exact ⟨by omega, by omega, by omega, Or.inl (by omega)⟩) (by omega) ⟨r2, trivial⟩ (by simp only [List.length_cons, List.length_nil]; omega) ?_
  rw [show p + 1 + (([t] : List Int).length : Int) = p + 2 by simp only [List.length_cons, List.length_nil]; omega]
  refine el_skip hP hc _ _ (ex hx _) (by omega) r3 (by omega) ?_
  refine el_skip hP hc _ _ (ex hy _) (by omega) r4 (by omega) ?_
  refine ElB_all hc hB P hP _ _ (by omega) (by omega) (by omega) r5 (by omega) ?_
  refine hP _ _ ⟨fun z => absurd z (by omega), fun _ => ⟨⟨by omega, by omega⟩, ?_⟩⟩
  rw [r6]
  refine isBranch_k (fun z => absurd z (by omega)) (fun _ _ => t0 ⟨fun _ => ⟨fun z => absurd rfl z, fun _ => ⟨fun z => absurd z (by omega), fun _ => ?_⟩⟩, fun z => absurd z (by decide)⟩)
  rw [hp]; exact k
end A5
-- ===== the first way: operations
def C1 (n : Int) (l l1 : List Int) : Prop := ∀ (K : Sg → Prop) (L : Int → Sg → Prop), (∀ k s, wp5_A_foldOperations_7 K n L k s → L k s) → ∀ (σ : Sg) (a t : List Int), RowL σ n (a ++ (l ++ t)) → (∀ σ', RowL σ' n (a ++ (l1 ++ t)) → Fq No (one n) No σ σ' → L ((a.length : Int) - 1) σ') → L ((a.length : Int) + l.length - 1) σ
theorem C1.app {n : Int} {x x1 y y1 : List Int} (hx : C1 n x x1) (hy : C1 n y y1) : C1 n (x ++ y) (x1 ++ y1) := by
  intro K L hL σ a t hr h
  have e : (a.length : Int) + (x ++ y).length - 1 = (a ++ x).length + y.length - 1 := by simp only [List.length_append]; omega
  rw [e]
  refine hy K L hL σ (a ++ x) t (by simpa using hr) (fun σ' hr' f => ?_)
  have e2 : (((a ++ x).length : Nat) : Int) - 1 = a.length + x.length - 1 := by simp only [List.length_append]; omega
  rw [e2]
  exact hx K L hL σ' a (y1 ++ t) (by simpa using hr') (fun σ'' hr'' f' => h σ'' (by simpa using hr'') (f.trans f'))
theorem rng_small {x : Int} (h0 : -100000 ≤ x) (h1 : x ≤ 100000) : rng x := ⟨by omega, by omega⟩
theorem RowL.bd {σ : Sg} {n : Int} {l : List Int} (h : RowL σ n l) : l.length ≤ 1000 := by
  have := h.2.2.2; have := capI_pos n; omega
theorem C1_no {n c : Int} (h : ¬ opC c) : C1 n [c] [c] := by
  intro K L hL σ a t hr k
  have bd := hr.bd
  simp only [List.length_append, List.length_cons, List.length_nil] at bd
  have e : (a.length : Int) + ([c] : List Int).length - 1 = a.length := by simp only [List.length_cons, List.length_nil]; omega
  rw [e]
  refine hL _ _ ⟨fun z => absurd z (by omega), fun _ => cell_mid (b := t) hr rfl ⟨rng_small (by omega) (by omega), cell_any hr (fun r1 => ⟨rng_small (by omega) (by omega), cell_any hr (fun r2 => isOperation_k (fun g => absurd g h) (fun _ => t0 ⟨rng_small (by omega) (by omega), k σ hr Fq.refl⟩))⟩)⟩⟩
theorem C1_op {n o : Int} {x x1 y y1 : List Int} (ho : opC o) (hx : C1 n x x1) (hy : C1 n y y1) (nx : HdN x1) (ny : HdN y1) : C1 n (o :: (x ++ y)) (fo1 o (x1 ++ y1)) := by
  intro K L hL σ a t hr k
  have bd := hr.bd
  simp only [List.length_append, List.length_cons] at bd
  have e : (a.length : Int) + ((o :: (x ++ y) : List Int).length : Int) - 1 = (a ++ [o]).length + (x ++ y).length - 1 := by simp only [List.length_cons, List.length_append, List.length_nil]; omega
  rw [e]
  refine hx.app hy K L hL σ (a ++ [o]) t (by simpa using hr) (fun σ' hr' f => ?_)
  have e2 : (((a ++ [o]).length : Nat) : Int) - 1 = a.length := by simp only [List.length_append, List.length_cons, List.length_nil]; omega
  rw [e2]
  -- one step
  have hr2 : RowL σ' n (a ++ o :: (x1 ++ (y1 ++ t))) := by simpa using hr'
  have stay : (x1 ++ y1 = x1 ++ y1) → fo1 o (x1 ++ y1) = o :: (x1 ++ y1) → L ((a.length : Int) - 1) σ' := fun _ q => k σ' (by rw [q]; simpa using hr2) f
  rcases nx with ⟨u, hu, rfl⟩ | ⟨u, q, hu, rfl⟩
  · rcases ny with ⟨w, hw, rfl⟩ | ⟨w, q, hw, rfl⟩
    · refine hL _ _ ⟨fun z => absurd z (by omega), fun _ => cell_mid (b := u :: w :: t) hr2 rfl ⟨rng_small (by omega) (by omega), ?_⟩⟩
      refine cell_mid (a := a ++ [o]) (c := u) (b := w :: t) (by simpa using hr2) (by simp only [List.length_append, List.length_cons, List.length_nil]; omega) ⟨rng_small (by omega) (by omega), ?_⟩
      refine cell_mid (a := a ++ [o, u]) (c := w) (b := t) (by simpa using hr2) (by simp only [List.length_append, List.length_cons, List.length_nil]; omega) ?_
      refine isOperation_k (fun _ => t1 (isNumber_k (fun _ => t1 (isNumber_k (fun _ => t1 ?_) (fun g => absurd hw g))) (fun g => absurd hu g))) (fun g => absurd ho g)
      refine result_k (change_k (b := u :: w :: t) hr2 rfl (fun σ2 hr3 f2 => ⟨rng_small (by omega) (by omega), ?_⟩))
      refine remove_k (a := a ++ [opR o u w]) (e := [u, w]) (b := t) (by simpa using hr3) (by simp only [List.length_append, List.length_cons, List.length_nil]; omega) (by simp only [List.length_append, List.length_cons, List.length_nil]; omega) (fun σ3 hr4 f3 => ⟨rng_small (by omega) (by omega), ?_⟩)
      refine k σ3 ?_ (f.trans (f2.trans f3))
      have : fo1 o ([u] ++ [w]) = [opR o u w] := fo1_yes ho hu hw
      rw [this]; simpa using hr4
    · refine hL _ _ ⟨fun z => absurd z (by omega), fun _ => cell_mid (b := u :: ((w :: q) ++ t)) hr2 rfl ⟨rng_small (by omega) (by omega), ?_⟩⟩
      refine cell_mid (a := a ++ [o]) (c := u) (b := (w :: q) ++ t) (by simpa using hr2) (by simp only [List.length_append, List.length_cons, List.length_nil]; omega) ⟨rng_small (by omega) (by omega), ?_⟩
      refine cell_mid (a := a ++ [o, u]) (c := w) (b := q ++ t) (by simpa using hr2) (by simp only [List.length_append, List.length_cons, List.length_nil]; omega) ?_
      refine isOperation_k (fun _ => t1 (isNumber_k (fun _ => t1 (isNumber_k (fun g => absurd g hw) (fun _ => t0 ⟨rng_small (by omega) (by omega), stay rfl (fo1_no2 hw)⟩))) (fun g => absurd hu g))) (fun g => absurd ho g)
  · refine hL _ _ ⟨fun z => absurd z (by omega), fun _ => cell_mid (b := (u :: q) ++ (y1 ++ t)) hr2 rfl ⟨rng_small (by omega) (by omega), ?_⟩⟩
    refine cell_mid (a := a ++ [o]) (c := u) (b := q ++ (y1 ++ t)) (by simpa using hr2) (by simp only [List.length_append, List.length_cons, List.length_nil]; omega) ⟨rng_small (by omega) (by omega), ?_⟩
    exact cell_any hr2 (fun r => isOperation_k (fun _ => t1 (isNumber_k (fun g => absurd g hu) (fun _ => t0 ⟨rng_small (by omega) (by omega), stay rfl (fo1_no1 hu)⟩))) (fun g => absurd ho g))
theorem C1_ex {n : Int} : ∀ {e : List Int}, Ex lfR e → C1 n e (foE e) := by
  intro e he
  refine Ex.ind (P := fun e => C1 n e (foE e)) ?_ ?_ he
  · intro c hc
    have : foE [c] = [c] := by
      show fo1 c [] = [c]
      exact fo1_no (lfR_no hc)
    rw [this]
    exact C1_no (lfR_no hc)
  · intro o x y ho hx hy ix iy
    rw [foE_op ho hx hy]
    exact C1_op ho ix iy (foE_is hx).2.2.1 (foE_is hy).2.2.1
theorem no_op {c : Int} (h : c < 120 ∨ 122 < c) : ¬ opC c := by unfold opC; omega
theorem C1_sq {n : Int} : ∀ {l : List Int}, Sq l → C1 n l (fo1L l) := by
  intro l hl
  refine Sq.ind (P := fun l => C1 n l (fo1L l)) ?_ ?_ hl
  · have : fo1L [] = [] := SqM_nil
    rw [this]
    intro K L hL σ a t hr k
    have := k σ hr Fq.refl
    simpa using this
  · intro s r hs hr ih
    have hs' := hs.mono (T := Sq) (fun _ h => h.1)
    have e0 : fo1L (s ++ r) = fo1L s ++ fo1L r := SqM_cons hs' hr
    rw [e0]
    refine C1.app ?_ ih
    rcases hs with ⟨v, e, hv, he, rfl⟩ | rfl | ⟨t, x, y, B, C, ht, hx, hy, hB, hC, rfl⟩ | ⟨t, x, y, B, ht, hx, hy, hB, rfl⟩
    · have e1 : fo1L (v :: e) = v :: foE e := SqM_set hv he
      rw [e1]
      exact (C1_no (n := n) (c := v) (no_op (by unfold setC at hv; omega))).app (C1_ex he)
    · have e1 : fo1L [111] = [111] := SqM_fail
      rw [e1]
      exact C1_no (no_op (Or.inl (by decide)))
    · have e1 : fo1L (112 :: t :: (x ++ (y ++ (B ++ (113 :: (C ++ [114])))))) = 112 :: t :: (foE x ++ (foE y ++ (fo1L B ++ (113 :: (fo1L C ++ [114]))))) := SqM_if ht hx hy hB.1 hC.1
      rw [e1]
      unfold testC at ht
      exact (C1_no (n := n) (c := 112) (no_op (Or.inl (by decide)))).app ((C1_no (n := n) (c := t) (no_op (by omega))).app ((C1_ex hx).app ((C1_ex hy).app (hB.2.app ((C1_no (n := n) (c := 113) (no_op (Or.inl (by decide)))).app (hC.2.app (C1_no (n := n) (c := 114) (no_op (Or.inl (by decide))))))))))
    · have e1 : fo1L (115 :: t :: (x ++ (y ++ (B ++ [114])))) = 115 :: t :: (foE x ++ (foE y ++ (fo1L B ++ [114]))) := SqM_wh ht hx hy hB.1
      rw [e1]
      unfold testC at ht
      exact (C1_no (n := n) (c := 115) (no_op (Or.inl (by decide)))).app ((C1_no (n := n) (c := t) (no_op (by omega))).app ((C1_ex hx).app ((C1_ex hy).app (hB.2.app (C1_no (n := n) (c := 114) (no_op (Or.inl (by decide))))))))
theorem foldOps_k {σ : Sg} {n : Int} {l : List Int} {K : Sg → Prop} (h : RowL σ n l) (hl : Sq l) (k : ∀ σ', RowL σ' n (fo1L l) → Fq No (one n) No σ σ' → K σ') : wp5_A_foldOperations σ n K := by
  have bd := h.bd
  unfold wp5_A_foldOperations
  rw [h.2.2.1]
  refine ⟨rng_small (by omega) (by omega), fun L hL => ?_⟩
  have key := C1_sq hl K L hL σ [] [] (by simpa using h) (fun σ' hr f => hL _ _ ⟨fun _ => k σ' (by simpa using hr) f, fun z => ?_⟩)
  · have e : ((([] : List Int).length : Nat) : Int) + l.length - 1 = l.length - 1 := by simp only [List.length_nil]; omega
    rw [e] at key
    exact key
  · simp only [List.length_nil] at z; omega
