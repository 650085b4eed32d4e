-- ===== has, replace; the hasty DEAD in the class
section A9
variable {σ : Sg} {n x y v : Int} {a b e : List Int} {K : Int → Prop}
theorem has_k (h : RowL σ n (a ++ (e ++ b))) (hx : x = a.length) (hy : y = a.length + e.length) (h1 : v ∈ e → K 1) (h0 : v ∉ e → K 0) : wp5_W_has σ n v x y K := by
  have bd := h.bd
  obtain ⟨g1, g2, g3, g4⟩ := h
  have cn := capI_pos n
  simp only [List.length_append] at g3 g4 bd
  have e0 : max x 0 = x := Int.max_eq_left (by omega)
  unfold wp5_W_has
  rw [e0]
  refine wl1_rule (fun (k : Int) => ∃ e1 e2 : List Int, e = e1 ++ e2 ∧ k = (a.length : Int) + e1.length ∧ v ∉ e1) (fun (k : Int) => (y - k).toNat) ?_ ⟨[], e, rfl, (show x = (a.length : Int) + (([] : List Int).length : Int) by rw [hx]; simp), by simp⟩
  rintro P k ⟨e1, e2, rfl, rfl, hv⟩ ih
  simp only [List.length_append] at g3 g4 hy bd
  refine ⟨fun z => h0 ?_, fun z => ⟨fun z2 => absurd z2 (by omega), fun _ => ⟨⟨by omega, by omega⟩, ?_⟩⟩⟩
  · have : e2 = [] := List.length_eq_zero_iff.mp (by omega)
    subst this
    rw [List.append_nil]; exact hv
  · cases e2 with
    | nil => simp at hy; omega
    | cons c e2 =>
      have ec : σ.2.2.2 0 n ((a.length : Int) + e1.length) = c := by
        have := At_mid (a := a ++ e1) (b := e2 ++ b) (c := c) (by simpa using g2)
        rwa [List.length_append, show (((a.length + e1.length : Nat)) : Int) = (a.length : Int) + e1.length by omega] at this
      rw [ec]
      refine ⟨fun z3 => ⟨rng_small (by omega) (by omega), ih _ ⟨e1 ++ [c], e2, by simp, by simp only [List.length_append, List.length_cons, List.length_nil]; omega, ?_⟩ (by omega)⟩, fun z3 => h1 (by rw [z3]; simp)⟩
      intro hm
      rcases List.mem_append.mp hm with q | q
      · exact hv q
      · exact z3 (List.mem_singleton.mp q).symm
def rn1 (v w c : Int) : Int := if c = v then w else c
theorem replace_k {w : Int} {K2 : Sg → Prop} (h : RowL σ n (a ++ (e ++ b))) (hx : x = a.length) (hy : y = a.length + e.length) (k : ∀ σ', RowL σ' n (a ++ (e.map (rn1 v w) ++ b)) → Fq No (one n) No σ σ' → K2 σ') : wp5_W_replace σ n v w x y K2 := by
  have bd := h.bd
  have cn := capI_pos n
  simp only [List.length_append] at bd
  have e0 : max x 0 = x := Int.max_eq_left (by omega)
  unfold wp5_W_replace
  rw [e0]
  refine wl2_rule (fun (k : Int) (s : Sg) => ∃ e1 e2 : List Int, e = e1 ++ e2 ∧ k = (a.length : Int) + e1.length ∧ RowL s n (a ++ (e1.map (rn1 v w) ++ (e2 ++ b))) ∧ Fq No (one n) No σ s) (fun (k : Int) _ => (y - k).toNat) ?_ ⟨[], e, rfl, (show x = (a.length : Int) + (([] : List Int).length : Int) by rw [hx]; simp), by simpa using h, Fq.refl⟩
  rintro P k0 s ⟨e1, e2, rfl, rfl, hr, hf⟩ ih
  simp only [List.length_append] at hy bd
  have hr' := hr
  obtain ⟨g1, g2, g3, g4⟩ := hr'
  simp only [List.length_append, List.length_map] at g3 g4
  refine ⟨fun z => ?_, fun z => ⟨fun z2 => absurd z2 (by omega), fun _ => ⟨⟨by omega, by omega⟩, ?_⟩⟩⟩
  · have : e2 = [] := List.length_eq_zero_iff.mp (by omega)
    subst this
    exact k s (by simpa using hr) hf
  · cases e2 with
    | nil => simp at hy; omega
    | cons c e2 =>
      have ea : (((a ++ e1.map (rn1 v w)).length : Nat) : Int) = (a.length : Int) + e1.length := by simp only [List.length_append, List.length_map]; omega
      have ec : s.2.2.2 0 n ((a.length : Int) + e1.length) = c := by
        have := At_mid (a := a ++ e1.map (rn1 v w)) (b := e2 ++ b) (c := c) (by simpa using g2)
        rwa [ea] at this
      rw [ec]
      have nx : ∀ s', RowL s' n (a ++ ((e1 ++ [c]).map (rn1 v w) ++ (e2 ++ b))) → Fq No (one n) No σ s' → P ((a.length : Int) + e1.length + 1) s' := fun s' q1 q2 => ih _ _ ⟨e1 ++ [c], e2, by simp, by simp only [List.length_append, List.length_cons, List.length_nil]; omega, q1, q2⟩ (by omega)
      refine ⟨fun z3 => ⟨rng_small (by omega) (by omega), nx s ?_ hf⟩, fun z3 => ⟨rng_small (by omega) (by omega), nx _ ?_ (hf.trans fq_rowZ)⟩⟩
      · have : (e1 ++ [c]).map (rn1 v w) = e1.map (rn1 v w) ++ [c] := by rw [List.map_append]; simp [rn1, z3]
        rw [this]; simpa using hr
      · have : (e1 ++ [c]).map (rn1 v w) = e1.map (rn1 v w) ++ [w] := by rw [List.map_append]; simp [rn1, z3]
        rw [this]
        refine ⟨g1, ?_, ?_, ?_⟩
        · show At (uF (s.2.2.2 0) n (uZ (s.2.2.2 0 n) ((a.length : Int) + e1.length) w) n) 0 _
          rw [uF_eq]
          have g2' : At (s.2.2.2 0 n) 0 ((a ++ e1.map (rn1 v w)) ++ (c :: (e2 ++ b))) := by simpa using g2
          obtain ⟨a1, a2⟩ := At_app.mp g2'
          have a3 : At (uZ (s.2.2.2 0 n) ((a.length : Int) + e1.length) w) (0 + (((a ++ e1.map (rn1 v w)).length : Nat) : Int)) (w :: (e2 ++ b)) := ⟨by rw [ea, show (0 : Int) + ((a.length : Int) + e1.length) = (a.length : Int) + e1.length by omega]; exact uZ_eq, At_uZ (Or.inl (by omega)) a2.2⟩
          have := At_app.mpr ⟨At_uZ (i := (a.length : Int) + e1.length) (v := w) (Or.inr (by omega)) a1, a3⟩
          simpa using this
        · show s.2.2.1 0 n = _
          rw [g3]
          simp only [List.length_append, List.length_map, List.length_cons, List.length_nil]; omega
        · simp only [List.length_append, List.length_map, List.length_cons, List.length_nil] at g4 ⊢; omega
end A9
/-- the hasty DEAD: what of a row is left where t stands behind it -/
noncomputable def hdF (l : List Int) : List Int → List Int := SqF (X := List Int → List Int) (fun _ => []) (fun v e _ y t => if (100 ≤ v ∧ v ≤ 105) ∧ (v - 100) + 20 ∉ y t ++ t then y t else v :: (e ++ y t)) (fun _ y t => 111 :: y t)
  (fun tt a b _ _ _ y z w t => (112 :: tt :: (a ++ (b ++ (y (113 :: (z (114 :: (w t ++ t)) ++ (114 :: (w t ++ t)))) ++ (113 :: (z (114 :: (w t ++ t)) ++ [114])))))) ++ w t)
  (fun tt a b _ _ y w t => (115 :: tt :: (a ++ (b ++ (y (114 :: (w t ++ t)) ++ [114])))) ++ w t) l
theorem hdF_nil {t : List Int} : hdF [] t = [] := congrFun SqF_nil t
theorem hdF_set {v : Int} {e r t : List Int} (hv : setC v ∨ v = 110) (he : Ex lfR e) (hr : Sq r) : hdF (v :: (e ++ r)) t = if (100 ≤ v ∧ v ≤ 105) ∧ (v - 100) + 20 ∉ hdF r t ++ t then hdF r t else v :: (e ++ hdF r t) := congrFun (SqF_set hv he hr) t
theorem hdF_fail {r t : List Int} (hr : Sq r) : hdF (111 :: r) t = 111 :: hdF r t := congrFun (SqF_fail hr) t
theorem hdF_if {tt : Int} {a b B C r t : List Int} (ht : testC tt) (ha : Ex lfR a) (hb : Ex lfR b) (hB : Sq B) (hC : Sq C) (hr : Sq r) : hdF ((112 :: tt :: (a ++ (b ++ (B ++ (113 :: (C ++ [114])))))) ++ r) t = (112 :: tt :: (a ++ (b ++ (hdF B (113 :: (hdF C (114 :: (hdF r t ++ t)) ++ (114 :: (hdF r t ++ t)))) ++ (113 :: (hdF C (114 :: (hdF r t ++ t)) ++ [114])))))) ++ hdF r t := congrFun (SqF_if ht ha hb hB hC hr) t
theorem hdF_wh {tt : Int} {a b B r t : List Int} (ht : testC tt) (ha : Ex lfR a) (hb : Ex lfR b) (hB : Sq B) (hr : Sq r) : hdF ((115 :: tt :: (a ++ (b ++ (B ++ [114])))) ++ r) t = (115 :: tt :: (a ++ (b ++ (hdF B (114 :: (hdF r t ++ t)) ++ [114])))) ++ hdF r t := congrFun (SqF_wh ht ha hb hB hr) t
/-- a segment, from its end to its beginning, where t stands behind it -/
def Hd2 (n : Int) (t l l1 : List Int) : Prop := ∀ (K : Sg → Prop) (L : Int → Sg → Prop), (∀ k s, wp5_A_hastyDead_7 K n L k s → L k s) → ∀ (σ : Sg) (a : List Int), RowL σ n (a ++ (l ++ t)) → (∀ σ', RowL σ' n (a ++ (l1 ++ t)) → Fq No (one n) No σ σ' → L ((a.length : Int) - 1) σ') → L ((a.length : Int) + l.length - 1) σ
theorem Hd2.app {n : Int} {t x x1 y y1 : List Int} (hx : Hd2 n (y1 ++ t) x x1) (hy : Hd2 n t y y1) : Hd2 n t (x ++ y) (x1 ++ y1) := by
  intro K L hL σ a hr h
  have e : (a.length : Int) + (x ++ y).length - 1 = (a ++ x).length + y.length - 1 := by simp only [List.length_append]; omega
  rw [e]
  refine hy K L hL σ (a ++ x) (by simpa using hr) (fun σ' hr' f => ?_)
  have e2 : (((a ++ x).length : Nat) : Int) - 1 = a.length + x.length - 1 := by simp only [List.length_append]; omega
  rw [e2]
  exact hx K L hL σ' a (by simpa using hr') (fun σ'' hr'' f' => h σ'' (by simpa using hr'') (f.trans f'))
theorem Hd2_no {n c : Int} {t : List Int} (h : ¬ (100 ≤ c ∧ c ≤ 105)) : Hd2 n t [c] [c] := by
  intro K L hL σ a hr k
  have bd := hr.bd
  simp only [List.length_append, List.length_cons, List.length_nil] at bd
  have e : (a.length : Int) + ([c] : List Int).length - 1 = a.length := by simp only [List.length_cons, List.length_nil]; omega
  rw [e]
  refine hL _ _ ⟨fun z => absurd z (by omega), fun _ => cell_mid (b := t) hr rfl ⟨rng_small (by omega) (by omega), expressionEnd_any hr (by omega) (by omega) (fun r _ _ => isSet_k (fun g => absurd g h) (fun _ => t0 ⟨rng_small (by omega) (by omega), k σ hr Fq.refl⟩))⟩⟩
theorem Hd2_skip {n : Int} : ∀ {e t : List Int}, (∀ c ∈ e, ¬ (100 ≤ c ∧ c ≤ 105)) → Hd2 n t e e := by
  intro e
  induction e with
  | nil =>
    intro t _ K L hL σ a hr k
    have := k σ hr Fq.refl
    simpa using this
  | cons c e ih =>
    intro t h
    exact (Hd2_no (h c List.mem_cons_self)).app (ih (fun d hd => h d (List.mem_cons_of_mem _ hd)))
theorem Ex.noset {e : List Int} (h : Ex lfR e) : ∀ c ∈ e, ¬ (100 ≤ c ∧ c ≤ 105) := by
  intro c hc
  have := h.all c hc
  unfold lfR opC at this
  omega
theorem Hd2_sq {n : Int} : ∀ {l : List Int}, Sq l → ∀ t, Hd2 n t l (hdF l t) := by
  intro l hl
  refine Sq.ind (P := fun l => ∀ t, Hd2 n t l (hdF l t)) ?_ ?_ hl
  · intro t
    rw [hdF_nil]
    exact Hd2_skip (fun c hc => by cases hc)
  · intro s r hs hr ih t
    have one1 : ∀ {c : Int} {t : List Int}, ¬ (100 ≤ c ∧ c ≤ 105) → Hd2 n t [c] [c] := fun h => Hd2_no h
    rcases hs with ⟨v, e, hv, he, rfl⟩ | rfl | ⟨tt, x, y, B, C, ht, hx, hy, hB, hC, rfl⟩ | ⟨tt, x, y, B, ht, hx, hy, hB, rfl⟩
    · rw [List.cons_append, hdF_set hv he hr]
      -- the rest, then the expression, then the head
      have rest : Hd2 n t (e ++ r) (e ++ hdF r t) := (Hd2_skip he.noset).app (ih t)
      intro K L hL σ a hr0 k
      have bd := hr0.bd
      simp only [List.length_append, List.length_cons] at bd
      have e0 : (a.length : Int) + ((v :: (e ++ r) : List Int).length : Int) - 1 = (a ++ [v]).length + (e ++ r).length - 1 := by simp only [List.length_cons, List.length_append, List.length_nil]; omega
      rw [e0]
      refine rest K L hL σ (a ++ [v]) (by simpa using hr0) (fun σ1 hr1 f1 => ?_)
      have e2 : (((a ++ [v]).length : Nat) : Int) - 1 = a.length := by simp only [List.length_append, List.length_cons, List.length_nil]; omega
      rw [e2]
      have hr2 : RowL σ1 n (a ++ v :: (e ++ (hdF r t ++ t))) := by simpa using hr1
      have len2 := hr2.2.2.1
      have bd2 := hr2.bd
      simp only [List.length_append, List.length_cons] at len2 bd2
      refine hL _ _ ⟨fun z => absurd z (by omega), fun _ => cell_mid (b := _) hr2 rfl ⟨rng_small (by omega) (by omega), ?_⟩⟩
      refine expressionEnd_k (a := a ++ [v]) (e := e) (b := hdF r t ++ t) (by simpa using hr2) he (by simp only [List.length_append, List.length_cons, List.length_nil]; omega) ?_
      refine isSet_k (fun g => t1 ⟨rng_small (by omega) (by omega), ?_⟩) (fun g => t0 ⟨rng_small (by omega) (by omega), k σ1 (by rw [if_neg (fun q => g q.1)]; simpa using hr2) f1⟩)
      refine has_k (a := a ++ v :: e) (e := hdF r t ++ t) (b := []) (by simpa using hr2) (by simp only [List.length_append, List.length_cons, List.length_nil]; omega) (by rw [len2]; simp only [List.length_append, List.length_cons]; omega) (fun hm => u1 ⟨rng_small (by omega) (by omega), k σ1 (by rw [if_neg (fun q => q.2 hm)]; simpa using hr2) f1⟩) (fun hm => u0 ?_)
      refine remove_k (a := a) (e := v :: e) (b := hdF r t ++ t) (by simpa using hr2) rfl (by simp only [List.length_append, List.length_cons, List.length_nil]; omega) (fun σ2 hr3 f2 => ⟨rng_small (by omega) (by omega), k σ2 ?_ (f1.trans f2)⟩)
      rw [if_pos ⟨g, hm⟩]; exact hr3
    · rw [List.cons_append, List.nil_append, hdF_fail hr]
      exact (Hd2_no (c := 111) (by omega)).app (ih t)
    · rw [hdF_if ht hx hy hB.1 hC.1 hr]
      unfold testC at ht
      refine Hd2.app ?_ (ih t)
      have q1 := hB.2 (113 :: (hdF C (114 :: (hdF r t ++ t)) ++ (114 :: (hdF r t ++ t))))
      have q2 := hC.2 (114 :: (hdF r t ++ t))
      have w1 : Hd2 n (hdF r t ++ t) (C ++ [114]) (hdF C (114 :: (hdF r t ++ t)) ++ [114]) := Hd2.app q2 (Hd2_no (c := 114) (by omega))
      have w2 : Hd2 n (hdF r t ++ t) (113 :: (C ++ [114])) (113 :: (hdF C (114 :: (hdF r t ++ t)) ++ [114])) := Hd2.app (x := [113]) (x1 := [113]) (Hd2_no (by omega)) w1
      have w3 : Hd2 n (hdF r t ++ t) (B ++ (113 :: (C ++ [114]))) (hdF B (113 :: (hdF C (114 :: (hdF r t ++ t)) ++ (114 :: (hdF r t ++ t)))) ++ (113 :: (hdF C (114 :: (hdF r t ++ t)) ++ [114]))) := Hd2.app (by simpa using q1) w2
      exact Hd2.app (x := [112]) (x1 := [112]) (Hd2_no (by omega)) (Hd2.app (x := [tt]) (x1 := [tt]) (Hd2_no (by omega)) ((Hd2_skip hx.noset).app ((Hd2_skip hy.noset).app w3)))
    · rw [hdF_wh ht hx hy hB.1 hr]
      unfold testC at ht
      refine Hd2.app ?_ (ih t)
      have q1 := hB.2 (114 :: (hdF r t ++ t))
      have w3 : Hd2 n (hdF r t ++ t) (B ++ [114]) (hdF B (114 :: (hdF r t ++ t)) ++ [114]) := Hd2.app q1 (Hd2_no (c := 114) (by omega))
      exact Hd2.app (x := [115]) (x1 := [115]) (Hd2_no (by omega)) (Hd2.app (x := [tt]) (x1 := [tt]) (Hd2_no (by omega)) ((Hd2_skip hx.noset).app ((Hd2_skip hy.noset).app w3)))
theorem hastyDead_k {σ : Sg} {n : Int} {l : List Int} {K : Sg → Prop} (h : RowL σ n l) (hl : Sq l) (k : ∀ σ', RowL σ' n (hdF l []) → Fq No (one n) No σ σ' → K σ') : wp5_A_hastyDead σ n K := by
  have bd := h.bd
  unfold wp5_A_hastyDead
  rw [h.2.2.1]
  refine ⟨rng_small (by omega) (by omega), fun L hL => ?_⟩
  have key := Hd2_sq hl [] K L hL σ [] (by simpa using h) (fun σ' hr f => hL _ _ ⟨fun _ => k σ' (by simpa using hr) f, fun z => ?_⟩)
  · have e : ((([] : List Int).length : Nat) : Int) + l.length - 1 = l.length - 1 := by simp only [List.length_nil]; omega
    rw [e] at key
    exact key
  · simp only [List.length_nil] at z; omega
