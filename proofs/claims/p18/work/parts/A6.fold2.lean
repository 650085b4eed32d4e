-- ===== FOLD in the class: branches
def C2 (n : Int) (l l1 : List Int) : Prop := ∀ (K : Sg → Prop) (L : Int → Sg → Prop), (∀ k s, wp5_A_fold_12 K n L k s → L k s) → ∀ (σ : Sg) (a t : List Int), RowL σ n (a ++ (l ++ t)) → (∀ σ', RowL σ' n (a ++ (l1 ++ t)) → Fq No (one n) No σ σ' → L ((a.length : Int) - 1) σ') → L ((a.length : Int) + l.length - 1) σ
theorem C2.app {n : Int} {x x1 y y1 : List Int} (hx : C2 n x x1) (hy : C2 n y y1) : C2 n (x ++ y) (x1 ++ y1) := by
  intro K L hL σ a t hr h
  have e : (a.length : Int) + (x ++ y).length - 1 = (a ++ x).length + y.length - 1 := by simp only [List.length_append]; omega
  rw [e]
  refine hy K L hL σ (a ++ x) t (by simpa using hr) (fun σ' hr' f => ?_)
  have e2 : (((a ++ x).length : Nat) : Int) - 1 = a.length + x.length - 1 := by simp only [List.length_append]; omega
  rw [e2]
  exact hx K L hL σ' a (y1 ++ t) (by simpa using hr') (fun σ'' hr'' f' => h σ'' (by simpa using hr'') (f.trans f'))
theorem isNumber_any {c : Int} {K : Int → Prop} (k : ∀ r, K r) : wp5_W_isNumber c K := isNumber_k (fun _ => k _) (fun _ => k _)
theorem ifs {r : Int} {A B : Prop} (a : A) (b : B) : (r = 0 → A) ∧ (r ≠ 0 → B) := ⟨fun _ => a, fun _ => b⟩
theorem C2_no {n c : Int} (h1 : c ≠ 112) (h2 : c ≠ 115) : C2 n [c] [c] := by
  intro K L hL σ a t hr k
  have bd := hr.bd
  simp only [List.length_append, List.length_cons, List.length_nil] at bd
  have e : (a.length : Int) + ([c] : List Int).length - 1 = a.length := by simp only [List.length_cons, List.length_nil]; omega
  rw [e]
  have last : ∀ s, wp5_A_fold_47 n a.length σ L s := fun s => cell_mid (b := t) hr rfl (isBranch_k (fun z => absurd z (by omega)) (fun _ _ => t0 ⟨rng_small (by omega) (by omega), k σ hr Fq.refl⟩))
  exact hL _ _ ⟨fun z => absurd z (by omega), fun _ => ⟨rng_small (by omega) (by omega), cell_any hr (fun r => isNumber_any (fun r2 => ifs (last 0) ⟨rng_small (by omega) (by omega), cell_any hr (fun r3 => isNumber_any (fun r4 => ifs (last 0) (last 1)))⟩))⟩⟩
theorem C2_skip {n : Int} : ∀ {e : List Int}, (∀ c ∈ e, c ≠ 112 ∧ c ≠ 115) → C2 n e e := by
  intro e
  induction e with
  | nil =>
    intro _ K L hL σ a t hr k
    have := k σ hr Fq.refl
    simpa using this
  | cons c e ih =>
    intro h
    exact (C2_no (h c List.mem_cons_self).1 (h c List.mem_cons_self).2).app (ih (fun d hd => h d (List.mem_cons_of_mem _ hd)))
theorem C2_ex {n : Int} {e : List Int} (he : Ex lfR e) : C2 n e e := C2_skip (fun c hc => ⟨(he.no c hc).1, (he.no c hc).2.1⟩)
theorem Ex.hd {e : List Int} (h : Ex lfR e) : HdN e := by
  rcases h.cases with ⟨c, hc, rfl⟩ | ⟨o, a, b, ho, _, _, rfl⟩
  · by_cases z : 0 ≤ c ∧ c ≤ 15
    · exact Or.inl ⟨c, z, rfl⟩
    · exact Or.inr ⟨c, [], z, rfl⟩
  · exact Or.inr ⟨o, a ++ b, by unfold opC at ho; omega, rfl⟩
theorem fo2L_sq : ∀ {l : List Int}, Sq l → Sq (fo2L l) ∧ (fo2L l).length ≤ l.length := by
  intro l hl
  refine Sq.ind (P := fun l => Sq (fo2L l) ∧ (fo2L l).length ≤ l.length) ?_ ?_ hl
  · have : fo2L [] = [] := SqM_nil
    rw [this]; exact ⟨Sq.nil, Nat.le_refl _⟩
  · intro s r hs hr ih
    have hs' := hs.mono (T := Sq) (fun _ h => h.1)
    have e0 : fo2L (s ++ r) = fo2L s ++ fo2L r := SqM_cons hs' hr
    have key : Sq (fo2L s) ∧ (fo2L s).length ≤ s.length := by
      rcases hs with ⟨v, e, hv, he, rfl⟩ | rfl | ⟨t, a, b, B, C, ht, ha, hb, hB, hC, rfl⟩ | ⟨t, a, b, B, ht, ha, hb, hB, rfl⟩
      · have e1 : fo2L (v :: e) = v :: e := SqM_set hv he
        rw [e1]; exact ⟨Sq.one (Or.inl ⟨v, e, hv, he, rfl⟩), Nat.le_refl _⟩
      · have e1 : fo2L [111] = [111] := SqM_fail
        rw [e1]; exact ⟨Sq.one (Or.inr (Or.inl rfl)), Nat.le_refl _⟩
      · have e5 : fo2L (112 :: t :: (a ++ (b ++ (B ++ (113 :: (C ++ [114])))))) = (if known a b = true then (if soR t a b = true then fo2L B else fo2L C) else 112 :: t :: (a ++ (b ++ (fo2L B ++ (113 :: (fo2L C ++ [114])))))) := SqM_if ht ha hb hB.1 hC.1
        rw [e5, len_if]
        split
        · split
          · exact ⟨hB.2.1, by have := hB.2.2; omega⟩
          · exact ⟨hC.2.1, by have := hC.2.2; omega⟩
        · refine ⟨Sq.one (Or.inr (Or.inr (Or.inl ⟨t, a, b, _, _, ht, ha, hb, hB.2.1, hC.2.1, rfl⟩))), ?_⟩
          rw [len_if]
          have := hB.2.2; have := hC.2.2
          omega
      · have e5 : fo2L (115 :: t :: (a ++ (b ++ (B ++ [114])))) = (if known a b = true ∧ soR t a b = false then [] else 115 :: t :: (a ++ (b ++ (fo2L B ++ [114])))) := SqM_wh ht ha hb hB.1
        rw [e5, len_wh]
        split
        · exact ⟨Sq.nil, by simp⟩
        · refine ⟨Sq.one (Or.inr (Or.inr (Or.inr ⟨t, a, b, _, ht, ha, hb, hB.2.1, rfl⟩))), ?_⟩
          rw [len_wh]
          have := hB.2.2
          omega
    rw [e0, List.length_append, List.length_append]
    exact ⟨Sq.app key.1 ih.1, by omega⟩
theorem holds_k {t x y : Int} {K : Int → Prop} (h1 : holdR t x y = true → K 1) (h0 : holdR t x y = false → K 0) : wp5_W_holds t x y K := by
  unfold holdR at h1 h0
  unfold wp5_W_holds
  refine ⟨fun z => ⟨fun z2 => ?_, fun z2 => ?_⟩, fun z => ?_⟩
  · rw [if_neg z, if_neg z2] at h1 h0
    exact ⟨fun q => h0 (decide_eq_false (by omega)), fun q => h1 (decide_eq_true q)⟩
  · rw [if_neg z, if_pos z2] at h1 h0
    exact ⟨fun q => h0 (decide_eq_false q), fun q => h1 (decide_eq_true q)⟩
  · rw [if_pos z] at h1 h0
    exact ⟨fun q => h0 (decide_eq_false (by omega)), fun q => h1 (decide_eq_true q)⟩
/-- the step at an if or a while whose inner parts are done -/
theorem br_step {n : Int} {K : Sg → Prop} {L : Int → Sg → Prop} (hL : ∀ k s, wp5_A_fold_12 K n L k s → L k s) {σ : Sg} {a x y : List Int} {c tt : Int} {R : List Int} (hc : c = 112 ∨ c = 115) (hx : Ex lfR x) (hy : Ex lfR y) (hr : RowL σ n (a ++ c :: tt :: (x ++ (y ++ R))))
    (k0 : known x y = false → L ((a.length : Int) - 1) σ)
    (k1 : ∀ u w, x = [u] → y = [w] → known x y = true → ∀ z, (z = 0 ∨ z = 1) → (z = 1 ↔ soR tt x y = true) → wp5_A_foldBranch σ n a.length z (fun s => rng ((a.length : Int) - 1) ∧ L ((a.length : Int) - 1) s)) : L (a.length : Int) σ := by
  have bd := hr.bd
  simp only [List.length_append, List.length_cons] at bd
  have gd : rng ((a.length : Int) - 1) := rng_small (by omega) (by omega)
  have l0 : known x y = false → wp5_A_fold_47 n a.length σ L 0 := fun z => cell_mid (b := tt :: (x ++ (y ++ R))) hr rfl (isBranch_k (fun _ => t1 ⟨fun _ => ⟨gd, k0 z⟩, fun z => absurd rfl z⟩) (fun z1 z2 => absurd hc (by omega)))
  have c2 : ∀ {K : Int → Prop}, K (x.headD 0) → wp5_W_cell σ n ((a.length : Int) + 2) K := fun h => by
    rcases hx.hd with ⟨u, _, rfl⟩ | ⟨u, q, _, rfl⟩
    · exact cell_mid (a := a ++ [c, tt]) (c := u) (b := y ++ R) (by simpa using hr) (by simp only [List.length_append, List.length_cons, List.length_nil]; omega) h
    · exact cell_mid (a := a ++ [c, tt]) (c := u) (b := q ++ (y ++ R)) (by simpa using hr) (by simp only [List.length_append, List.length_cons, List.length_nil]; omega) h
  refine hL _ _ ⟨fun z => absurd z (by omega), fun _ => ⟨rng_small (by omega) (by omega), c2 ?_⟩⟩
  rcases hx.hd with ⟨u, hu, rfl⟩ | ⟨u, q, hu, rfl⟩
  · have c3 : ∀ {K : Int → Prop}, K (y.headD 0) → wp5_W_cell σ n ((a.length : Int) + 3) K := fun h => by
      rcases hy.hd with ⟨w, _, rfl⟩ | ⟨w, q, _, rfl⟩
      · exact cell_mid (a := a ++ [c, tt, u]) (c := w) (b := R) (by simpa using hr) (by simp only [List.length_append, List.length_cons, List.length_nil]; omega) h
      · exact cell_mid (a := a ++ [c, tt, u]) (c := w) (b := q ++ R) (by simpa using hr) (by simp only [List.length_append, List.length_cons, List.length_nil]; omega) h
    refine isNumber_k (fun _ => t1 ⟨rng_small (by omega) (by omega), c3 ?_⟩) (fun g => absurd hu g)
    rcases hy.hd with ⟨w, hw, rfl⟩ | ⟨w, q, hw, rfl⟩
    · have kn : known [u] [w] = true := by unfold known; rw [nm1_of hu, nm1_of hw]; rfl
      refine isNumber_k (fun _ => t1 ?_) (fun g => absurd hw g)
      refine cell_mid (b := tt :: ([u] ++ ([w] ++ R))) hr rfl (isBranch_k (fun _ => t1 ⟨fun z => absurd z (by decide), fun _ => ⟨rng_small (by omega) (by omega), ?_⟩⟩) (fun z1 z2 => absurd hc (by omega)))
      refine cell_mid (a := a ++ [c]) (c := tt) (b := [u] ++ ([w] ++ R)) (by simpa using hr) (by simp only [List.length_append, List.length_cons, List.length_nil]; omega) ?_
      refine c2 ⟨rng_small (by omega) (by omega), c3 ?_⟩
      refine holds_k (fun h => k1 u w rfl rfl kn 1 (Or.inr rfl) ⟨fun _ => h, fun _ => rfl⟩) (fun h => k1 u w rfl rfl kn 0 (Or.inl rfl) ⟨fun z => absurd z (by decide), fun z => ?_⟩)
      have : soR tt [u] [w] = false := h
      rw [this] at z; cases z
    · exact isNumber_k (fun g => absurd g hw) (fun _ => t0 (l0 (by unfold known; rw [nm1_ff hw, Bool.and_false])))
  · exact isNumber_k (fun g => absurd g hu) (fun _ => t0 (l0 (by unfold known; rw [nm1_ff hu, Bool.false_and])))
theorem C2_sq {n : Int} : ∀ {l : List Int}, Sq l → C2 n l (fo2L l) := by
  intro l hl
  refine Sq.ind (P := fun l => C2 n l (fo2L l)) ?_ ?_ hl
  · have : fo2L [] = [] := SqM_nil
    rw [this]
    exact C2_skip (fun c hc => by cases hc)
  · intro s r hs hr ih
    have hs' := hs.mono (T := Sq) (fun _ h => h.1)
    have e0 : fo2L (s ++ r) = fo2L s ++ fo2L r := SqM_cons hs' hr
    rw [e0]
    refine C2.app ?_ ih
    rcases hs with ⟨v, e, hv, he, rfl⟩ | rfl | ⟨t, x, y, B, C, ht, hx, hy, hB, hC, rfl⟩ | ⟨t, x, y, B, ht, hx, hy, hB, rfl⟩
    · have e1 : fo2L (v :: e) = v :: e := SqM_set hv he
      rw [e1]
      exact (C2_no (n := n) (c := v) (by unfold setC at hv; omega) (by unfold setC at hv; omega)).app (C2_ex he)
    · have e1 : fo2L [111] = [111] := SqM_fail
      rw [e1]
      exact C2_no (by decide) (by decide)
    · have e5 : fo2L (112 :: t :: (x ++ (y ++ (B ++ (113 :: (C ++ [114])))))) = (if known x y = true then (if soR t x y = true then fo2L B else fo2L C) else 112 :: t :: (x ++ (y ++ (fo2L B ++ (113 :: (fo2L C ++ [114])))))) := SqM_if ht hx hy hB.1 hC.1
      rw [e5]
      intro K L hL σ a tl hr k
      have bd := hr.bd
      simp only [List.length_append] at bd
      rw [len_if] at bd
      -- all but the head
      have ht' := ht
      unfold testC at ht'
      have inner : C2 n (t :: (x ++ (y ++ (B ++ (113 :: (C ++ [114])))))) (t :: (x ++ (y ++ (fo2L B ++ (113 :: (fo2L C ++ [114])))))) := (C2_no (n := n) (c := t) (by omega) (by omega)).app ((C2_ex hx).app ((C2_ex hy).app (hB.2.app ((C2_no (n := n) (c := 113) (by decide) (by decide)).app (hC.2.app (C2_no (n := n) (c := 114) (by decide) (by decide)))))))
      have e0 : (a.length : Int) + ((112 :: t :: (x ++ (y ++ (B ++ (113 :: (C ++ [114])))))) : List Int).length - 1 = (a ++ [112]).length + ((t :: (x ++ (y ++ (B ++ (113 :: (C ++ [114])))))) : List Int).length - 1 := by simp only [List.length_cons, List.length_append, List.length_nil]; omega
      rw [e0]
      refine inner K L hL σ (a ++ [112]) tl (by simpa using hr) (fun σ1 hr1 f1 => ?_)
      have e2 : (((a ++ [112]).length : Nat) : Int) - 1 = a.length := by simp only [List.length_append, List.length_cons, List.length_nil]; omega
      rw [e2]
      have hr2 : RowL σ1 n (a ++ 112 :: t :: (x ++ (y ++ (fo2L B ++ (113 :: (fo2L C ++ (114 :: tl))))))) := by simpa using hr1
      have hs2 : RowL σ1 n (a ++ ((112 :: t :: (x ++ (y ++ (fo2L B ++ (113 :: (fo2L C ++ [114])))))) ++ tl)) := by simpa using hr2
      have qB := fo2L_sq hB.1
      have qC := fo2L_sq hC.1
      have bd2 := hs2.bd
      simp only [List.length_append] at bd2
      rw [len_if] at bd2
      refine br_step hL (Or.inl rfl) hx hy hr2 (fun kf => ?_) (fun u w hu hw kt z hz hso => ?_)
      · refine k σ1 ?_ f1
        rw [kf, if_neg (by decide)]; exact hs2
      · have gd : rng ((a.length : Int) - 1) := rng_small (by omega) (by omega)
        unfold wp5_A_foldBranch
        refine closeOf_k hs2 (Or.inl ⟨t, x, y, _, _, ht, hx, hy, qB.1, qC.1, rfl⟩) rfl (cell_mid (b := _) hr2 rfl ⟨fun _ => ?_, fun z => absurd z (by decide)⟩)
        refine elseOf_k hs2 ht hx hy qB.1 rfl ?_
        rw [len_if]
        subst hu; subst hw
        simp only [List.length_cons, List.length_nil]
        refine ⟨fun z0 => ⟨rng_small (by omega) (by omega), ?_⟩, fun z1 => ⟨rng_small (by omega) (by omega), ?_⟩⟩
        · -- the test fails: what stands behind else
          have hf : soR t [u] [w] = false := by
            cases q : soR t [u] [w] with
            | false => rfl
            | true => have := hso.mpr q; omega
          refine remove_k (a := a ++ (112 :: t :: u :: w :: (fo2L B ++ (113 :: fo2L C)))) (e := [114]) (b := tl) (by simpa using hr2) (by simp only [List.length_append, List.length_cons]; omega) (by simp only [List.length_append, List.length_cons, List.length_nil]; omega) (fun σ2 hr3 f2 => ⟨rng_small (by omega) (by omega), ?_⟩)
          refine remove_k (a := a) (e := 112 :: t :: u :: w :: (fo2L B ++ [113])) (b := fo2L C ++ tl) (by simpa using hr3) rfl (by simp only [List.length_append, List.length_cons, List.length_nil]; omega) (fun σ3 hr4 f3 => ⟨gd, k σ3 ?_ (f1.trans (f2.trans f3))⟩)
          rw [kt, if_pos rfl, hf, if_neg (by decide)]; exact hr4
        · have hf : soR t [u] [w] = true := hso.mp (by omega)
          refine remove_k (a := a ++ (112 :: t :: u :: w :: fo2L B)) (e := 113 :: (fo2L C ++ [114])) (b := tl) (by simpa using hr2) (by simp only [List.length_append, List.length_cons]; omega) (by simp only [List.length_append, List.length_cons, List.length_nil]; omega) (fun σ2 hr3 f2 => ⟨rng_small (by omega) (by omega), ?_⟩)
          refine remove_k (a := a) (e := [112, t, u, w]) (b := fo2L B ++ tl) (by simpa using hr3) rfl (by simp only [List.length_cons, List.length_nil]; omega) (fun σ3 hr4 f3 => ⟨gd, k σ3 ?_ (f1.trans (f2.trans f3))⟩)
          rw [kt, if_pos rfl, hf, if_pos rfl]; exact hr4
    · have e5 : fo2L (115 :: t :: (x ++ (y ++ (B ++ [114])))) = (if known x y = true ∧ soR t x y = false then [] else 115 :: t :: (x ++ (y ++ (fo2L B ++ [114])))) := SqM_wh ht hx hy hB.1
      rw [e5]
      intro K L hL σ a tl hr k
      have bd := hr.bd
      simp only [List.length_append] at bd
      rw [len_wh] at bd
      have ht' := ht
      unfold testC at ht'
      have inner : C2 n (t :: (x ++ (y ++ (B ++ [114])))) (t :: (x ++ (y ++ (fo2L B ++ [114])))) := (C2_no (n := n) (c := t) (by omega) (by omega)).app ((C2_ex hx).app ((C2_ex hy).app (hB.2.app (C2_no (n := n) (c := 114) (by decide) (by decide)))))
      have e0 : (a.length : Int) + ((115 :: t :: (x ++ (y ++ (B ++ [114])))) : List Int).length - 1 = (a ++ [115]).length + ((t :: (x ++ (y ++ (B ++ [114])))) : List Int).length - 1 := by simp only [List.length_cons, List.length_append, List.length_nil]; omega
      rw [e0]
      refine inner K L hL σ (a ++ [115]) tl (by simpa using hr) (fun σ1 hr1 f1 => ?_)
      have e2 : (((a ++ [115]).length : Nat) : Int) - 1 = a.length := by simp only [List.length_append, List.length_cons, List.length_nil]; omega
      rw [e2]
      have hr2 : RowL σ1 n (a ++ 115 :: t :: (x ++ (y ++ (fo2L B ++ (114 :: tl))))) := by simpa using hr1
      have hs2 : RowL σ1 n (a ++ ((115 :: t :: (x ++ (y ++ (fo2L B ++ [114])))) ++ tl)) := by simpa using hr2
      have qB := fo2L_sq hB.1
      have bd2 := hs2.bd
      simp only [List.length_append] at bd2
      rw [len_wh] at bd2
      have gd : rng ((a.length : Int) - 1) := rng_small (by omega) (by omega)
      refine br_step hL (Or.inr rfl) hx hy hr2 (fun kf => ?_) (fun u w hu hw kt z hz hso => ?_)
      · refine k σ1 ?_ f1
        rw [kf, if_neg (by simp)]; exact hs2
      · unfold wp5_A_foldBranch
        refine closeOf_k hs2 (Or.inr ⟨t, x, y, _, ht, hx, hy, qB.1, rfl⟩) rfl (cell_mid (b := _) hr2 rfl ⟨fun z => absurd rfl z, fun _ => ⟨fun z1 => ⟨gd, k σ1 ?_ f1⟩, fun z0 => ?_⟩⟩)
        · have hf : soR t x y = true := hso.mp (by omega)
          rw [hf, if_neg (by simp)]; exact hs2
        · have hf : soR t x y = false := by
            cases q : soR t x y with
            | false => rfl
            | true => have := hso.mpr q; omega
          rw [len_wh]
          refine ⟨rng_small (by omega) (by omega), remove_k (a := a) (e := 115 :: t :: (x ++ (y ++ (fo2L B ++ [114])))) (b := tl) hs2 rfl (by rw [len_wh]; omega) (fun σ2 hr3 f2 => ⟨gd, k σ2 ?_ (f1.trans f2)⟩)⟩
          rw [kt, hf, if_pos ⟨rfl, rfl⟩]; exact hr3
theorem fold_k {σ : Sg} {n : Int} {l : List Int} {K : Sg → Prop} (h : RowL σ n l) (hl : Sq l) (k : ∀ σ', RowL σ' n (foF l) → Fq No (one n) No σ σ' → K σ') : wp5_A_fold σ n K := by
  unfold wp5_A_fold
  refine foldOps_k h hl (fun σ1 h1 f1 => ?_)
  have bd := h1.bd
  rw [h1.2.2.1]
  refine ⟨rng_small (by omega) (by omega), fun L hL => ?_⟩
  have key := C2_sq (fo1L_sq hl).1 K L hL σ1 [] [] (by simpa using h1) (fun σ' hr f => hL _ _ ⟨fun _ => k σ' (by rw [← fo21 hl]; simpa using hr) (f1.trans f), fun z => ?_⟩)
  · have e : ((([] : List Int).length : Nat) : Int) + (fo1L l).length - 1 = (fo1L l).length - 1 := by simp only [List.length_nil]; omega
    rw [e] at key
    exact key
  · simp only [List.length_nil] at z; omega
