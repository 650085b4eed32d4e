-- ===== passes that go statement by statement
section SM
variable (sf : Int → List Int → List Int) (jf : Int → List Int → List Int → List Int → List Int → List Int → List Int → List Int) (wf : Int → List Int → List Int → List Int → List Int → List Int)
noncomputable def SqM (l : List Int) : List Int := SqF [] (fun v e _ w => sf v e ++ w) (fun _ w => 111 :: w) (fun t a b B C _ y z w => jf t a b B C y z ++ w) (fun t a b B _ y w => wf t a b B y ++ w) l
variable {sf jf wf}
theorem SqM_nil : SqM sf jf wf [] = [] := SqF_nil
theorem SqM_setr {v : Int} {e r : List Int} (hv : setC v ∨ v = 110) (he : Ex lfR e) (hr : Sq r) : SqM sf jf wf (v :: (e ++ r)) = sf v e ++ SqM sf jf wf r := SqF_set hv he hr
theorem SqM_failr {r : List Int} (hr : Sq r) : SqM sf jf wf (111 :: r) = 111 :: SqM sf jf wf r := SqF_fail hr
theorem SqM_ifr {t : Int} {a b B C r : List Int} (ht : testC t) (ha : Ex lfR a) (hb : Ex lfR b) (hB : Sq B) (hC : Sq C) (hr : Sq r) : SqM sf jf wf ((112 :: t :: (a ++ (b ++ (B ++ (113 :: (C ++ [114])))))) ++ r) = jf t a b B C (SqM sf jf wf B) (SqM sf jf wf C) ++ SqM sf jf wf r := SqF_if ht ha hb hB hC hr
theorem SqM_whr {t : Int} {a b B r : List Int} (ht : testC t) (ha : Ex lfR a) (hb : Ex lfR b) (hB : Sq B) (hr : Sq r) : SqM sf jf wf ((115 :: t :: (a ++ (b ++ (B ++ [114])))) ++ r) = wf t a b B (SqM sf jf wf B) ++ SqM sf jf wf r := SqF_wh ht ha hb hB hr
theorem SqM_set {v : Int} {e : List Int} (hv : setC v ∨ v = 110) (he : Ex lfR e) : SqM sf jf wf (v :: e) = sf v e := by
  have := SqM_setr (sf := sf) (jf := jf) (wf := wf) hv he Sq.nil
  rwa [List.append_nil, SqM_nil, List.append_nil] at this
theorem SqM_fail : SqM sf jf wf [111] = [111] := by
  have := SqM_failr (sf := sf) (jf := jf) (wf := wf) Sq.nil
  rwa [SqM_nil] at this
theorem SqM_if {t : Int} {a b B C : List Int} (ht : testC t) (ha : Ex lfR a) (hb : Ex lfR b) (hB : Sq B) (hC : Sq C) : SqM sf jf wf (112 :: t :: (a ++ (b ++ (B ++ (113 :: (C ++ [114])))))) = jf t a b B C (SqM sf jf wf B) (SqM sf jf wf C) := by
  have := SqM_ifr (sf := sf) (jf := jf) (wf := wf) ht ha hb hB hC Sq.nil
  rwa [List.append_nil, SqM_nil, List.append_nil] at this
theorem SqM_wh {t : Int} {a b B : List Int} (ht : testC t) (ha : Ex lfR a) (hb : Ex lfR b) (hB : Sq B) : SqM sf jf wf (115 :: t :: (a ++ (b ++ (B ++ [114])))) = wf t a b B (SqM sf jf wf B) := by
  have := SqM_whr (sf := sf) (jf := jf) (wf := wf) ht ha hb hB Sq.nil
  rwa [List.append_nil, SqM_nil, List.append_nil] at this
theorem SqM_cons {s r : List Int} (hs : Sm Sq s) (hr : Sq r) : SqM sf jf wf (s ++ r) = SqM sf jf wf s ++ SqM sf jf wf r := by
  rcases hs with ⟨v, e, hv, he, rfl⟩ | rfl | ⟨t, a, b, B, C, ht, ha, hb, hB, hC, rfl⟩ | ⟨t, a, b, B, ht, ha, hb, hB, rfl⟩
  · rw [SqM_set hv he]; exact SqM_setr hv he hr
  · rw [SqM_fail]; exact SqM_failr hr
  · rw [SqM_if ht ha hb hB hC]; exact SqM_ifr ht ha hb hB hC hr
  · rw [SqM_wh ht ha hb hB]; exact SqM_whr ht ha hb hB hr
theorem SqM_app {l r : List Int} (hl : Sq l) (hr : Sq r) : SqM sf jf wf (l ++ r) = SqM sf jf wf l ++ SqM sf jf wf r := by
  refine Sq.ind (P := fun l => SqM sf jf wf (l ++ r) = SqM sf jf wf l ++ SqM sf jf wf r) ?_ ?_ hl
  · rw [SqM_nil]; rfl
  · intro s q hs hq ih
    have hs' := hs.mono (T := Sq) (fun _ h => h.1)
    rw [List.append_assoc, SqM_cons hs' (Sq.app hq hr), ih, SqM_cons hs' hq, List.append_assoc]
end SM
-- ===== FOLD: expressions
def fo1 (c : Int) (t : List Int) : List Int := match t with
  | x :: y :: r => if (120 ≤ c ∧ c ≤ 122) ∧ (0 ≤ x ∧ x ≤ 15) ∧ (0 ≤ y ∧ y ≤ 15) then opR c x y :: r else c :: x :: y :: r
  | [x] => [c, x]
  | [] => [c]
theorem fo1_no {c : Int} {t : List Int} (h : ¬ opC c) : fo1 c t = c :: t := by
  unfold opC at h
  match t with
  | [] => rfl
  | [x] => rfl
  | x :: y :: r => exact if_neg (fun z => h z.1)
theorem fo1_no1 {c x : Int} {t : List Int} (h : ¬ (0 ≤ x ∧ x ≤ 15)) : fo1 c (x :: t) = c :: x :: t := by
  match t with
  | [] => rfl
  | y :: r => exact if_neg (fun z => h z.2.1)
theorem fo1_no2 {c x y : Int} {t : List Int} (h : ¬ (0 ≤ y ∧ y ≤ 15)) : fo1 c (x :: y :: t) = c :: x :: y :: t := if_neg (fun z => h z.2.2)
theorem fo1_yes {c x y : Int} {t : List Int} (h1 : opC c) (h2 : 0 ≤ x ∧ x ≤ 15) (h3 : 0 ≤ y ∧ y ≤ 15) : fo1 c (x :: y :: t) = opR c x y :: t := if_pos ⟨h1, h2, h3⟩
def foE (e : List Int) : List Int := e.foldr fo1 []
def HdN (e : List Int) : Prop := (∃ c, (0 ≤ c ∧ c ≤ 15) ∧ e = [c]) ∨ ∃ c r, ¬ (0 ≤ c ∧ c ≤ 15) ∧ e = c :: r
theorem opR_rg (o x y : Int) : 0 ≤ opR o x y ∧ opR o x y ≤ 15 := by
  unfold opR
  split
  · exact ziand15 _
  · split
    · exact ziand15 _
    · exact ziand15 _
theorem foE_ex : ∀ {e : List Int}, Ex lfR e → ∃ e', Ex lfR e' ∧ e'.length ≤ e.length ∧ HdN e' ∧ ∀ t, e.foldr fo1 t = e' ++ t := by
  intro e he
  refine Ex.ind (P := fun e => ∃ e', Ex lfR e' ∧ e'.length ≤ e.length ∧ HdN e' ∧ ∀ t, e.foldr fo1 t = e' ++ t) ?_ ?_ he
  · intro c hc
    refine ⟨[c], Ex.leaf hc, Nat.le_refl _, ?_, fun t => fo1_no (lfR_no hc)⟩
    by_cases h : 0 ≤ c ∧ c ≤ 15
    · exact Or.inl ⟨c, h, rfl⟩
    · exact Or.inr ⟨c, [], h, rfl⟩
  · rintro o a b ho _ _ ⟨a', ea, la, na, fa⟩ ⟨b', eb, lb, nb, fb⟩
    have pa := ea.pos
    have pb := eb.pos
    have f : ∀ t, (o :: (a ++ b)).foldr fo1 t = fo1 o (a' ++ (b' ++ t)) := fun t => by
      rw [List.foldr_cons, List.foldr_append, fb, fa]
    have no : ¬ (0 ≤ o ∧ o ≤ 15) := by unfold opC at ho; omega
    rcases na with ⟨x, hx, rfl⟩ | ⟨x, q, hx, rfl⟩
    · rcases nb with ⟨y, hy, rfl⟩ | ⟨y, q, hy, rfl⟩
      · exact ⟨[opR o x y], Ex.leaf (Or.inl (opR_rg o x y)), by simp, Or.inl ⟨_, opR_rg o x y, rfl⟩, fun t => (f t).trans (fo1_yes ho hx hy)⟩
      · refine ⟨o :: ([x] ++ (y :: q)), Ex.op ho ea eb, by simp only [List.length_cons, List.length_append] at *; omega, Or.inr ⟨o, _, no, rfl⟩, fun t => (f t).trans (fo1_no2 hy)⟩
    · refine ⟨o :: ((x :: q) ++ b'), Ex.op ho ea eb, by simp only [List.length_cons, List.length_append] at *; omega, Or.inr ⟨o, _, no, rfl⟩, fun t => (f t).trans ((fo1_no1 hx).trans (by simp))⟩
theorem foE_is {e : List Int} (he : Ex lfR e) : Ex lfR (foE e) ∧ (foE e).length ≤ e.length ∧ HdN (foE e) ∧ ∀ t, e.foldr fo1 t = foE e ++ t := by
  obtain ⟨e', h1, h2, h3, h4⟩ := foE_ex he
  have : foE e = e' := by
    have := h4 []
    rwa [List.append_nil] at this
  rw [this]
  exact ⟨h1, h2, h3, h4⟩
theorem foE_op {o : Int} {a b : List Int} (ho : opC o) (ha : Ex lfR a) (hb : Ex lfR b) : foE (o :: (a ++ b)) = fo1 o (foE a ++ foE b) := by
  have h1 := (foE_is hb).2.2.2 []
  have h2 := (foE_is ha).2.2.2 (foE b)
  unfold foE at *
  rw [List.foldr_cons, List.foldr_append, h2]
def nm1 (e : List Int) : Bool := match e with
  | [c] => decide (0 ≤ c ∧ c ≤ 15)
  | _ => false
theorem nm1_t {e : List Int} (h : nm1 e = true) : ∃ c, (0 ≤ c ∧ c ≤ 15) ∧ e = [c] := by
  match e, h with
  | [c], h => exact ⟨c, of_decide_eq_true h, rfl⟩
theorem nm1_of {c : Int} (h : 0 ≤ c ∧ c ≤ 15) : nm1 [c] = true := decide_eq_true h
theorem nm1_f {e : List Int} (h : HdN e) (hn : nm1 e = false) : ∃ c r, ¬ (0 ≤ c ∧ c ≤ 15) ∧ e = c :: r := by
  rcases h with ⟨c, hc, rfl⟩ | h
  · rw [nm1_of hc] at hn; cases hn
  · exact h
theorem nm1_ff {c : Int} {r : List Int} (h : ¬ (0 ≤ c ∧ c ≤ 15)) : nm1 (c :: r) = false := by
  match r with
  | [] => exact decide_eq_false h
  | _ :: _ => rfl
/-- a test of two numbers -/
def holdR (t x y : Int) : Bool := if t = 130 then decide (x < y) else if t = 131 then decide (x = y) else decide (y < x)
def known (a b : List Int) : Bool := nm1 a && nm1 b
def soR (t : Int) (a b : List Int) : Bool := holdR t (a.headD 0) (b.headD 0)
/-- FOLD of rows -/
noncomputable def foF (l : List Int) : List Int := SqM (fun v e => v :: foE e) (fun t a b _ _ y z => if known (foE a) (foE b) = true then (if soR t (foE a) (foE b) = true then y else z) else 112 :: t :: (foE a ++ (foE b ++ (y ++ (113 :: (z ++ [114])))))) (fun t a b _ y => if known (foE a) (foE b) = true ∧ soR t (foE a) (foE b) = false then [] else 115 :: t :: (foE a ++ (foE b ++ (y ++ [114])))) l
/-- the class's two ways over the row -/
noncomputable def fo1L (l : List Int) : List Int := SqM (fun v e => v :: foE e) (fun t a b _ _ y z => 112 :: t :: (foE a ++ (foE b ++ (y ++ (113 :: (z ++ [114])))))) (fun t a b _ y => 115 :: t :: (foE a ++ (foE b ++ (y ++ [114])))) l
noncomputable def fo2L (l : List Int) : List Int := SqM (fun v e => v :: e) (fun t a b _ _ y z => if known a b = true then (if soR t a b = true then y else z) else 112 :: t :: (a ++ (b ++ (y ++ (113 :: (z ++ [114])))))) (fun t a b _ y => if known a b = true ∧ soR t a b = false then [] else 115 :: t :: (a ++ (b ++ (y ++ [114])))) l
theorem fo1L_sq : ∀ {l : List Int}, Sq l → Sq (fo1L l) ∧ (fo1L l).length ≤ l.length := by
  intro l hl
  refine Sq.ind (P := fun l => Sq (fo1L l) ∧ (fo1L l).length ≤ l.length) ?_ ?_ hl
  · unfold fo1L; rw [SqM_nil]; exact ⟨Sq.nil, Nat.le_refl _⟩
  · intro s r hs hr ih
    have hs' := hs.mono (T := Sq) (fun _ h => h.1)
    have e0 : fo1L (s ++ r) = fo1L s ++ fo1L r := SqM_cons hs' hr
    have key : Sq (fo1L s) ∧ (fo1L s).length ≤ s.length := by
      rcases hs with ⟨v, e, hv, he, rfl⟩ | rfl | ⟨t, a, b, B, C, ht, ha, hb, hB, hC, rfl⟩ | ⟨t, a, b, B, ht, ha, hb, hB, rfl⟩
      · have e1 : fo1L (v :: e) = v :: foE e := SqM_set hv he
        rw [e1]
        exact ⟨Sq.one (Or.inl ⟨v, _, hv, (foE_is he).1, rfl⟩), by simp only [List.length_cons]; have := (foE_is he).2.1; omega⟩
      · have e1 : fo1L [111] = [111] := SqM_fail
        rw [e1]
        exact ⟨Sq.one (Or.inr (Or.inl rfl)), Nat.le_refl _⟩
      · have e1 : fo1L (112 :: t :: (a ++ (b ++ (B ++ (113 :: (C ++ [114])))))) = 112 :: t :: (foE a ++ (foE b ++ (fo1L B ++ (113 :: (fo1L C ++ [114]))))) := SqM_if ht ha hb hB.1 hC.1
        rw [e1]
        refine ⟨Sq.one (Or.inr (Or.inr (Or.inl ⟨t, _, _, _, _, ht, (foE_is ha).1, (foE_is hb).1, hB.2.1, hC.2.1, rfl⟩))), ?_⟩
        rw [len_if, len_if]
        have := (foE_is ha).2.1; have := (foE_is hb).2.1; have := hB.2.2; have := hC.2.2
        omega
      · have e1 : fo1L (115 :: t :: (a ++ (b ++ (B ++ [114])))) = 115 :: t :: (foE a ++ (foE b ++ (fo1L B ++ [114]))) := SqM_wh ht ha hb hB.1
        rw [e1]
        refine ⟨Sq.one (Or.inr (Or.inr (Or.inr ⟨t, _, _, _, ht, (foE_is ha).1, (foE_is hb).1, hB.2.1, rfl⟩))), ?_⟩
        rw [len_wh, len_wh]
        have := (foE_is ha).2.1; have := (foE_is hb).2.1; have := hB.2.2
        omega
    rw [e0, List.length_append, List.length_append]
    exact ⟨Sq.app key.1 ih.1, by omega⟩
theorem fo21 : ∀ {l : List Int}, Sq l → fo2L (fo1L l) = foF l := by
  intro l hl
  refine Sq.ind (P := fun l => fo2L (fo1L l) = foF l) ?_ ?_ hl
  · unfold foF fo1L
    rw [SqM_nil, SqM_nil]
    exact SqM_nil
  · intro s r hs hr ih
    have hs' := hs.mono (T := Sq) (fun _ h => h.1)
    have e0 : fo1L (s ++ r) = fo1L s ++ fo1L r := SqM_cons hs' hr
    have e2 : foF (s ++ r) = foF s ++ foF r := SqM_cons hs' hr
    have sq := (fo1L_sq (Sq.one hs')).1
    have e3 : fo2L (fo1L s ++ fo1L r) = fo2L (fo1L s) ++ fo2L (fo1L r) := SqM_app sq (fo1L_sq hr).1
    have key : fo2L (fo1L s) = foF s := by
      rcases hs with ⟨v, e, hv, he, rfl⟩ | rfl | ⟨t, a, b, B, C, ht, ha, hb, hB, hC, rfl⟩ | ⟨t, a, b, B, ht, ha, hb, hB, rfl⟩
      · have e1 : fo1L (v :: e) = v :: foE e := SqM_set hv he
        have e4 : foF (v :: e) = v :: foE e := SqM_set hv he
        rw [e1, e4]
        exact SqM_set hv (foE_is he).1
      · have e1 : fo1L [111] = [111] := SqM_fail
        have e4 : foF [111] = [111] := SqM_fail
        rw [e1, e4]
        exact SqM_fail
      · have e1 : fo1L (112 :: t :: (a ++ (b ++ (B ++ (113 :: (C ++ [114])))))) = 112 :: t :: (foE a ++ (foE b ++ (fo1L B ++ (113 :: (fo1L C ++ [114]))))) := SqM_if ht ha hb hB.1 hC.1
        have e4 : foF (112 :: t :: (a ++ (b ++ (B ++ (113 :: (C ++ [114])))))) = (if known (foE a) (foE b) = true then (if soR t (foE a) (foE b) = true then foF B else foF C) else 112 :: t :: (foE a ++ (foE b ++ (foF B ++ (113 :: (foF C ++ [114])))))) := SqM_if ht ha hb hB.1 hC.1
        have e5 : fo2L (112 :: t :: (foE a ++ (foE b ++ (fo1L B ++ (113 :: (fo1L C ++ [114])))))) = (if known (foE a) (foE b) = true then (if soR t (foE a) (foE b) = true then fo2L (fo1L B) else fo2L (fo1L C)) else 112 :: t :: (foE a ++ (foE b ++ (fo2L (fo1L B) ++ (113 :: (fo2L (fo1L C) ++ [114])))))) := SqM_if ht (foE_is ha).1 (foE_is hb).1 (fo1L_sq hB.1).1 (fo1L_sq hC.1).1
        rw [e1, e4, e5, hB.2, hC.2]
      · have e1 : fo1L (115 :: t :: (a ++ (b ++ (B ++ [114])))) = 115 :: t :: (foE a ++ (foE b ++ (fo1L B ++ [114]))) := SqM_wh ht ha hb hB.1
        have e4 : foF (115 :: t :: (a ++ (b ++ (B ++ [114])))) = (if known (foE a) (foE b) = true ∧ soR t (foE a) (foE b) = false then [] else 115 :: t :: (foE a ++ (foE b ++ (foF B ++ [114])))) := SqM_wh ht ha hb hB.1
        have e5 : fo2L (115 :: t :: (foE a ++ (foE b ++ (fo1L B ++ [114])))) = (if known (foE a) (foE b) = true ∧ soR t (foE a) (foE b) = false then [] else 115 :: t :: (foE a ++ (foE b ++ (fo2L (fo1L B) ++ [114])))) := SqM_wh ht (foE_is ha).1 (foE_is hb).1 (fo1L_sq hB.1).1
        rw [e1, e4, e5, hB.2]
    rw [e0, e2, e3, key, ih]
