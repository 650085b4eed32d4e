-- ===== DEAD in the reference
theorem d1_app {s r : List Int} (hs : Sm Sq s) (hr : Sq r) (O : Int → Prop) : d1 (s ++ r) O = d1 s (LV r O) ++ d1 r O := by
  have hs2 := hs
  rcases hs with ⟨v, e, hv, he, rfl⟩ | rfl | ⟨t, a, b, B, C, ht, hA, hB, hb, hc, rfl⟩ | ⟨t, a, b, B, ht, hA, hB, hb, rfl⟩
  · by_cases q : (100 ≤ v ∧ v ≤ 105) ∧ ¬ LV r O (v - 100)
    · have := d1_out (out := LV r O) hv he Sq.nil (by rw [LV_nil]; exact q)
      rw [List.append_nil, d1_nil] at this
      rw [d1_out hv he hr q, this]; rfl
    · have := d1_stay (out := LV r O) hv he Sq.nil (by rw [LV_nil]; exact q)
      rw [List.append_nil, d1_nil, List.append_nil] at this
      rw [d1_stay hv he hr q, this]
  · have := d1_fail (out := LV r O) Sq.nil
    rw [List.append_nil, d1_nil] at this
    rw [d1_fail hr, this]; rfl
  · have := d1_if (out := LV r O) ht hA hB hb hc Sq.nil
    rw [List.append_nil, d1_nil, List.append_nil, LV_nil] at this
    rw [d1_if ht hA hB hb hc hr, this]
  · have := d1_wh (out := LV r O) ht hA hB hb Sq.nil
    rw [List.append_nil, d1_nil, List.append_nil] at this
    rw [d1_wh ht hA hB hb hr, this, LV_app hs2 hr]
theorem rmF_congr {o o' : Int → Int} : ∀ {l : List Int}, Sq l → ∀ q : Int, (∀ j, q ≤ j → j < q + l.length → o j = o' j) → rmF o q l = rmF o' q l := by
  intro l hl
  refine Sq.ind (P := fun l => ∀ q : Int, (∀ j, q ≤ j → j < q + l.length → o j = o' j) → rmF o q l = rmF o' q l) ?_ ?_ hl
  · intro q _; rw [rmF_nil, rmF_nil]
  · intro s r hs hr ih q h
    rw [List.length_append] at h
    have pos := hs.pos
    have h0 := h q (Int.le_refl _) (by omega)
    rw [rmF_cons (hs.mono (fun _ h => h.1)) hr, rmF_cons (hs.mono (fun _ h => h.1)) hr, ih (q + s.length) (fun j j0 j1 => h j (by omega) (by omega))]
    congr 1
    rcases hs with ⟨v, e, hv, he, rfl⟩ | rfl | ⟨t, a, b, B, C, ht, hA, hB, hb, hc, rfl⟩ | ⟨t, a, b, B, ht, hA, hB, hb, rfl⟩
    · rw [rmF_set hv he, rmF_set hv he, h0]
    · rw [rmF_fail, rmF_fail, h0]
    · rw [len_if] at h
      rw [rmF_if ht hA hB hb.1 hc.1, rmF_if ht hA hB hb.1 hc.1, h0, hb.2 _ (fun j j0 j1 => h j (by omega) (by omega)), hc.2 _ (fun j j0 j1 => h j (by omega) (by omega))]
    · rw [len_wh] at h
      rw [rmF_wh ht hA hB hb.1, rmF_wh ht hA hB hb.1, h0, hb.2 _ (fun j j0 j1 => h j (by omega) (by omega))]
def MX (q : Int) (l : List Int) (O : Int → Prop) (o : Int → Int) (s : Int) (o' : Int → Int) (s' : Int) : Prop :=
  rmF o' q l = d1 l O ∧ (∀ j, j < q ∨ q + l.length ≤ j → o' j = o j) ∧ (d1 l O = l → s' = s) ∧ (d1 l O ≠ l → s' = 1)
theorem MX.app {q : Int} {st r : List Int} {O : Int → Prop} {o o1 o2 : Int → Int} {s s1 s2 : Int} (hs : Sm Sq st) (hr : Sq r) (h : MX q st (LV r O) o s o1 s1) (g : MX (q + st.length) r O o1 s1 o2 s2) : MX q (st ++ r) O o s o2 s2 := by
  obtain ⟨h1, h2, h3, h4⟩ := h
  obtain ⟨g1, g2, g3, g4⟩ := g
  have hss := Sq.one hs
  have ls := (d1_sq hss (LV r O)).2.2.2.1
  have lr := (d1_sq hr O).2.2.2.1
  refine ⟨?_, fun j hj => ?_, fun z => ?_, fun z => ?_⟩
  · rw [rmF_cons hs hr, d1_app hs hr, ← g1, ← h1]
    congr 1
    exact rmF_congr hss q (fun j j0 j1 => g2 j (Or.inl j1))
  · rw [List.length_append] at hj
    rw [g2 j (by omega), h2 j (by omega)]
  · rw [d1_app hs hr, eq_app ls lr] at z
    rw [g3 z.2, h3 z.1]
  · rw [d1_app hs hr, Ne, eq_app ls lr] at z
    by_cases q : d1 r O = r
    · rw [g3 q, h4 (fun y => z ⟨y, q⟩)]
    · exact g4 q
def MWx (row : Int → Int) (many : Int) (l : List Int) : Prop := ∀ (n : Nat) (q out : Int) (O : Int → Prop) (o : Int → Int) (s : Int), cs l ≤ n → cs l ≤ 40 → At row q l → 0 ≤ q → q + l.length ≤ many → l.length ≤ 500 → Lst row many (q + l.length) → BS out O → (∀ j, q ≤ j → j < q + l.length → o j = 0) → ∀ (P : Int → (Int → Int) → Int → Prop) (K : (Int → Int) → Int → Prop), (∀ a b c, wp_marks_2 (wp_marks n) K row many out P a b c → P a b c) → (∀ o' s', MX q l O o s o' s' → P (q + l.length) o' s') → P q o s
theorem marksx_of {row : Int → Int} {many : Int} (hm : many ≤ 2400) {l : List Int} (hl : MWx row many l) {n : Nat} {q out : Int} {O : Int → Prop} {o : Int → Int} {s : Int} (hn : cs l + 1 ≤ n) (h40 : cs l ≤ 40) (ha : At row q l) (h0 : 0 ≤ q) (h1 : q + l.length ≤ many) (h2 : l.length ≤ 500) (h3 : Lst row many (q + l.length)) (ho : BS out O) (hz : ∀ j, q ≤ j → j < q + l.length → o j = 0) {K : (Int → Int) → Int → Prop} (k : ∀ o' s', MX q l O o s o' s' → K o' s') : wp_marks n row many o s q out K := by
  obtain ⟨n, rfl⟩ : ∃ m, n = m + 1 := ⟨n - 1, by omega⟩
  rw [wp_marks_s]
  intro P hP
  exact hl n q out O o s (by omega) h40 ha h0 h1 h2 h3 ho hz P K hP (fun o' s' g => hP _ _ _ (isLast_yes (by omega) hm h3 (u1 (k o' s' g))))
theorem d1_set1 {v : Int} {e : List Int} {O : Int → Prop} (hv : setC v ∨ v = 110) (he : Ex lfR e) : ((100 ≤ v ∧ v ≤ 105) ∧ ¬ O (v - 100) → d1 (v :: e) O = []) ∧ (¬ ((100 ≤ v ∧ v ≤ 105) ∧ ¬ O (v - 100)) → d1 (v :: e) O = v :: e) := by
  refine ⟨fun q => ?_, fun q => ?_⟩
  · have := d1_out (out := O) hv he Sq.nil (by rw [LV_nil]; exact q)
    rwa [List.append_nil, d1_nil] at this
  · have := d1_stay (out := O) hv he Sq.nil (by rw [LV_nil]; exact q)
    rwa [List.append_nil, d1_nil, List.append_nil] at this
theorem d1_fail1 {O : Int → Prop} : d1 [111] O = [111] := by
  have := d1_fail (out := O) Sq.nil
  rwa [List.append_nil, d1_nil] at this
theorem d1_if1 {t : Int} {a b B C : List Int} {O : Int → Prop} (ht : testC t) (ha : Ex lfR a) (hb : Ex lfR b) (hB : Sq B) (hC : Sq C) : d1 (112 :: t :: (a ++ (b ++ (B ++ (113 :: (C ++ [114])))))) O = 112 :: t :: (a ++ (b ++ (d1 B O ++ (113 :: (d1 C O ++ [114]))))) := by
  have := d1_if (out := O) ht ha hb hB hC Sq.nil
  rwa [List.append_nil, d1_nil, List.append_nil, LV_nil] at this
theorem d1_wh1 {t : Int} {a b B : List Int} {O : Int → Prop} (ht : testC t) (ha : Ex lfR a) (hb : Ex lfR b) (hB : Sq B) : d1 (115 :: t :: (a ++ (b ++ (B ++ [114])))) O = 115 :: t :: (a ++ (b ++ (d1 B (LV (115 :: t :: (a ++ (b ++ (B ++ [114])))) O) ++ [114]))) := by
  have := d1_wh (out := O) ht ha hb hB Sq.nil
  rwa [List.append_nil, d1_nil, List.append_nil] at this
theorem MX.same {q : Int} {l : List Int} {O : Int → Prop} {o : Int → Int} {s : Int} (h : d1 l O = l) (g : rmF o q l = l) : MX q l O o s o s := ⟨by rw [g, h], fun _ _ => rfl, fun _ => rfl, fun z => absurd h z⟩
theorem MWx_all {row : Int → Int} {many : Int} (hm : many ≤ 2400) : ∀ {l : List Int}, Sq l → MWx row many l := by
  intro l hl
  refine Sq.ind (P := MWx row many) ?_ ?_ hl
  · intro n q out O o s _ _ _ _ _ _ _ _ _ P K _ k
    have := k o s (MX.same d1_nil rmF_nil)
    simpa using this
  · intro st r hs hr ih n q out O o s hn h40 ha h0 h1 h2 h3 ho hz P K hP k
    have hs' := hs.mono (T := Sq) (fun _ h => h.1)
    have hss := Sq.one hs'
    rw [cs_app] at hn h40
    have e : q + (((st ++ r).length : Nat) : Int) = q + (st.length : Int) + r.length := by rw [List.length_append]; omega
    rw [e] at h1 h3 k hz
    rw [List.length_append] at h2
    obtain ⟨a1, a2⟩ := At_app.mp ha
    have hp := hs.pos
    have hcs := hs.csp
    have hat := hs.at0 a1
    have hbe := @behind_ok row st hs' q
    have tail : ∀ x y, MX q st (LV r O) o s x y → wp_marks_137 row q P x y := fun x y m => hbe (by omega) a1 h0 (by omega) (by omega) (ih n (q + st.length) out O x y (by omega) (by omega) a2 (by omega) (by omega) (by omega) h3 ho (fun j j0 j1 => by rw [m.2.1 j (Or.inr j0)]; exact hz j (by omega) (by omega)) P K hP (fun o' s' g => k o' s' (m.app hs' hr g)))
    clear k ih
    refine hP _ _ _ (isLast_no h0 (by omega) hm hat (u0 (hbe (by omega) a1 h0 (by omega) (by omega) (liveFrom_x hm hr (by omega) a2 (by omega) (by omega) (by omega) h3 ho (fun af haf => ⟨⟨by omega, by omega⟩, ?_⟩)))))
    rcases hs with ⟨v, ex, hv, he, rfl⟩ | rfl | ⟨t, a, b, B, C, ht, hA, hB, hb, hc, rfl⟩ | ⟨t, a, b, B, ht, hA, hB, hb, rfl⟩
    · have e1 : row q = v := a1.1
      have hv' := hv
      unfold setC at hv'
      have dd := d1_set1 (O := LV r O) hv he
      have skip : ∀ x y, MX q (v :: ex) (LV r O) o s x y → wp_marks_60 (wp_marks n) row many q af P x y := fun x y m => ⟨fun _ => ⟨fun c => absurd c (by omega), fun _ => tail x y m⟩, fun c => absurd c (by omega)⟩
      have oq : o q = 0 := hz q (by omega) (by simp only [List.length_cons]; omega)
      have same : ¬ ((100 ≤ v ∧ v ≤ 105) ∧ ¬ LV r O (v - 100)) → MX q (v :: ex) (LV r O) o s o s := fun z => MX.same (dd.2 z) (by rw [rmF_set hv he, if_neg (fun z => z oq)])
      rw [e1]
      refine isIn_c (fun x y => t1 ⟨fun z => skip _ _ (same (fun g => g.2 ((haf.2 (v - 100) ⟨by omega, by omega⟩).mp z))), fun z => ⟨⟨by omega, by omega⟩, ?_⟩⟩) (fun z => t0 (skip _ _ (same (fun g => z g.1))))
      have dead : (100 ≤ v ∧ v ≤ 105) ∧ ¬ LV r O (v - 100) := ⟨⟨x, y⟩, fun g => ((haf.2 (v - 100) ⟨by omega, by omega⟩).mpr g) z⟩
      refine skip _ _ ⟨?_, fun j hj => ?_, fun g => ?_, fun _ => rfl⟩
      · rw [dd.1 dead, rmF_set hv he, if_pos]
        show uZ o q 1 q ≠ 0
        rw [show uZ o q 1 q = 1 from if_pos rfl]; decide
      · simp only [List.length_cons] at hj
        exact if_neg (by omega)
      · rw [dd.1 dead] at g; cases g
    · have e1 : row q = 111 := a1.1
      have oq : o q = 0 := hz q (by omega) (by simp only [List.length_cons, List.length_nil]; omega)
      rw [e1]
      exact isIn_c (fun x y => absurd y (by omega)) (fun _ => t0 ⟨fun _ => ⟨fun c => absurd c (by omega), fun _ => tail _ _ (MX.same d1_fail1 (by rw [rmF_fail, if_neg (fun z => z oq)]))⟩, fun c => absurd c (by omega)⟩)
    · rw [cs_if ht hA hB] at hn h40 hcs
      have hl := len_if (t := t) (a := a) (b := b) (B := B) (C := C)
      obtain ⟨r1, r2, r3, r4, r5, r6, r7, r8⟩ := At_if.mp a1
      rw [hl] at hz
      have oq : o q = 0 := hz q (by omega) (by omega)
      have lb : Lst row many (q + 2 + a.length + b.length + B.length) := Or.inr ⟨by omega, Or.inl r6⟩
      have dB := d1_sq hb.1 (LV r O)
      have dC := d1_sq hc.1 (LV r O)
      refine isIn_c (fun x y => absurd y (by omega)) (fun _ => t0 ⟨fun _ => ⟨fun _ => ?_, fun c => absurd r1 c⟩, fun c => absurd c (by omega)⟩)
      refine body_ok hA hB h0 r3 r4 (by omega) (by omega) (by omega) (close_ok hm hb.1 _ _ (by omega) r5 (by omega) (by omega) (by omega) lb (body_ok hA hB h0 r3 r4 (by omega) (by omega) (by omega) ?_))
      refine marksx_of hm hb.2 (by omega) (by omega) r5 (by omega) (by omega) (by omega) lb haf (fun j j0 j1 => hz j (by omega) (by omega)) (fun o1 s1 m1 => ⟨⟨by omega, by omega⟩, fun c => absurd r6 c, fun _ => ⟨⟨by omega, by omega⟩, ?_⟩⟩)
      refine marksx_of hm hc.2 (by omega) (by omega) r7 (by omega) (by omega) (by omega) (Or.inr ⟨by omega, Or.inr r8⟩) haf (fun j j0 j1 => by rw [m1.2.1 j (by omega)]; exact hz j (by omega) (by omega)) (fun o2 s2 m2 => tail o2 s2 ?_)
      have o2q : o2 q = 0 := by rw [m2.2.1 q (by omega), m1.2.1 q (by omega)]; exact oq
      have dif := d1_if1 (O := LV r O) ht hA hB hb.1 hc.1
      have eqv : d1 (112 :: t :: (a ++ (b ++ (B ++ (113 :: (C ++ [114])))))) (LV r O) = 112 :: t :: (a ++ (b ++ (B ++ (113 :: (C ++ [114]))))) ↔ d1 B (LV r O) = B ∧ d1 C (LV r O) = C := by
        rw [dif]
        constructor
        · intro g
          have g4 := (List.cons.inj (List.cons.inj g).2).2
          have g5 := List.append_cancel_left (List.append_cancel_left g4)
          have g6 := (eq_app dB.2.2.2.1 (by simp only [List.length_cons, List.length_append, List.length_nil]; have := dC.2.2.2.1; omega)).mp g5
          exact ⟨g6.1, List.append_cancel_right (List.cons.inj g6.2).2⟩
        · rintro ⟨g1, g2⟩; rw [g1, g2]
      refine ⟨?_, fun j hj => ?_, fun g => ?_, fun g => ?_⟩
      · rw [rmF_if ht hA hB hb.1 hc.1, if_neg (fun z => z o2q), dif, m2.1, ← m1.1, rmF_congr hb.1 _ (fun j j0 j1 => m2.2.1 j (Or.inl (by omega)))]
      · rw [hl] at hj
        rw [m2.2.1 j (by omega), m1.2.1 j (by omega)]
      · obtain ⟨g1, g2⟩ := eqv.mp g
        rw [m2.2.2.1 g2, m1.2.2.1 g1]
      · by_cases z : d1 C (LV r O) = C
        · rw [m2.2.2.1 z, m1.2.2.2 (fun y => g (eqv.mpr ⟨y, z⟩))]
        · exact m2.2.2.2 z
    · rw [cs_wh ht hA hB] at hn h40 hcs
      have hl := len_wh (t := t) (a := a) (b := b) (B := B)
      obtain ⟨r1, r2, r3, r4, r5, r6⟩ := At_wh.mp a1
      rw [hl] at hz
      have oq : o q = 0 := hz q (by omega) (by omega)
      have lb : Lst row many (q + 2 + a.length + b.length + B.length) := Or.inr ⟨by omega, Or.inr r6⟩
      refine isIn_c (fun x y => absurd y (by omega)) (fun _ => t0 ⟨fun c => absurd r1 c, fun _ => ?_⟩)
      refine body_ok hA hB h0 r3 r4 (by omega) (by omega) (by omega) (liveAt_x hm hs' (by rw [cs_wh ht hA hB]; omega) a1 h0 (by omega) (by omega) haf (fun lv hlv => ?_))
      have dB := d1_sq hb.1 (LV (115 :: t :: (a ++ (b ++ (B ++ [114])))) (LV r O))
      refine marksx_of hm hb.2 (by omega) (by omega) r5 (by omega) (by omega) (by omega) lb hlv (fun j j0 j1 => hz j (by omega) (by omega)) (fun o1 s1 m1 => ⟨fun c => absurd c (by omega), fun _ => tail o1 s1 ?_⟩)
      have o1q : o1 q = 0 := by rw [m1.2.1 q (by omega)]; exact oq
      have dwh := d1_wh1 (O := LV r O) ht hA hB hb.1
      have eqv : d1 (115 :: t :: (a ++ (b ++ (B ++ [114])))) (LV r O) = 115 :: t :: (a ++ (b ++ (B ++ [114]))) ↔ d1 B (LV (115 :: t :: (a ++ (b ++ (B ++ [114])))) (LV r O)) = B := by
        rw [dwh]
        constructor
        · intro g
          have g4 := (List.cons.inj (List.cons.inj g).2).2
          exact List.append_cancel_right (List.append_cancel_left (List.append_cancel_left g4))
        · intro g
          generalize d1 B (LV (115 :: t :: (a ++ (b ++ (B ++ [114])))) (LV r O)) = B' at g
          rw [g]
      refine ⟨?_, fun j hj => ?_, fun g => m1.2.2.1 (eqv.mp g), fun g => m1.2.2.2 (fun y => g (eqv.mpr y))⟩
      · rw [rmF_wh ht hA hB hb.1, if_neg (fun z => z o1q), dwh, m1.1]
      · rw [hl] at hj
        exact m1.2.1 j (by omega)
theorem marks_x {row : Int → Int} {many : Int} {l : List Int} (h : WF row many l) {o : Int → Int} (hz : ∀ j : Int, 0 ≤ j → j < 2400 → o j = 0) {K : (Int → Int) → Int → Prop} (k : ∀ o' s', rmF o' 0 l = d1 l NoV → (s' = 0 ↔ d1 l NoV = l) → K o' s') : wp_marks 100 row many o 0 0 0 K := by
  have hl := h.len
  obtain ⟨h1, h2, h3, h4, h5⟩ := h
  refine marksx_of (by omega) (MWx_all (by omega) h1) (by omega) h4 h2 (by omega) (by omega) (by omega) (Or.inl (by omega)) BS.z (fun j j0 j1 => hz j j0 (by omega)) (fun o' s' m => k o' s' m.1 ⟨fun z => ?_, fun z => m.2.2.1 z⟩)
  by_cases q : d1 l NoV = l
  · exact q
  · rw [m.2.2.2 q] at z; exact absurd z (by decide)
theorem dead_x {row f o : Int → Int} {many m s : Int} {l : List Int} (h : WF row many l) {K : (Int → Int) → (Int → Int) → Int → Int → (Int → Int) → Int → Prop} (hK : ∀ row' f' many' m' o' s', WF row' many' (deF l) → K row' f' many' m' o' s') : wp_dead row f many m o s 0 K := by
  have h40 := h.2.2.2.1
  have loop : ∀ (row f : Int → Int) (many m : Int) (o : Int → Int) (s : Int) (j : Nat), WF row many (dI j l) → cs (dI j l) + j ≤ 40 → rmF o 0 (dI j l) = d1 (dI j l) NoV → (s = 0 ↔ d1 (dI j l) NoV = dI j l) → wl6 (wp_dead_21 K 0) row f many m o s := by
    intro row f many m o s j h hj ho hs
    refine wl6_rule (fun row f many m o s => ∃ j, WF row many (dI j l) ∧ cs (dI j l) + j ≤ 40 ∧ rmF o 0 (dI j l) = d1 (dI j l) NoV ∧ (s = 0 ↔ d1 (dI j l) NoV = dI j l)) (fun _ _ (many : Int) _ _ _ => many.toNat) ?_ ⟨j, h, hj, ho, hs⟩
    rintro P row f many m o s ⟨j, h, hj, ho, hs⟩ ih
    have hlen := h.2.2.1
    refine ⟨fun z => hK _ _ _ _ _ _ (by rw [deF_at (by omega) (hs.mp z)]; exact h), fun hne => ?_⟩
    obtain ⟨l', cr, hw⟩ := copiedx h o
    have el : l' = dI (j + 1) l := cr.2.trans ho
    have d5 := (d1_sq h.1 NoV).2.2.2.2.resolve_left (fun z => hne (hs.mpr z))
    have hlt : l'.length < (dI j l).length := by rw [el]; exact d5.2
    have hcs : cs (dI (j + 1) l) < cs (dI j l) := d5.1
    refine hw f (fun f' r' n' m' => _) (fun f' r' hr => clears_ok (fun o' hz => ⟨fun _ => ?_, fun z => absurd rfl z⟩))
    rw [el] at hr
    have hmm := hr.2.2.1
    rw [el]
    exact marks_x hr hz (fun o2 s2 a1 a2 => ih _ _ _ _ _ _ ⟨j + 1, hr, by omega, a1, a2⟩ (by rw [← el]; omega))
  exact clears_ok (fun o' hz => ⟨fun _ => marks_x h hz (fun o2 s2 a1 a2 => loop _ _ _ _ _ _ 0 h (by show cs l + 0 ≤ 40; omega) a1 a2), fun z => absurd rfl z⟩)
