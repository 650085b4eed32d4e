-- ===== the hasty DEAD in the reference: its marks, its rounds
theorem At_len {f : Int → Int} : ∀ {l : List Int} {p q : Int}, At f p l → p ≤ q → q < p + l.length → ∃ pre c post, l = pre ++ c :: post ∧ q = p + pre.length ∧ f q = c := by
  intro l
  induction l with
  | nil => intro p q _ h0 h1; simp at h1; omega
  | cons d l ih =>
    intro p q ha h0 h1
    by_cases h : q = p
    · subst h
      exact ⟨[], d, l, rfl, by simp, ha.1⟩
    · simp only [List.length_cons] at h1
      obtain ⟨pre, c, post, e1, e2, e3⟩ := ih (p := p + 1) (q := q) ha.2 (by omega) (by omega)
      exact ⟨d :: pre, c, post, by rw [e1]; rfl, by simp only [List.length_cons]; omega, e3⟩
theorem split_uniq {pre pre' post post' : List Int} {c c' : Int} (h : pre ++ c :: post = pre' ++ c' :: post') (hl : pre.length = pre'.length) : pre = pre' ∧ c = c' ∧ post = post' := by
  obtain ⟨h1, h2⟩ := List.append_inj h hl
  exact ⟨h1, (List.cons.inj h2).1, (List.cons.inj h2).2⟩
/-- a statement that sets, by its place in the row -/
theorem set_at {l : List Int} (hl : Sq l) : ∀ {pre post : List Int} {v : Int}, l = pre ++ v :: post → 100 ≤ v ∧ v ≤ 105 → ∃ e r, Ex lfR e ∧ post = e ++ r := by
  refine Sq.ind (P := fun l => ∀ {pre post : List Int} {v : Int}, l = pre ++ v :: post → 100 ≤ v ∧ v ≤ 105 → ∃ e r, Ex lfR e ∧ post = e ++ r) ?_ ?_ hl
  · intro pre post v h _
    exact absurd h (by simp)
  · intro s r hs hr ih pre post v h hv
    -- in the rest, or in the statement
    have inside : ∀ {d : List Int} {pre' post' : List Int}, d = pre' ++ v :: post' → (∃ e q, Ex lfR e ∧ post' = e ++ q) → ∀ tail, ∃ e q, Ex lfR e ∧ post' ++ tail = e ++ q := fun _ ⟨e, q, he, h⟩ tail => ⟨e, q ++ tail, he, by rw [h, List.append_assoc]⟩
    have two : ∀ (x y pre post : List Int), x ++ y = pre ++ v :: post → (∃ post', x = pre ++ v :: post' ∧ post = post' ++ y) ∨ ∃ pre', y = pre' ++ v :: post := by
      intro x
      induction x with
      | nil => intro y pre post h; exact Or.inr ⟨pre, h⟩
      | cons d x ih =>
        intro y pre post h
        cases pre with
        | nil =>
          obtain ⟨h1, h2⟩ := List.cons.inj h
          exact Or.inl ⟨x, by rw [h1]; rfl, h2.symm⟩
        | cons d' pre =>
          obtain ⟨h1, h2⟩ := List.cons.inj h
          rcases ih y pre post h2 with ⟨post', e1, e2⟩ | ⟨pre', e1⟩
          · exact Or.inl ⟨post', by rw [h1, e1]; rfl, e2⟩
          · exact Or.inr ⟨pre', e1⟩
    have nox : ∀ {x : List Int}, Ex lfR x → ∀ {pre post : List Int}, x = pre ++ v :: post → False := fun hx pre post h => hx.noset v (by rw [h]; simp) hv
    rcases two s r pre post h with ⟨post', e1, e2⟩ | ⟨pre', e1⟩
    · rw [e2]
      rcases hs with ⟨w, e, hw, he, rfl⟩ | rfl | ⟨t, x, y, B, C, ht, hx, hy, hB, hC, rfl⟩ | ⟨t, x, y, B, ht, hx, hy, hB, rfl⟩
      · cases pre with
        | nil =>
          obtain ⟨-, h2⟩ := List.cons.inj e1
          exact ⟨e, r, he, by rw [← h2]⟩
        | cons d pre =>
          obtain ⟨-, h2⟩ := List.cons.inj e1
          exact absurd h2 (fun q => nox he q)
      · cases pre with
        | nil => have := (List.cons.inj e1).1; omega
        | cons d pre =>
          have := (List.cons.inj e1).2
          exact absurd this (by simp)
      · unfold testC at ht
        match pre, e1 with
        | [], e1 => have := (List.cons.inj e1).1; omega
        | [_], e1 => have := (List.cons.inj (List.cons.inj e1).2).1; omega
        | _ :: _ :: pre, e1 =>
          have h3 := (List.cons.inj (List.cons.inj e1).2).2
          rcases two _ _ _ _ h3 with ⟨p1, q1, q2⟩ | ⟨pre1, h4⟩
          · exact absurd q1 (fun q => nox hx q)
          rcases two _ _ _ _ h4 with ⟨p1, q1, q2⟩ | ⟨pre2, h5⟩
          · exact absurd q1 (fun q => nox hy q)
          rcases two _ _ _ _ h5 with ⟨p1, q1, q2⟩ | ⟨pre3, h6⟩
          · rw [q2, List.append_assoc]
            exact inside q1 (hB.2 q1 hv) _
          cases pre3 with
          | nil => have := (List.cons.inj h6).1; omega
          | cons d pre3 =>
            rcases two _ _ _ _ (List.cons.inj h6).2 with ⟨p1, q1, q2⟩ | ⟨pre4, h7⟩
            · rw [q2, List.append_assoc]
              exact inside q1 (hC.2 q1 hv) _
            cases pre4 with
            | nil => have := (List.cons.inj h7).1; omega
            | cons d pre4 => exact absurd (List.cons.inj h7).2 (by simp)
      · unfold testC at ht
        match pre, e1 with
        | [], e1 => have := (List.cons.inj e1).1; omega
        | [_], e1 => have := (List.cons.inj (List.cons.inj e1).2).1; omega
        | _ :: _ :: pre, e1 =>
          have h3 := (List.cons.inj (List.cons.inj e1).2).2
          rcases two _ _ _ _ h3 with ⟨p1, q1, q2⟩ | ⟨pre1, h4⟩
          · exact absurd q1 (fun q => nox hx q)
          rcases two _ _ _ _ h4 with ⟨p1, q1, q2⟩ | ⟨pre2, h5⟩
          · exact absurd q1 (fun q => nox hy q)
          rcases two _ _ _ _ h5 with ⟨p1, q1, q2⟩ | ⟨pre3, h6⟩
          · rw [q2, List.append_assoc]
            exact inside q1 (hB.2 q1 hv) _
          cases pre3 with
          | nil => have := (List.cons.inj h6).1; omega
          | cons d pre3 => exact absurd (List.cons.inj h6).2 (by simp)
    · exact ih e1 hv
theorem marksHasty_x {row : Int → Int} {many : Int} {l : List Int} (h : WF row many l) {o : Int → Int} (hz : ∀ j : Int, 0 ≤ j → j < 2400 → o j = 0) {K : (Int → Int) → Int → Prop} (hK : ∀ o' s', HO o' l → (s' = 0 → ∀ p : Int, 0 ≤ p → p < l.length → o' p = 0) → (s' = 0 ∨ ∃ p, 0 ≤ p ∧ p < many ∧ isS (row p) = true ∧ o' p ≠ 0) → K o' s') : wp_marksHasty row many o 0 K := by
  have hl := h.len
  obtain ⟨h1, h2, h3, h4, h5⟩ := h
  -- what is known of the places ahead of i
  refine wl3_rule (fun (i : Int) o' s' => 0 ≤ i ∧ i ≤ many ∧ (∀ pre c post, l = pre ++ c :: post → (pre.length : Int) < i → (o' pre.length ≠ 0 ↔ ((100 ≤ c ∧ c ≤ 105) ∧ ∀ e r, Ex lfR e → post = e ++ r → (c - 100) + 20 ∉ r))) ∧ (∀ p : Int, i ≤ p → p < 2400 → o' p = 0) ∧ (s' = 0 → ∀ p : Int, 0 ≤ p → p < i → o' p = 0) ∧ (s' = 0 ∨ ∃ p, 0 ≤ p ∧ p < many ∧ isS (row p) = true ∧ o' p ≠ 0)) (fun (i : Int) _ _ => (many - i).toNat) ?_ ⟨by omega, by omega, fun pre c post _ hp => absurd hp (by omega), fun p p0 p1 => hz p p0 p1, fun _ p p0 p1 => absurd p1 (by omega), Or.inl rfl⟩
  rintro P i o1 s1 ⟨hi, him, hm, hz1, hs0, hs1⟩ ih
  refine ⟨fun hge => hK _ _ ⟨fun pre v e post hL hv he => ?_, fun pre c post hL hc => ?_⟩ (fun z p p0 p1 => hs0 z p p0 (by omega)) hs1, fun hlt => ⟨⟨by omega, by omega⟩, ?_⟩⟩
  · have len : l.length = pre.length + 1 + (e ++ post).length := by rw [hL]; simp only [List.length_append, List.length_cons]; omega
    have := hm pre v (e ++ post) hL (by omega)
    rw [this]
    constructor
    · intro q; exact q.2 e post he rfl
    · intro q
      refine ⟨hv, fun e' r' he' hq => ?_⟩
      obtain ⟨-, q2⟩ := he.uniq _ _ _ he' hq
      rw [← q2]; exact q
  · have len : l.length = pre.length + 1 + post.length := by rw [hL]; simp only [List.length_append, List.length_cons]; omega
    have := hm pre c post hL (by omega)
    by_cases q : o1 (pre.length : Int) = 0
    · exact q
    · exact absurd (this.mp q).1 hc
  · obtain ⟨pre, c, post, hL, hpi, hc⟩ := At_len h2 (q := i) (by omega) (by omega)
    rw [hc]
    have hpi : i = pre.length := by omega
    have uni : ∀ pre' c' post', l = pre' ++ c' :: post' → (pre'.length : Int) = i → pre' = pre ∧ c' = c ∧ post' = post := fun pre' c' post' h' hp' => split_uniq (h'.symm.trans hL) (by omega)
    have skip : (¬ ((100 ≤ c ∧ c ≤ 105) ∧ ∀ e r, Ex lfR e → post = e ++ r → (c - 100) + 20 ∉ r)) → P (i + 1) o1 s1 := fun hno => ih _ _ _ ⟨by omega, by omega, fun pre' c' post' h' hp' => by
      by_cases hq : (pre'.length : Int) < i
      · exact hm pre' c' post' h' hq
      · obtain ⟨e1, e2, e3⟩ := uni pre' c' post' h' (by omega)
        subst e1; subst e2; subst e3
        rw [← hpi]
        exact ⟨fun z => absurd (hz1 i (by omega) (by omega)) z, fun z => absurd z hno⟩, fun p p0 p1 => hz1 p (by omega) p1, fun z p p0 p1 => by
      by_cases hq : p < i
      · exact hs0 z p p0 hq
      · exact hz1 p (by omega) (by omega), hs1⟩ (by omega)
    refine isIn_c (fun x y => t1 ?_) (fun hno => t0 ⟨⟨by omega, by omega⟩, skip (fun q => hno q.1)⟩)
    obtain ⟨e, r, he, hp⟩ := set_at h1 hL ⟨x, y⟩
    subst hp
    have hrow : At row i (c :: (e ++ r)) := by
      have := (At_app.mp (hL ▸ h2)).2
      rwa [show (0 : Int) + pre.length = i by omega] at this
    have hae := (At_app.mp hrow.2).1
    have har := (At_app.mp hrow.2).2
    have len : l.length = pre.length + 1 + (e.length + r.length) := by rw [hL]; simp only [List.length_append, List.length_cons]; omega
    have hcs1 : cs (c :: e) = 1 := by rw [cs_yes (Or.inl ⟨x, y⟩), he.csz]
    refine behind_ok (s := c :: e) (Or.inl ⟨c, e, Or.inl ⟨x, y⟩, he, rfl⟩) (by omega) ⟨hrow.1, hae⟩ hi (by simp only [List.length_cons]; omega) (by simp only [List.length_cons]; omega) ?_
    have e9 : i + ((c :: e : List Int).length : Int) = i + 1 + e.length := by simp only [List.length_cons]; omega
    rw [e9]
    refine reads_x har (by omega) (by omega) (by omega) (fun rd hrd => ⟨⟨by omega, by omega⟩, ?_⟩)
    have hb := hrd.2.2 (c - 100) (by omega) (by omega)
    have hb' : bitR rd (c - 100) ↔ (c - 100) + 20 ∈ r := by rw [hb, show 20 + (c - 100) = (c - 100) + 20 by omega]
    refine ⟨fun z => ⟨⟨by omega, by omega⟩, skip (fun q => q.2 e r he rfl (hb'.mp z))⟩, fun z => ?_⟩
    have hno : (c - 100) + 20 ∉ r := fun q => hb'.mpr q z
    refine ⟨⟨by omega, by omega⟩, ⟨by omega, by omega⟩, ih _ _ _ ⟨by omega, by omega, fun pre' c' post' h' hp' => ?_, fun p p0 p1 => ?_, fun q => absurd q (by decide), Or.inr ⟨i, hi, by omega, by rw [hc]; exact isS_t.mpr (Or.inl ⟨x, y⟩), ?_⟩⟩ (by omega)⟩
    · by_cases hq : (pre'.length : Int) < i
      · rw [show uZ o1 i 1 (pre'.length : Int) = o1 pre'.length from if_neg (by omega)]
        exact hm pre' c' post' h' hq
      · obtain ⟨e1, e2, e3⟩ := uni pre' c' post' h' (by omega)
        subst e1; subst e2; subst e3
        rw [← hpi]
        refine ⟨fun _ => ⟨⟨x, y⟩, fun e' r' he' hq' => ?_⟩, fun _ => ?_⟩
        · obtain ⟨-, q2⟩ := he.uniq _ _ _ he' hq'
          rw [← q2]; exact hno
        · show (if i = i then (1 : Int) else o1 i) ≠ 0
          rw [if_pos rfl]; decide
    · show (if p = i then (1 : Int) else o1 p) = 0
      rw [if_neg (by omega)]; exact hz1 p (by omega) p1
    · show (if i = i then (1 : Int) else o1 i) ≠ 0
      rw [if_pos rfl]; decide
theorem hasty_x {row f o : Int → Int} {many m s : Int} {l : List Int} (h : WF row many l) {K : (Int → Int) → (Int → Int) → Int → Int → (Int → Int) → Int → Prop} (hK : ∀ row' f' many' m' o' s', WF row' many' (hdF l []) → K row' f' many' m' o' s') : wp_dead row f many m o s 1 K := by
  have loop : ∀ (row f : Int → Int) (many m : Int) (o : Int → Int) (s : Int) (l1 : List Int), WF row many l1 → hdF l1 [] = hdF l [] → HO o l1 → (s = 0 → ∀ p : Int, 0 ≤ p → p < l1.length → o p = 0) → (s = 0 ∨ ∃ p, 0 ≤ p ∧ p < many ∧ isS (row p) = true ∧ o p ≠ 0) → wl6 (wp_dead_21 K 1) row f many m o s := by
    intro row f many m o s l1 h he ho hs0 hs
    refine wl6_rule (fun row f many m o s => ∃ l1, WF row many l1 ∧ hdF l1 [] = hdF l [] ∧ HO o l1 ∧ (s = 0 → ∀ p : Int, 0 ≤ p → p < l1.length → o p = 0) ∧ (s = 0 ∨ ∃ p, 0 ≤ p ∧ p < many ∧ isS (row p) = true ∧ o p ≠ 0)) (fun _ _ (many : Int) _ _ _ => many.toNat) ?_ ⟨l1, h, he, ho, hs0, hs⟩
    rintro P row f many m o s ⟨l1, h, he, ho, hs0, hs⟩ ih
    have rm := rm_mk ho h.1 [] [] (by simp)
    have hlen := h.2.2.1
    refine ⟨fun z => hK _ _ _ _ _ _ ?_, fun hne => ?_⟩
    · have id := rm_id (o := o) h.1 0 (by omega) (fun p p0 p1 => hs0 z p p0 (by omega))
      have : mkF l1 [] = l1 := by rw [← rm]; exact id
      rw [← he, hd_fix h.1 [] this]; exact h
    · obtain ⟨p, p1, p2, p3, p4⟩ := hs.resolve_left hne
      obtain ⟨l', cr, hw⟩ := copiedx h o
      have hlt : l'.length < l1.length := cr.1.2.2.2.2 ⟨p, by omega, by omega, p3, p4⟩
      have el : l' = mkF l1 [] := cr.2.trans rm
      refine hw f (fun f' r' n' m' => _) (fun f' r' hr => clears_ok (fun o' hz => ⟨fun z => absurd z (by decide), fun _ => ?_⟩))
      exact marksHasty_x hr hz (fun o2 s2 a1 a2 a3 => ih _ _ _ _ _ _ ⟨l', hr, by rw [el, hd_mk h.1 [] [] RI.rf, he], a1, a2, a3⟩ (by omega))
  refine clears_ok (fun o' hz => ⟨fun z => absurd z (by decide), fun _ => ?_⟩)
  exact marksHasty_x h hz (fun o2 s2 a1 a2 a3 => loop _ _ _ _ _ _ l h rfl a1 a2 a3)
