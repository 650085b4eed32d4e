-- ===== one way to read a row, and recursion over it
theorem lfR_no {c : Int} (h : lfR c) : ¬ opC c := by unfold lfR at h; unfold opC; omega
theorem Ex.uniq : ∀ {e : List Int}, Ex lfR e → ∀ (e' r r' : List Int), Ex lfR e' → e ++ r = e' ++ r' → e = e' ∧ r = r' := by
  intro e he
  refine Ex.ind (P := fun e => ∀ (e' r r' : List Int), Ex lfR e' → e ++ r = e' ++ r' → e = e' ∧ r = r') ?_ ?_ he
  · intro c hc e' r r' h' h
    rcases h'.cases with ⟨d, hd, rfl⟩ | ⟨o, a, b, ho, _, _, rfl⟩
    · obtain ⟨h1, h2⟩ := List.cons.inj h
      exact ⟨by rw [h1], h2⟩
    · obtain ⟨h1, h2⟩ := List.cons.inj h
      exact absurd ho (h1 ▸ lfR_no hc)
  · intro o a b ho ha hb iha ihb e' r r' h' h
    rcases h'.cases with ⟨d, hd, rfl⟩ | ⟨o', a', b', ho', ha', hb', rfl⟩
    · obtain ⟨h1, h2⟩ := List.cons.inj h
      exact absurd ho (h1 ▸ lfR_no hd)
    · rw [List.cons_append, List.cons_append, List.append_assoc, List.append_assoc] at h
      obtain ⟨h1, h2⟩ := List.cons.inj h
      obtain ⟨h3, h4⟩ := iha _ _ _ ha' h2
      obtain ⟨h5, h6⟩ := ihb _ _ _ hb' h4
      exact ⟨by rw [h1, h3, h5], h6⟩
/-- no statement begins here -/
def NH (x : List Int) : Prop := ∀ c y, x = c :: y → isS c = false
theorem NH_nil : NH [] := fun c y h => by cases h
theorem NH_cons {c : Int} {y : List Int} (h : c = 113 ∨ c = 114) : NH (c :: y) := fun d z e => by
  obtain ⟨h1, -⟩ := List.cons.inj e
  rw [← h1]
  rcases h with rfl | rfl <;> decide
def UqS (B : List Int) : Prop := Sq B ∧ ∀ B' x x' : List Int, Sq B' → NH x → NH x' → B ++ x = B' ++ x' → B = B' ∧ x = x'
theorem if_app {t : Int} {a b B C r : List Int} : (112 :: t :: (a ++ (b ++ (B ++ (113 :: (C ++ [114])))))) ++ r = 112 :: t :: (a ++ (b ++ (B ++ (113 :: (C ++ (114 :: r)))))) := by simp
theorem wh_app {t : Int} {a b B r : List Int} : (115 :: t :: (a ++ (b ++ (B ++ [114])))) ++ r = 115 :: t :: (a ++ (b ++ (B ++ (114 :: r)))) := by simp
theorem Sm.uq {s : List Int} (hs : Sm UqS s) : ∀ (s' r r' : List Int), Sm Sq s' → s ++ r = s' ++ r' → s = s' ∧ r = r' := by
  intro s' r r' hs' h
  rcases hs with ⟨v, e, hv, he, rfl⟩ | rfl | ⟨t, a, b, B, C, ht, ha, hb, hB, hC, rfl⟩ | ⟨t, a, b, B, ht, ha, hb, hB, rfl⟩
  · rcases hs' with ⟨v', e', hv', he', rfl⟩ | rfl | ⟨t', a', b', B', C', ht', ha', hb', hB', hC', rfl⟩ | ⟨t', a', b', B', ht', ha', hb', hB', rfl⟩
    · obtain ⟨h1, h2⟩ := List.cons.inj h
      obtain ⟨h3, h4⟩ := he.uniq _ _ _ he' h2
      exact ⟨by rw [h1, h3], h4⟩
    · have := (List.cons.inj h).1; unfold setC at hv; omega
    · have := (List.cons.inj h).1; unfold setC at hv; omega
    · have := (List.cons.inj h).1; unfold setC at hv; omega
  · rcases hs' with ⟨v', e', hv', he', rfl⟩ | rfl | ⟨t', a', b', B', C', ht', ha', hb', hB', hC', rfl⟩ | ⟨t', a', b', B', ht', ha', hb', hB', rfl⟩
    · have := (List.cons.inj h).1; unfold setC at hv'; omega
    · exact ⟨rfl, (List.cons.inj h).2⟩
    · have := (List.cons.inj h).1; omega
    · have := (List.cons.inj h).1; omega
  · rcases hs' with ⟨v', e', hv', he', rfl⟩ | rfl | ⟨t', a', b', B', C', ht', ha', hb', hB', hC', rfl⟩ | ⟨t', a', b', B', ht', ha', hb', hB', rfl⟩
    · have := (List.cons.inj h).1; unfold setC at hv'; omega
    · have := (List.cons.inj h).1; omega
    · rw [if_app, if_app] at h
      obtain ⟨-, h1⟩ := List.cons.inj h
      obtain ⟨h2, h3⟩ := List.cons.inj h1
      obtain ⟨h4, h5⟩ := ha.uniq _ _ _ ha' h3
      obtain ⟨h6, h7⟩ := hb.uniq _ _ _ hb' h5
      obtain ⟨h8, h9⟩ := hB.2 _ _ _ hB' (NH_cons (Or.inl rfl)) (NH_cons (Or.inl rfl)) h7
      obtain ⟨-, h10⟩ := List.cons.inj h9
      obtain ⟨h11, h12⟩ := hC.2 _ _ _ hC' (NH_cons (Or.inr rfl)) (NH_cons (Or.inr rfl)) h10
      exact ⟨by rw [h2, h4, h6, h8, h11], (List.cons.inj h12).2⟩
    · have := (List.cons.inj h).1; omega
  · rcases hs' with ⟨v', e', hv', he', rfl⟩ | rfl | ⟨t', a', b', B', C', ht', ha', hb', hB', hC', rfl⟩ | ⟨t', a', b', B', ht', ha', hb', hB', rfl⟩
    · have := (List.cons.inj h).1; unfold setC at hv'; omega
    · have := (List.cons.inj h).1; omega
    · have := (List.cons.inj h).1; omega
    · rw [wh_app, wh_app] at h
      obtain ⟨-, h1⟩ := List.cons.inj h
      obtain ⟨h2, h3⟩ := List.cons.inj h1
      obtain ⟨h4, h5⟩ := ha.uniq _ _ _ ha' h3
      obtain ⟨h6, h7⟩ := hb.uniq _ _ _ hb' h5
      obtain ⟨h8, h9⟩ := hB.2 _ _ _ hB' (NH_cons (Or.inr rfl)) (NH_cons (Or.inr rfl)) h7
      exact ⟨by rw [h2, h4, h6, h8], (List.cons.inj h9).2⟩
theorem Sm.nh {S : List Int → Prop} {s r : List Int} (hs : Sm S s) : ¬ NH (s ++ r) := by
  obtain ⟨c, q, rfl, hc⟩ := hs.head
  intro h
  have := h c (q ++ r) rfl
  rw [hc] at this
  cases this
theorem Sq.uq : ∀ {B : List Int}, Sq B → UqS B := by
  intro B hB
  refine ⟨hB, ?_⟩
  refine Sq.ind (P := fun B => ∀ B' x x' : List Int, Sq B' → NH x → NH x' → B ++ x = B' ++ x' → B = B' ∧ x = x') ?_ ?_ hB
  · intro B' x x' hB' hx hx' h
    rcases hB'.cases with rfl | ⟨s, r, hs, hr, rfl⟩
    · exact ⟨rfl, h⟩
    · rw [List.nil_append, List.append_assoc] at h
      rw [h] at hx
      exact absurd hx hs.nh
  · intro s r hs hr ih B' x x' hB' hx hx' h
    rcases hB'.cases with rfl | ⟨s', r', hs', hr', rfl⟩
    · rw [List.nil_append, List.append_assoc] at h
      rw [← h] at hx'
      exact absurd hx' hs.nh
    · rw [List.append_assoc, List.append_assoc] at h
      obtain ⟨h1, h2⟩ := Sm.uq (hs.mono (fun B h => ⟨h.1, h.2⟩)) _ _ _ hs' h
      obtain ⟨h3, h4⟩ := ih _ _ _ hr' hx hx' h2
      exact ⟨by rw [h1, h3], h4⟩
-- ===== recursion over rows of statements
section RC
variable {X : Type} (nl : X) (sf : Int → List Int → List Int → X → X) (ff : List Int → X → X) (jf : Int → List Int → List Int → List Int → List Int → List Int → X → X → X → X) (wf : Int → List Int → List Int → List Int → List Int → X → X → X)
def RcN : Nat → List Int → X → Prop
  | 0, _, _ => False
  | k + 1, l, x => (l = [] ∧ x = nl) ∨ (∃ (v : Int) (e r : List Int) (y : X), (setC v ∨ v = 110) ∧ Ex lfR e ∧ RcN k r y ∧ l = v :: (e ++ r) ∧ x = sf v e r y) ∨
    (∃ (r : List Int) (y : X), RcN k r y ∧ l = 111 :: r ∧ x = ff r y) ∨
    (∃ (t : Int) (a b B C r : List Int) (y z w : X), testC t ∧ Ex lfR a ∧ Ex lfR b ∧ RcN k B y ∧ RcN k C z ∧ RcN k r w ∧ l = (112 :: t :: (a ++ (b ++ (B ++ (113 :: (C ++ [114])))))) ++ r ∧ x = jf t a b B C r y z w) ∨
    (∃ (t : Int) (a b B r : List Int) (y w : X), testC t ∧ Ex lfR a ∧ Ex lfR b ∧ RcN k B y ∧ RcN k r w ∧ l = (115 :: t :: (a ++ (b ++ (B ++ [114])))) ++ r ∧ x = wf t a b B r y w)
variable {nl sf ff jf wf}
theorem RcN.sq : ∀ {k : Nat} {l : List Int} {x : X}, RcN nl sf ff jf wf k l x → Sq l := by
  intro k
  induction k with
  | zero => intro l x h; exact absurd h id
  | succ k ih =>
    intro l x h
    rcases h with ⟨rfl, -⟩ | ⟨v, e, r, y, hv, he, hr, rfl, -⟩ | ⟨r, y, hr, rfl, -⟩ | ⟨t, a, b, B, C, r, y, z, w, ht, ha, hb, hB, hC, hr, rfl, -⟩ | ⟨t, a, b, B, r, y, w, ht, ha, hb, hB, hr, rfl, -⟩
    · exact Sq.nil
    · exact Sq.cons (s := v :: e) (Or.inl ⟨v, e, hv, he, rfl⟩) (ih hr)
    · exact Sq.cons (s := [111]) (Or.inr (Or.inl rfl)) (ih hr)
    · exact Sq.cons (Or.inr (Or.inr (Or.inl ⟨t, a, b, B, C, ht, ha, hb, ih hB, ih hC, rfl⟩))) (ih hr)
    · exact Sq.cons (Or.inr (Or.inr (Or.inr ⟨t, a, b, B, ht, ha, hb, ih hB, rfl⟩))) (ih hr)
theorem RcN.up : ∀ {k : Nat} {l : List Int} {x : X}, RcN nl sf ff jf wf k l x → RcN nl sf ff jf wf (k + 1) l x := by
  intro k
  induction k with
  | zero => intro l x h; exact absurd h id
  | succ k ih =>
    intro l x h
    rcases h with h | ⟨v, e, r, y, hv, he, hr, h1, h2⟩ | ⟨r, y, hr, h1, h2⟩ | ⟨t, a, b, B, C, r, y, z, w, ht, ha, hb, hB, hC, hr, h1, h2⟩ | ⟨t, a, b, B, r, y, w, ht, ha, hb, hB, hr, h1, h2⟩
    · exact Or.inl h
    · exact Or.inr (Or.inl ⟨v, e, r, y, hv, he, ih hr, h1, h2⟩)
    · exact Or.inr (Or.inr (Or.inl ⟨r, y, ih hr, h1, h2⟩))
    · exact Or.inr (Or.inr (Or.inr (Or.inl ⟨t, a, b, B, C, r, y, z, w, ht, ha, hb, ih hB, ih hC, ih hr, h1, h2⟩)))
    · exact Or.inr (Or.inr (Or.inr (Or.inr ⟨t, a, b, B, r, y, w, ht, ha, hb, ih hB, ih hr, h1, h2⟩)))
theorem RcN.le {k m : Nat} {l : List Int} {x : X} (hk : k ≤ m) (h : RcN nl sf ff jf wf k l x) : RcN nl sf ff jf wf m l x := by
  induction hk with
  | refl => exact h
  | step _ ih => exact ih.up
theorem RcN.ex : ∀ {l : List Int}, Sq l → ∃ x k, RcN nl sf ff jf wf k l x := by
  intro l hl
  refine Sq.ind (P := fun l => ∃ x k, RcN nl sf ff jf wf k l x) ⟨nl, 1, Or.inl ⟨rfl, rfl⟩⟩ ?_ hl
  rintro s r hs hr ⟨w, k, hw⟩
  rcases hs with ⟨v, e, hv, he, rfl⟩ | rfl | ⟨t, a, b, B, C, ht, ha, hb, ⟨_, y, k1, hB⟩, ⟨_, z, k2, hC⟩, rfl⟩ | ⟨t, a, b, B, ht, ha, hb, ⟨_, y, k1, hB⟩, rfl⟩
  · exact ⟨_, k + 1, Or.inr (Or.inl ⟨v, e, r, w, hv, he, hw, rfl, rfl⟩)⟩
  · exact ⟨_, k + 1, Or.inr (Or.inr (Or.inl ⟨r, w, hw, rfl, rfl⟩))⟩
  · exact ⟨_, max k (max k1 k2) + 1, Or.inr (Or.inr (Or.inr (Or.inl ⟨t, a, b, B, C, r, y, z, w, ht, ha, hb, hB.le (Nat.le_trans (Nat.le_max_left _ _) (Nat.le_max_right _ _)), hC.le (Nat.le_trans (Nat.le_max_right _ _) (Nat.le_max_right _ _)), hw.le (Nat.le_max_left _ _), rfl, rfl⟩)))⟩
  · exact ⟨_, max k k1 + 1, Or.inr (Or.inr (Or.inr (Or.inr ⟨t, a, b, B, r, y, w, ht, ha, hb, hB.le (Nat.le_max_right _ _), hw.le (Nat.le_max_left _ _), rfl, rfl⟩)))⟩
theorem RcN.fn : ∀ {k : Nat} {l : List Int} {x : X}, RcN nl sf ff jf wf k l x → ∀ {m : Nat} {x' : X}, RcN nl sf ff jf wf m l x' → x = x' := by
  intro k
  induction k with
  | zero => intro l x h; exact absurd h id
  | succ k ih =>
    intro l x h m x' h'
    cases m with
    | zero => exact absurd h' id
    | succ m =>
      rcases h with ⟨h1, h2⟩ | ⟨v, e, r, y, hv, he, hr, h1, h2⟩ | ⟨r, y, hr, h1, h2⟩ | ⟨t, a, b, B, C, r, y, z, w, ht, ha, hb, hB, hC, hr, h1, h2⟩ | ⟨t, a, b, B, r, y, w, ht, ha, hb, hB, hr, h1, h2⟩
      · subst h1
        rcases h' with ⟨g1, g2⟩ | ⟨v', e', r', y', hv', he', hr', g1, g2⟩ | ⟨r', y', hr', g1, g2⟩ | ⟨t', a', b', B', C', r', y', z', w', ht', ha', hb', hB', hC', hr', g1, g2⟩ | ⟨t', a', b', B', r', y', w', ht', ha', hb', hB', hr', g1, g2⟩
        · rw [h2, g2]
        all_goals exact absurd g1 (by simp)
      · subst h1
        rcases h' with ⟨g1, g2⟩ | ⟨v', e', r', y', hv', he', hr', g1, g2⟩ | ⟨r', y', hr', g1, g2⟩ | ⟨t', a', b', B', C', r', y', z', w', ht', ha', hb', hB', hC', hr', g1, g2⟩ | ⟨t', a', b', B', r', y', w', ht', ha', hb', hB', hr', g1, g2⟩
        · exact absurd g1 (by simp)
        · obtain ⟨q1, q2⟩ := List.cons.inj g1
          obtain ⟨q3, q4⟩ := he.uniq _ _ _ he' q2
          subst q1; subst q3; subst q4
          rw [h2, g2, ih hr hr']
        · have := (List.cons.inj g1).1; unfold setC at hv; omega
        · have := (List.cons.inj g1).1; unfold setC at hv; omega
        · have := (List.cons.inj g1).1; unfold setC at hv; omega
      · subst h1
        rcases h' with ⟨g1, g2⟩ | ⟨v', e', r', y', hv', he', hr', g1, g2⟩ | ⟨r', y', hr', g1, g2⟩ | ⟨t', a', b', B', C', r', y', z', w', ht', ha', hb', hB', hC', hr', g1, g2⟩ | ⟨t', a', b', B', r', y', w', ht', ha', hb', hB', hr', g1, g2⟩
        · exact absurd g1 (by simp)
        · have := (List.cons.inj g1).1; unfold setC at hv'; omega
        · obtain ⟨-, q2⟩ := List.cons.inj g1
          subst q2
          rw [h2, g2, ih hr hr']
        · have := (List.cons.inj g1).1; omega
        · have := (List.cons.inj g1).1; omega
      · subst h1
        rcases h' with ⟨g1, g2⟩ | ⟨v', e', r', y', hv', he', hr', g1, g2⟩ | ⟨r', y', hr', g1, g2⟩ | ⟨t', a', b', B', C', r', y', z', w', ht', ha', hb', hB', hC', hr', g1, g2⟩ | ⟨t', a', b', B', r', y', w', ht', ha', hb', hB', hr', g1, g2⟩
        · exact absurd g1 (by simp)
        · have := (List.cons.inj g1).1; unfold setC at hv'; omega
        · have := (List.cons.inj g1).1; omega
        · rw [if_app, if_app] at g1
          obtain ⟨-, q1⟩ := List.cons.inj g1
          obtain ⟨q2, q3⟩ := List.cons.inj q1
          obtain ⟨q4, q5⟩ := ha.uniq _ _ _ ha' q3
          obtain ⟨q6, q7⟩ := hb.uniq _ _ _ hb' q5
          obtain ⟨q8, q9⟩ := (hB.sq).uq.2 _ _ _ hB'.sq (NH_cons (Or.inl rfl)) (NH_cons (Or.inl rfl)) q7
          obtain ⟨-, q10⟩ := List.cons.inj q9
          obtain ⟨q11, q12⟩ := (hC.sq).uq.2 _ _ _ hC'.sq (NH_cons (Or.inr rfl)) (NH_cons (Or.inr rfl)) q10
          obtain ⟨-, q13⟩ := List.cons.inj q12
          subst q2; subst q4; subst q6; subst q8; subst q11; subst q13
          rw [h2, g2, ih hB hB', ih hC hC', ih hr hr']
        · have := (List.cons.inj g1).1; omega
      · subst h1
        rcases h' with ⟨g1, g2⟩ | ⟨v', e', r', y', hv', he', hr', g1, g2⟩ | ⟨r', y', hr', g1, g2⟩ | ⟨t', a', b', B', C', r', y', z', w', ht', ha', hb', hB', hC', hr', g1, g2⟩ | ⟨t', a', b', B', r', y', w', ht', ha', hb', hB', hr', g1, g2⟩
        · exact absurd g1 (by simp)
        · have := (List.cons.inj g1).1; unfold setC at hv'; omega
        · have := (List.cons.inj g1).1; omega
        · have := (List.cons.inj g1).1; omega
        · rw [wh_app, wh_app] at g1
          obtain ⟨-, q1⟩ := List.cons.inj g1
          obtain ⟨q2, q3⟩ := List.cons.inj q1
          obtain ⟨q4, q5⟩ := ha.uniq _ _ _ ha' q3
          obtain ⟨q6, q7⟩ := hb.uniq _ _ _ hb' q5
          obtain ⟨q8, q9⟩ := (hB.sq).uq.2 _ _ _ hB'.sq (NH_cons (Or.inr rfl)) (NH_cons (Or.inr rfl)) q7
          obtain ⟨-, q13⟩ := List.cons.inj q9
          subst q2; subst q4; subst q6; subst q8; subst q13
          rw [h2, g2, ih hB hB', ih hr hr']
variable (nl sf ff jf wf)
noncomputable def SqF (l : List Int) : X := @Classical.epsilon X ⟨nl⟩ (fun x => ∃ k, RcN nl sf ff jf wf k l x)
variable {nl sf ff jf wf}
theorem SqF_is {l : List Int} {x : X} {k : Nat} (h : RcN nl sf ff jf wf k l x) : SqF nl sf ff jf wf l = x := by
  obtain ⟨m, hm⟩ : ∃ k, RcN nl sf ff jf wf k l (SqF nl sf ff jf wf l) := @Classical.epsilon_spec X (fun x => ∃ k, RcN nl sf ff jf wf k l x) ⟨x, k, h⟩
  exact hm.fn h
theorem SqF_at {l : List Int} (h : Sq l) : ∃ k, RcN nl sf ff jf wf k l (SqF nl sf ff jf wf l) := by
  obtain ⟨x, k, hx⟩ := RcN.ex (nl := nl) (sf := sf) (ff := ff) (jf := jf) (wf := wf) h
  exact ⟨k, by rw [SqF_is hx]; exact hx⟩
theorem SqF_nil : SqF nl sf ff jf wf [] = nl := SqF_is (k := 1) (Or.inl ⟨rfl, rfl⟩)
theorem SqF_set {v : Int} {e r : List Int} (hv : setC v ∨ v = 110) (he : Ex lfR e) (hr : Sq r) : SqF nl sf ff jf wf (v :: (e ++ r)) = sf v e r (SqF nl sf ff jf wf r) := by
  obtain ⟨k, h⟩ := SqF_at (nl := nl) (sf := sf) (ff := ff) (jf := jf) (wf := wf) hr
  exact SqF_is (k := k + 1) (Or.inr (Or.inl ⟨v, e, r, _, hv, he, h, rfl, rfl⟩))
theorem SqF_fail {r : List Int} (hr : Sq r) : SqF nl sf ff jf wf (111 :: r) = ff r (SqF nl sf ff jf wf r) := by
  obtain ⟨k, h⟩ := SqF_at (nl := nl) (sf := sf) (ff := ff) (jf := jf) (wf := wf) hr
  exact SqF_is (k := k + 1) (Or.inr (Or.inr (Or.inl ⟨r, _, h, rfl, rfl⟩)))
theorem SqF_if {t : Int} {a b B C r : List Int} (ht : testC t) (ha : Ex lfR a) (hb : Ex lfR b) (hB : Sq B) (hC : Sq C) (hr : Sq r) : SqF nl sf ff jf wf ((112 :: t :: (a ++ (b ++ (B ++ (113 :: (C ++ [114])))))) ++ r) = jf t a b B C r (SqF nl sf ff jf wf B) (SqF nl sf ff jf wf C) (SqF nl sf ff jf wf r) := by
  obtain ⟨k, h⟩ := SqF_at (nl := nl) (sf := sf) (ff := ff) (jf := jf) (wf := wf) hr
  obtain ⟨k1, h1⟩ := SqF_at (nl := nl) (sf := sf) (ff := ff) (jf := jf) (wf := wf) hB
  obtain ⟨k2, h2⟩ := SqF_at (nl := nl) (sf := sf) (ff := ff) (jf := jf) (wf := wf) hC
  exact SqF_is (k := max k (max k1 k2) + 1) (Or.inr (Or.inr (Or.inr (Or.inl ⟨t, a, b, B, C, r, _, _, _, ht, ha, hb, h1.le (Nat.le_trans (Nat.le_max_left _ _) (Nat.le_max_right _ _)), h2.le (Nat.le_trans (Nat.le_max_right _ _) (Nat.le_max_right _ _)), h.le (Nat.le_max_left _ _), rfl, rfl⟩))))
theorem SqF_wh {t : Int} {a b B r : List Int} (ht : testC t) (ha : Ex lfR a) (hb : Ex lfR b) (hB : Sq B) (hr : Sq r) : SqF nl sf ff jf wf ((115 :: t :: (a ++ (b ++ (B ++ [114])))) ++ r) = wf t a b B r (SqF nl sf ff jf wf B) (SqF nl sf ff jf wf r) := by
  obtain ⟨k, h⟩ := SqF_at (nl := nl) (sf := sf) (ff := ff) (jf := jf) (wf := wf) hr
  obtain ⟨k1, h1⟩ := SqF_at (nl := nl) (sf := sf) (ff := ff) (jf := jf) (wf := wf) hB
  exact SqF_is (k := max k k1 + 1) (Or.inr (Or.inr (Or.inr (Or.inr ⟨t, a, b, B, r, _, _, ht, ha, hb, h1.le (Nat.le_max_right _ _), h.le (Nat.le_max_left _ _), rfl, rfl⟩))))
end RC
