-- ===== unrolling
theorem wp_unrolls_s {n : Nat} : wp_unrolls (n + 1) = wp_unrolls_b (wp_unrolls n) := rfl
def UR (l l' : List Int) : Prop := Sq l' ∧ l'.length ≤ 3 * l.length
def UW (row : Int → Int) (many : Int) (l : List Int) : Prop := ∀ (n : Nat) (q : Int) (f : Int → Int) (m : Int) (P : Int → (Int → Int) → Int → Prop) (K : (Int → Int) → Int → Prop), cs l ≤ n → cs l ≤ 40 → At row q l → 0 ≤ q → q + l.length ≤ many → l.length ≤ 500 → 0 ≤ m → m + 3 * l.length ≤ 2400 → (∀ a b c, wp_unrolls_2 (wp_unrolls n) K row many P a b c → P a b c) → (∀ l' f' m', UR l l' → Wr f m l' f' m' → P (q + l.length) f' m') → P q f m
theorem unrolls_of {row : Int → Int} {many : Int} (hm : many ≤ 2400) {l : List Int} (hl : UW row many l) {n : Nat} {q : Int} {f : Int → Int} {m : Int} {K : (Int → Int) → Int → Prop} (hn : cs l + 1 ≤ n) (h40 : cs l ≤ 40) (ha : At row q l) (h0 : 0 ≤ q) (h1 : q + l.length ≤ many) (h2 : l.length ≤ 500) (h3 : Lst row many (q + l.length)) (m0 : 0 ≤ m) (m1 : m + 3 * l.length ≤ 2400) (hK : ∀ l' f' m', UR l l' → Wr f m l' f' m' → K f' m') : wp_unrolls n row f many m q K := by
  obtain ⟨n, rfl⟩ : ∃ k, n = k + 1 := ⟨n - 1, by omega⟩
  rw [wp_unrolls_s]
  intro P hP
  exact hl n q f m P K (by omega) h40 ha h0 h1 h2 m0 m1 hP (fun l' f' m' hr hw => hP _ _ _ (isLast_yes (by omega) hm h3 (u1 (hK l' f' m' hr hw))))
theorem UW_all {row : Int → Int} {many : Int} (hm : many ≤ 2400) : ∀ {l : List Int}, Sq l → UW row many l := by
  intro l hl
  refine Sq.ind (P := UW row many) ?_ ?_ hl
  · intro n q f m P K _ _ _ _ _ _ _ _ _ h
    have := h [] f m ⟨Sq.nil, by simp⟩ Wr.nil
    simpa using this
  · intro st r hs hr ih n q f m P K hn h40 ha h0 h1 h2 m0 m1 hP h
    rw [cs_app] at hn h40
    rw [List.length_append] at h1 h2 m1 h
    obtain ⟨a1, a2⟩ := At_app.mp ha
    have hp := hs.pos
    have hat := hs.at0 a1
    have hss : Sm Sq st := hs.mono (fun _ h => h.1)
    have hbe := @behind_ok row st hss q
    have tail : ∀ (s' : List Int) (f1 : Int → Int) (m1' : Int), UR st s' → Wr f m s' f1 m1' → wp_unrolls_149 row q P f1 m1' := by
      intro s' f1 m1' hs' w1
      have k1 := w1.1
      obtain ⟨s1, s2⟩ := hs'
      refine hbe (by omega) a1 h0 (by omega) (by omega) ?_
      refine ih n _ f1 m1' P K (by omega) (by omega) a2 (by omega) (by omega) (by omega) (by omega) (by omega) hP (fun r' f2 m2 hr' w2 => ?_)
      obtain ⟨t1, t2⟩ := hr'
      rw [show q + (st.length : Int) + r.length = q + ((st.length + r.length : Nat) : Int) by omega]
      exact h (s' ++ r') f2 m2 ⟨Sq.app s1 t1, by rw [List.length_append, List.length_append]; omega⟩ (w1.app w2)
    refine hP _ _ _ (isLast_no h0 (by omega) hm hat (u0 ⟨⟨by omega, by omega⟩, ?_⟩))
    rcases hs with ⟨v, ex, hv, he, rfl⟩ | rfl | ⟨t, a, b, B, C, ht, hA, hB, hb, hc, rfl⟩ | ⟨t, a, b, B, ht, hA, hB, hb, rfl⟩
    · have e1 : row q = v := a1.1
      unfold setC at hv
      exact ⟨fun _ => ⟨⟨by omega, by omega⟩, fun _ => hbe (by omega) a1 h0 (by omega) (by omega) (writes_ok a1 rfl h0 (by omega) m0 (by omega) (fun f' m' hw => tail _ f' m' ⟨Sq.one hss, by omega⟩ hw)), fun c => absurd c (by omega)⟩, fun c => absurd c (by omega)⟩
    · have e1 : row q = 111 := a1.1
      exact ⟨fun _ => ⟨⟨by omega, by omega⟩, fun _ => hbe (by omega) a1 h0 (by omega) (by omega) (writes_ok a1 rfl h0 (by omega) m0 (by omega) (fun f' m' hw => tail _ f' m' ⟨Sq.one hss, by omega⟩ hw)), fun c => absurd c (by omega)⟩, fun c => absurd c (by omega)⟩
    · have hl := len_if (t := t) (a := a) (b := b) (B := B) (C := C)
      rw [cs_if ht hA hB] at hn h40
      obtain ⟨r1, r2, r3, r4, r5, r6, r7, r8⟩ := At_if.mp a1
      have lb : Lst row many (q + 2 + a.length + b.length + B.length) := Or.inr ⟨by omega, Or.inl r6⟩
      have hh : At row q (112 :: t :: (a ++ b)) := ⟨r1, r2, At_app.mpr ⟨by rw [show q + 1 + 1 = q + 2 by omega]; exact r3, by rw [show q + 1 + 1 + (a.length : Int) = q + 2 + a.length by omega]; exact r4⟩⟩
      have hhl : (112 :: t :: (a ++ b)).length = a.length + b.length + 2 := by simp only [List.length_cons, List.length_append]
      refine ⟨fun _ => ⟨⟨by omega, by omega⟩, fun c => absurd r1 c, fun _ => ?_⟩, fun c => absurd c (by omega)⟩
      refine body_ok hA hB h0 r3 r4 (by omega) (by omega) (by omega) (writes_ok hh (by omega) h0 (by omega) m0 (by omega) (fun f1 m1' g1 => ?_))
      have e1 := g1.1
      refine body_ok hA hB h0 r3 r4 (by omega) (by omega) (by omega) (unrolls_of hm hb.2 (by omega) (by omega) r5 (by omega) (by omega) (by omega) lb (by omega) (by omega) (fun B' f2 m2 hB' g2 => ?_))
      have e2 := g2.1
      obtain ⟨b1, b2⟩ := hB'
      refine body_ok hA hB h0 r3 r4 (by omega) (by omega) (by omega) (close_ok hm hb.1 _ _ (by omega) r5 (by omega) (by omega) (by omega) lb ⟨⟨by omega, by omega⟩, fun c => absurd r6 c, fun _ => write_ok (by omega) (by omega) (fun f3 m3 g3 => ⟨⟨by omega, by omega⟩, ?_⟩)⟩)
      have e3 := g3.1
      simp only [List.length_cons, List.length_nil] at e3
      refine unrolls_of hm hc.2 (by omega) (by omega) r7 (by omega) (by omega) (by omega) (Or.inr ⟨by omega, Or.inr r8⟩) (by omega) (by omega) (fun C' f4 m4 hC' g4 => ?_)
      have e4 := g4.1
      obtain ⟨c1, c2⟩ := hC'
      refine write_ok (by omega) (by omega) (fun f5 m5 g5 => tail (112 :: t :: (a ++ (b ++ (B' ++ (113 :: (C' ++ [114])))))) f5 m5 ⟨Sq.one (Or.inr (Or.inr (Or.inl ⟨t, a, b, B', C', ht, hA, hB, b1, c1, rfl⟩))), by rw [len_if, len_if]; omega⟩ ?_)
      have := g1.app (g2.app (g3.app (g4.app g5)))
      simpa using this
    · have hl := len_wh (t := t) (a := a) (b := b) (B := B)
      obtain ⟨r1, r2, r3, r4, r5, r6⟩ := At_wh.mp a1
      have hh : At row (q + 1) (t :: (a ++ (b ++ B))) := by
        refine ⟨r2, ?_⟩
        rw [show q + 1 + 1 = q + 2 by omega]
        exact At_app.mpr ⟨r3, At_app.mpr ⟨r4, r5⟩⟩
      have hhl : (t :: (a ++ (b ++ B))).length = a.length + b.length + B.length + 1 := by simp only [List.length_cons, List.length_append]; omega
      refine ⟨fun c => absurd r1 c, fun _ => write_ok m0 (by omega) (fun f1 m1' g1 => hbe (by omega) a1 h0 (by omega) (by omega) ⟨⟨by omega, by omega⟩, ⟨by omega, by omega⟩, ?_⟩)⟩
      have e1 := g1.1
      simp only [List.length_cons, List.length_nil] at e1
      refine writes_ok hh (by omega) (by omega) (by omega) (by omega) (by omega) (fun f2 m2 g2 => hbe (by omega) a1 h0 (by omega) (by omega) ?_)
      have e2 := g2.1
      refine writes_ok a1 rfl h0 (by omega) (by omega) (by omega) (fun f3 m3 g3 => ?_)
      have e3 := g3.1
      refine write_ok (by omega) (by omega) (fun f4 m4 g4 => ?_)
      have e4 := g4.1
      simp only [List.length_cons, List.length_nil] at e4
      refine write_ok (by omega) (by omega) (fun f5 m5 g5 => ?_)
      refine tail (112 :: t :: (a ++ (b ++ ((B ++ (115 :: t :: (a ++ (b ++ (B ++ [114]))))) ++ (113 :: ([] ++ [114])))))) f5 m5 ⟨Sq.one (Or.inr (Or.inr (Or.inl ⟨t, a, b, _, [], ht, hA, hB, Sq.app hb.1 (Sq.one hss), Sq.nil, rfl⟩))), ?_⟩ ?_
      · rw [len_if, List.length_append, hl, List.length_nil]; omega
      · have := g1.app (g2.app (g3.app (g4.app g5)))
        simpa using this
theorem unrolls_ok {row f : Int → Int} {many : Int} {l : List Int} (h : WF row many l) {K : (Int → Int) → Int → Prop} (hK : ∀ l' f', UR l l' → At f' 0 l' → K f' l'.length) : wp_unrolls 100 row f many 0 0 K := by
  have hl := h.len
  obtain ⟨h1, h2, h3, h4, h5⟩ := h
  refine unrolls_of (by omega) (UW_all (by omega) h1) (by omega) h4 h2 (by omega) (by omega) (by omega) (Or.inl (by omega)) (by omega) (by omega) (fun l' f' m' hr hw => ?_)
  rw [hw.1, show (0 : Int) + l'.length = l'.length by omega]
  exact hK l' f' hr hw.2.1
-- ===== rows that differ in what they read alone
def vr (c : Int) : Prop := 20 ≤ c ∧ c ≤ 25
def Lk : List Int → List Int → Prop
  | [], [] => True
  | a :: l, b :: m => (a = b ∨ (vr a ∧ vr b)) ∧ Lk l m
  | _, _ => False
theorem Lk.len : ∀ {l m : List Int}, Lk l m → l.length = m.length := by
  intro l
  induction l with
  | nil => intro m h; cases m with
    | nil => rfl
    | cons b m => exact absurd h id
  | cons a l ih => intro m h; cases m with
    | nil => exact absurd h id
    | cons b m => simp only [List.length_cons]; rw [ih h.2]
theorem Lk.split : ∀ {a b m : List Int}, Lk (a ++ b) m → ∃ m1 m2, m = m1 ++ m2 ∧ Lk a m1 ∧ Lk b m2 := by
  intro a
  induction a with
  | nil => intro b m h; exact ⟨[], m, rfl, trivial, h⟩
  | cons c a ih => intro b m h; cases m with
    | nil => exact absurd h id
    | cons d m =>
      obtain ⟨m1, m2, e, h1, h2⟩ := ih h.2
      exact ⟨d :: m1, m2, by rw [e]; rfl, ⟨h.1, h1⟩, h2⟩
theorem Lk.cons {c : Int} {l m : List Int} (h : Lk (c :: l) m) (hc : ¬ vr c) : ∃ m', m = c :: m' ∧ Lk l m' := by
  cases m with
  | nil => exact absurd h id
  | cons d m =>
    rcases h.1 with e | e
    · exact ⟨m, by rw [e], h.2⟩
    · exact absurd e.1 hc
theorem Lk.one {c : Int} {m : List Int} (h : Lk [c] m) (hc : ¬ vr c) : m = [c] := by
  obtain ⟨m', e, h'⟩ := h.cons hc
  cases m' with
  | nil => exact e
  | cons d m' => exact absurd h' id
theorem Ex.lk {e : List Int} (he : Ex lfR e) : ∀ {m : List Int}, Lk e m → Ex lfR m := by
  refine Ex.ind (P := fun e => ∀ {m : List Int}, Lk e m → Ex lfR m) ?_ ?_ he
  · intro c hc m h
    cases m with
    | nil => exact absurd h id
    | cons d m =>
      cases m with
      | cons d' m => exact absurd h.2 id
      | nil =>
        rcases h.1 with e | e
        · rw [← e]; exact Ex.leaf hc
        · exact Ex.leaf (Or.inr e.2)
  · intro o a b ho _ _ iha ihb m h
    obtain ⟨m', rfl, h'⟩ := h.cons (by unfold opC at ho; unfold vr; omega)
    obtain ⟨m1, m2, rfl, h1, h2⟩ := h'.split
    exact Ex.op ho (iha h1) (ihb h2)
theorem Sm.lk {S T : List Int → Prop} (hST : ∀ B m, S B → Lk B m → T m) {s : List Int} (hs : Sm S s) {m : List Int} (h : Lk s m) : Sm T m := by
  rcases hs with ⟨v, e, hv, he, rfl⟩ | rfl | ⟨t, a, b, B, C, ht, hA, hB, hb, hc, rfl⟩ | ⟨t, a, b, B, ht, hA, hB, hb, rfl⟩
  · obtain ⟨m', rfl, h'⟩ := h.cons (by unfold setC at hv; unfold vr; omega)
    exact Or.inl ⟨v, m', hv, he.lk h', rfl⟩
  · rw [h.one (by unfold vr; omega)]
    exact Or.inr (Or.inl rfl)
  · obtain ⟨m1, rfl, k1⟩ := h.cons (by unfold vr; omega)
    obtain ⟨m2, rfl, k2⟩ := k1.cons (by unfold testC at ht; unfold vr; omega)
    obtain ⟨a', m3, rfl, ha', k3⟩ := k2.split
    obtain ⟨b', m4, rfl, hb', k4⟩ := k3.split
    obtain ⟨B', m5, rfl, hB', k5⟩ := k4.split
    obtain ⟨m6, rfl, k6⟩ := k5.cons (by unfold vr; omega)
    obtain ⟨C', m7, rfl, hC', k7⟩ := k6.split
    rw [k7.one (by unfold vr; omega)]
    exact Or.inr (Or.inr (Or.inl ⟨t, a', b', B', C', ht, hA.lk ha', hB.lk hb', hST _ _ hb hB', hST _ _ hc hC', rfl⟩))
  · obtain ⟨m1, rfl, k1⟩ := h.cons (by unfold vr; omega)
    obtain ⟨m2, rfl, k2⟩ := k1.cons (by unfold testC at ht; unfold vr; omega)
    obtain ⟨a', m3, rfl, ha', k3⟩ := k2.split
    obtain ⟨b', m4, rfl, hb', k4⟩ := k3.split
    obtain ⟨B', m5, rfl, hB', k5⟩ := k4.split
    rw [k5.one (by unfold vr; omega)]
    exact Or.inr (Or.inr (Or.inr ⟨t, a', b', B', ht, hA.lk ha', hB.lk hb', hST _ _ hb hB', rfl⟩))
theorem Sq.lk {l : List Int} (hl : Sq l) : ∀ {m : List Int}, Lk l m → Sq m := by
  refine Sq.ind (P := fun l => ∀ {m : List Int}, Lk l m → Sq m) ?_ ?_ hl
  · intro m h
    cases m with
    | nil => exact Sq.nil
    | cons d m => exact absurd h id
  · intro s r hs _ ih m h
    obtain ⟨m1, m2, rfl, h1, h2⟩ := h.split
    exact Sq.cons (hs.lk (fun B m hB hm => hB.2 hm) h1) (ih h2)
theorem Lk.cnt : ∀ {l m : List Int}, Lk l m → cs l = cs m ∧ cp l = cp m := by
  intro l
  induction l with
  | nil => intro m h; cases m with
    | nil => exact ⟨rfl, rfl⟩
    | cons b m => exact absurd h id
  | cons a l ih => intro m h; cases m with
    | nil => exact absurd h id
    | cons b m =>
      have := ih h.2
      rcases h.1 with e | ⟨e1, e2⟩
      · subst e
        unfold cs cp at *
        rw [List.countP_cons, List.countP_cons, List.countP_cons, List.countP_cons, this.1, this.2]
        exact ⟨rfl, rfl⟩
      · unfold vr at e1 e2
        rw [cs_no (by omega), cs_no (by omega), cp_yes (by omega), cp_yes (by omega), this.1, this.2]
        exact ⟨rfl, rfl⟩
theorem At_lk {g g' : Int → Int} : ∀ {l : List Int} {p : Int}, At g p l → (∀ j : Int, p ≤ j → j < p + l.length → g' j = g j ∨ (vr (g j) ∧ vr (g' j))) → ∃ m, At g' p m ∧ Lk l m := by
  intro l
  induction l with
  | nil => intro p _ _; exact ⟨[], trivial, trivial⟩
  | cons c l ih =>
    intro p ha h
    obtain ⟨m, h1, h2⟩ := ih ha.2 (fun j j0 j1 => h j (by omega) (by simp only [List.length_cons]; omega))
    refine ⟨g' p :: m, ⟨rfl, h1⟩, ?_, h2⟩
    have := h p (by omega) (by simp only [List.length_cons]; omega)
    rw [ha.1] at this
    rcases this with e | e
    · exact Or.inl e.symm
    · exact Or.inr e
theorem WF.lk {row row' : Int → Int} {many : Int} {l : List Int} (h : WF row many l) (hr : ∀ j : Int, row' j = row j ∨ (vr (row j) ∧ vr (row' j))) : ∃ l', WF row' many l' ∧ Lk l l' := by
  obtain ⟨m, h1, h2⟩ := At_lk h.2.1 (fun j _ _ => hr j)
  have hc := h2.cnt
  exact ⟨m, ⟨h.1.lk h2, h1, by rw [h.2.2.1, h2.len], by rw [← hc.1]; exact h.2.2.2.1, by rw [← hc.2]; exact h.2.2.2.2⟩, h2⟩
/-- ... and what follows it in the same row of statements -/
theorem stmt_seq {row : Int → Int} {many : Int} : ∀ {l : List Int}, Sq l → ∀ (q p : Int), At row q l → Lst row many (q + l.length) → q + l.length ≤ many → q ≤ p → p < q + l.length → isS (row p) = true → ∃ s r : List Int, Sm Sq s ∧ Sq r ∧ At row p s ∧ At row (p + s.length) r ∧ Lst row many (p + s.length + r.length) ∧ p + s.length + r.length ≤ q + l.length ∧ cs s + cs r ≤ cs l := by
  intro l hl
  refine Sq.ind (P := fun l => ∀ (q p : Int), At row q l → Lst row many (q + l.length) → q + l.length ≤ many → q ≤ p → p < q + l.length → isS (row p) = true → ∃ s r : List Int, Sm Sq s ∧ Sq r ∧ At row p s ∧ At row (p + s.length) r ∧ Lst row many (p + s.length + r.length) ∧ p + s.length + r.length ≤ q + l.length ∧ cs s + cs r ≤ cs l) ?_ ?_ hl
  · intro q p _ _ _ h0 h1 _; simp at h1; omega
  · intro s r hs hr ih q p ha hL hM h0 h1 hc
    obtain ⟨a1, a2⟩ := At_app.mp ha
    rw [List.length_append] at h1 hL hM
    rw [cs_app, List.length_append]
    have e : q + ((s.length + r.length : Nat) : Int) = q + (s.length : Int) + r.length := by omega
    rw [e] at hL
    by_cases hp : q + s.length ≤ p
    · obtain ⟨s', r', g1, g2, g3, g4, g5, g6, g7⟩ := ih _ p a2 hL (by omega) hp (by omega) hc
      exact ⟨s', r', g1, g2, g3, g4, g5, by omega, by omega⟩
    · by_cases hq : p = q
      · subst hq
        exact ⟨s, r, hs.mono (fun _ h => h.1), hr, a1, a2, hL, by omega, by omega⟩
      · rcases hs with ⟨v, e, hv, he, rfl⟩ | rfl | ⟨t, a, b, B, C, ht, hA, hB, hb, hcc, rfl⟩ | ⟨t, a, b, B, ht, hA, hB, hb, rfl⟩
        · exact absurd hc (he.noS a1.2 (by omega) (by simp only [List.length_cons] at hp; omega))
        · simp at hp; omega
        · rw [len_if] at hp hM ⊢
          rw [cs_if ht hA hB]
          obtain ⟨r1, r2, r3, r4, r5, r6, r7, r8⟩ := At_if.mp a1
          unfold testC at ht
          have hS := isS_t.mp hc
          by_cases c1 : p = q + 1
          · rw [c1, r2] at hS; omega
          by_cases c2 : p < q + 2 + a.length
          · exact absurd hc (hA.noS r3 (by omega) c2)
          by_cases c3 : p < q + 2 + a.length + b.length
          · exact absurd hc (hB.noS r4 (by omega) c3)
          by_cases c4 : p < q + 2 + a.length + b.length + B.length
          · obtain ⟨s', r', g1, g2, g3, g4, g5, g6, g7⟩ := hb.2 _ p r5 (Or.inr ⟨by omega, Or.inl r6⟩) (by omega) (by omega) c4 hc
            exact ⟨s', r', g1, g2, g3, g4, g5, by omega, by omega⟩
          by_cases c5 : p = q + 2 + a.length + b.length + B.length
          · rw [c5, r6] at hS; omega
          by_cases c6 : p < q + 2 + a.length + b.length + B.length + 1 + C.length
          · obtain ⟨s', r', g1, g2, g3, g4, g5, g6, g7⟩ := hcc.2 _ p r7 (Or.inr ⟨by omega, Or.inr r8⟩) (by omega) (by omega) c6 hc
            exact ⟨s', r', g1, g2, g3, g4, g5, by omega, by omega⟩
          · have c7 : p = q + 2 + a.length + b.length + B.length + 1 + C.length := by omega
            rw [c7, r8] at hS; omega
        · rw [len_wh] at hp hM ⊢
          rw [cs_wh ht hA hB]
          obtain ⟨r1, r2, r3, r4, r5, r6⟩ := At_wh.mp a1
          unfold testC at ht
          have hS := isS_t.mp hc
          by_cases c1 : p = q + 1
          · rw [c1, r2] at hS; omega
          by_cases c2 : p < q + 2 + a.length
          · exact absurd hc (hA.noS r3 (by omega) c2)
          by_cases c3 : p < q + 2 + a.length + b.length
          · exact absurd hc (hB.noS r4 (by omega) c3)
          by_cases c4 : p < q + 2 + a.length + b.length + B.length
          · obtain ⟨s', r', g1, g2, g3, g4, g5, g6, g7⟩ := hb.2 _ p r5 (Or.inr ⟨by omega, Or.inr r6⟩) (by omega) (by omega) c4 hc
            exact ⟨s', r', g1, g2, g3, g4, g5, by omega, by omega⟩
          · have c7 : p = q + 2 + a.length + b.length + B.length := by omega
            rw [c7, r6] at hS; omega
-- ===== the hasty copy
theorem replaces_ok {row : Int → Int} {p q v w : Int} {K : (Int → Int) → Prop} (h0 : 0 ≤ p) (h1 : q ≤ 2400) (v0 : 0 ≤ v) (v1 : v ≤ 5) (w0 : 0 ≤ w) (w1 : w ≤ 5) (hK : ∀ r : Int → Int, (∀ j : Int, r j = row j ∨ (p ≤ j ∧ j < q ∧ vr (row j) ∧ vr (r j))) → K r) : wp_replaces row p q v w K := by
  refine wl2_rule (fun (i : Int) (r : Int → Int) => p ≤ i ∧ (∀ j : Int, r j = row j ∨ (p ≤ j ∧ j < q ∧ vr (row j) ∧ vr (r j))) ∧ ∀ j : Int, i ≤ j → r j = row j) (fun (i : Int) _ => (q - i).toNat) ?_ ⟨by omega, fun j => Or.inl rfl, fun _ _ => rfl⟩
  rintro P i r ⟨hi, hr, hz⟩ ih
  refine ⟨fun _ => hK r hr, fun h => ⟨⟨by omega, by omega⟩, ⟨by omega, by omega⟩, fun _ => ⟨⟨by omega, by omega⟩, ih _ _ ⟨by omega, hr, fun j hj => hz j (by omega)⟩ (by omega)⟩, fun hc => ⟨⟨by omega, by omega⟩, ⟨by omega, by omega⟩, ⟨by omega, by omega⟩, ih _ _ ⟨by omega, fun j => ?_, fun j hj => ?_⟩ (by omega)⟩⟩⟩
  · by_cases hj : j = i
    · subst hj
      have e : uZ r j (20 + w) j = 20 + w := if_pos rfl
      refine Or.inr ⟨by omega, by omega, ?_, ?_⟩
      · rw [← hz j (by omega)]; unfold vr; omega
      · rw [e]; unfold vr; omega
    · rw [show uZ r i (20 + w) j = r j from if_neg hj]; exact hr j
  · rw [show uZ r i (20 + w) j = r j from if_neg (by omega)]; exact hz j (by omega)
theorem copyFrom_ok {row : Int → Int} {many : Int} {l : List Int} (h : WF row many l) {p v w : Int} (hp0 : 0 ≤ p) (hp1 : p < many) (hS : isS (row p) = true) (v0 : 0 ≤ v) (v1 : v ≤ 5) (w0 : 0 ≤ w) (w1 : w ≤ 5) {K : (Int → Int) → Prop} (hK : ∀ r l', WF r many l' → K r) : wp_copyFrom row many p v w K := by
  have hlen := h.len
  have hm : many ≤ 460 := by have := h.2.2.1; omega
  obtain ⟨s, r, g1, g2, g3, g4, g5, g6, g7⟩ := stmt_seq (row := row) (many := many) h.1 0 p h.2.1 (Or.inl (by have := h.2.2.1; omega)) (by have := h.2.2.1; omega) hp0 (by have := h.2.2.1; omega) hS
  have h40 := h.2.2.2.1
  have hm2 := h.2.2.1
  refine behind_ok g1 (by omega) g3 hp0 (by omega) (by omega) ?_
  refine wl2_rule (fun (q : Int) (ρ : Int → Int) => ∃ r l', WF ρ many l' ∧ Sq r ∧ 0 ≤ q ∧ At ρ q r ∧ Lst ρ many (q + r.length) ∧ q + r.length ≤ many ∧ cs r ≤ 40) (fun (q : Int) _ => (many - q).toNat) ?_ ⟨r, l, h, g2, by omega, g4, g5, by omega, by omega⟩
  rintro P q ρ ⟨r, l, h, hr, q0, ha, hL, hM, hc⟩ ih
  rcases hr.cases with rfl | ⟨s, r', hs, hr', rfl⟩
  · rw [show q + (([] : List Int).length : Int) = q by simp] at hL
    exact isLast_yes q0 (by omega) hL (u1 (hK ρ l h))
  · obtain ⟨a1, a2⟩ := At_app.mp ha
    have hp := hs.pos
    rw [List.length_append] at hM hL
    rw [cs_app] at hc
    have e : q + ((s.length + r'.length : Nat) : Int) = q + (s.length : Int) + r'.length := by omega
    rw [e] at hL
    have hat := hs.at0 a1
    have main : wp_copyFrom_69 K v w q ρ P := by
      refine behind_ok hs (by omega) a1 q0 (by omega) (by omega) (replaces_ok q0 (by omega) v0 v1 w0 w1 (fun ρ' hρ => ?_))
      obtain ⟨l', hl', _⟩ := h.lk (row' := ρ') (fun j => (hρ j).imp id (fun x => x.2.2))
      obtain ⟨s', as', ks'⟩ := At_lk a1 (fun j _ _ => (hρ j).imp id (fun x => x.2.2))
      have hs' : Sm Sq s' := hs.lk (fun B m hB hm => hB.lk hm) ks'
      have ls' := ks'.len
      have cs' := ks'.cnt.1
      have same : ∀ j : Int, q + s.length ≤ j → ρ' j = ρ j := fun j hj => (hρ j).elim id (fun x => absurd x.2.1 (by omega))
      refine ⟨⟨by omega, by omega⟩, ⟨by omega, by omega⟩, fun _ => ?_, fun _ => hK ρ' l' hl'⟩
      refine behind_ok hs' (by omega) as' q0 (by omega) (by omega) ?_
      rw [← ls']
      refine ih _ _ ⟨r', l', hl', hr', by omega, At_same (fun j j0 _ => same j j0) a2, ?_, by omega, by omega⟩ (by omega)
      unfold Lst at hL ⊢
      rw [same (q + s.length + r'.length) (by omega)]
      exact hL
    have nest : ∀ z, wp_copyFrom_45 K v w q ρ P z := fun z => ⟨fun _ => main, fun _ => behind_ok hs (by omega) a1 q0 (by omega) (by omega) (sets_ok q0 (by omega) v0 v1 (fun b hb => ⟨fun _ => main, fun _ => hK ρ l h⟩))⟩
    exact isLast_no q0 (by omega) (by omega) hat (u0 ⟨⟨by omega, by omega⟩, fun _ => nest 1, fun _ => ⟨⟨by omega, by omega⟩, fun _ => nest 0, fun _ => nest 1⟩⟩)
theorem hastyCopy_ok {row : Int → Int} {many : Int} {l : List Int} (h : WF row many l) {K : (Int → Int) → Prop} (hK : ∀ r l', WF r many l' → K r) : wp_hastyCopy row many K := by
  refine wl2_rule (fun (i : Int) (ρ : Int → Int) => 0 ≤ i ∧ ∃ l', WF ρ many l') (fun (i : Int) _ => (many - i).toNat) ?_ ⟨by omega, l, h⟩
  rintro P i ρ ⟨hi, l', h⟩ ih
  have hlen := h.len
  have hm := h.2.2.1
  have next : ∀ ρ', (∃ l', WF ρ' many l') → i < many → rng (i + 1) ∧ P (i + 1) ρ' := fun ρ' hx hlt => ⟨⟨by omega, by omega⟩, ih _ _ ⟨by omega, hx⟩ (by omega)⟩
  refine ⟨fun _ => hK ρ l' h, fun hlt => ⟨⟨by omega, by omega⟩, isIn_c (fun x y => t1 ⟨⟨by omega, by omega⟩, isIn_c (fun x' y' => u1 ⟨⟨by omega, by omega⟩, ⟨by omega, by omega⟩, ⟨by omega, by omega⟩, ⟨by omega, by omega⟩, fun _ => next ρ ⟨l', h⟩ hlt, fun _ => ?_⟩) (fun _ => u0 (next ρ ⟨l', h⟩ hlt))⟩) (fun _ => t0 (next ρ ⟨l', h⟩ hlt))⟩⟩
  exact copyFrom_ok h hi hlt (isS_t.mpr (Or.inl ⟨x, y⟩)) (by omega) (by omega) (by omega) (by omega) (fun r l2 h2 => next r ⟨l2, h2⟩ hlt)
