-- ===== copies: what is not out
theorem wp_copies_s {n : Nat} : wp_copies (n + 1) = wp_copies_b (wp_copies n) := rfl
def CR (row o : Int → Int) (q : Int) (l l' : List Int) : Prop := Sq l' ∧ cs l' ≤ cs l ∧ cp l' ≤ cp l ∧ l'.length ≤ l.length ∧ ((∃ p, q ≤ p ∧ p < q + l.length ∧ isS (row p) = true ∧ o p ≠ 0) → l'.length < l.length)
def CW (row : Int → Int) (many : Int) (o : Int → Int) (l : List Int) : Prop := ∀ (q : Int), cs l ≤ 40 → At row q l → 0 ≤ q → q + l.length ≤ many → l.length ≤ 500 → ∃ l' : List Int, CR row o q l l' ∧ ∀ (n : Nat) (f : Int → Int) (m : Int) (P : Int → (Int → Int) → Int → Prop) (K : (Int → Int) → Int → Prop), cs l ≤ n → 0 ≤ m → m + l.length ≤ 2400 → (∀ a b c, wp_copies_2 (wp_copies n) K row many o P a b c → P a b c) → (∀ f' m', Wr f m l' f' m' → P (q + l.length) f' m') → P q f m
theorem copies_of {row : Int → Int} {many : Int} (hm : many ≤ 2400) {o : Int → Int} {l : List Int} (hl : CW row many o l) {q : Int} (h40 : cs l ≤ 40) (ha : At row q l) (h0 : 0 ≤ q) (h1 : q + l.length ≤ many) (h2 : l.length ≤ 500) (h3 : Lst row many (q + l.length)) : ∃ l' : List Int, CR row o q l l' ∧ ∀ (n : Nat) (f : Int → Int) (m : Int) (K : (Int → Int) → Int → Prop), cs l + 1 ≤ n → 0 ≤ m → m + l.length ≤ 2400 → (∀ f' m', Wr f m l' f' m' → K f' m') → wp_copies n row f many m o q K := by
  obtain ⟨l', hr, hw⟩ := hl q h40 ha h0 h1 h2
  refine ⟨l', hr, fun n f m K hn m0 m1 hK => ?_⟩
  obtain ⟨n, rfl⟩ : ∃ k, n = k + 1 := ⟨n - 1, by omega⟩
  rw [wp_copies_s]
  intro P hP
  exact hw n f m P K (by omega) m0 m1 hP (fun f' m' h => hP _ _ _ (isLast_yes (by omega) hm h3 (u1 (hK f' m' h))))
theorem CW_all {row : Int → Int} {many : Int} (hm : many ≤ 2400) {o : Int → Int} : ∀ {l : List Int}, Sq l → CW row many o l := by
  intro l hl
  refine Sq.ind (P := CW row many o) ?_ ?_ hl
  · intro q _ _ _ _ _
    exact ⟨[], ⟨Sq.nil, Nat.le_refl _, Nat.le_refl _, Nat.le_refl _, fun ⟨p, h1, h2, _⟩ => by simp at h2; omega⟩, fun n f m P K _ _ _ _ h => by simpa using h _ _ Wr.nil⟩
  · intro st r hs hr ih q h40 ha h0 h1 h2
    rw [cs_app] at h40
    rw [List.length_append] at h1 h2
    obtain ⟨a1, a2⟩ := At_app.mp ha
    have hp := hs.pos
    have hcs := hs.csp
    have hat := hs.at0 a1
    have hss : Sm Sq st := hs.mono (fun _ h => h.1)
    have hbe := @behind_ok row st hss q
    obtain ⟨r', hr', hw'⟩ := ih (q + st.length) (by omega) a2 (by omega) (by omega) (by omega)
    have one : ∃ s' : List Int, CR row o q st s' ∧ ∀ (n : Nat) (f : Int → Int) (m : Int) (P : Int → (Int → Int) → Int → Prop) (K : (Int → Int) → Int → Prop), cs st ≤ n → 0 ≤ m → m + st.length ≤ 2400 → (∀ a b c, wp_copies_2 (wp_copies n) K row many o P a b c → P a b c) → (∀ f' m', Wr f m s' f' m' → P (q + st.length) f' m') → P q f m := by
      have tail : ∀ (P : Int → (Int → Int) → Int → Prop) (x : Int → Int) (y : Int), P (q + st.length) x y → wp_copies_116 row q P x y := fun P x y h => hbe (by omega) a1 h0 (by omega) (by omega) h
      by_cases hout : o q = 0
      · rcases hs with ⟨v, ex, hv, he, rfl⟩ | rfl | ⟨t, a, b, B, C, ht, hA, hB, hb, hc, rfl⟩ | ⟨t, a, b, B, ht, hA, hB, hb, rfl⟩
        · have e1 : row q = v := a1.1
          unfold setC at hv
          refine ⟨v :: ex, ⟨Sq.one hss, Nat.le_refl _, Nat.le_refl _, Nat.le_refl _, fun ⟨p, p1, p2, p3, p4⟩ => ?_⟩, fun n f m P K hn m0 m1 hP h => hP _ _ _ (isLast_no h0 (by omega) hm hat (u0 ⟨⟨by omega, by omega⟩, fun _ => ⟨⟨by omega, by omega⟩, fun c => absurd c (by omega), fun _ => ⟨⟨by omega, by omega⟩, fun c => absurd c (by omega), fun _ => hbe (by omega) a1 h0 (by omega) (by omega) (writes_ok a1 rfl h0 (by omega) m0 m1 (fun f' m' hw => tail P _ _ (h f' m' hw)))⟩⟩, fun c => absurd hout c⟩))⟩
          by_cases hq : p = q
          · rw [hq] at p4; exact absurd hout p4
          · exact absurd p3 (he.noS a1.2 (by omega) (by simp only [List.length_cons] at p2; omega))
        · have e1 : row q = 111 := a1.1
          refine ⟨[111], ⟨Sq.one hss, Nat.le_refl _, Nat.le_refl _, Nat.le_refl _, fun ⟨p, p1, p2, p3, p4⟩ => ?_⟩, fun n f m P K hn m0 m1 hP h => hP _ _ _ (isLast_no h0 (by omega) hm hat (u0 ⟨⟨by omega, by omega⟩, fun _ => ⟨⟨by omega, by omega⟩, fun c => absurd c (by omega), fun _ => ⟨⟨by omega, by omega⟩, fun c => absurd c (by omega), fun _ => hbe (by omega) a1 h0 (by omega) (by omega) (writes_ok a1 rfl h0 (by omega) m0 m1 (fun f' m' hw => tail P _ _ (h f' m' hw)))⟩⟩, fun c => absurd hout c⟩))⟩
          have hq : p = q := by simp at p2; omega
          rw [hq] at p4; exact absurd hout p4
        · rw [cs_if ht hA hB] at h40
          have hl := len_if (t := t) (a := a) (b := b) (B := B) (C := C)
          obtain ⟨r1, r2, r3, r4, r5, r6, r7, r8⟩ := At_if.mp a1
          have lb : Lst row many (q + 2 + a.length + b.length + B.length) := Or.inr ⟨by omega, Or.inl r6⟩
          obtain ⟨B', cB', wB⟩ := copies_of hm hb.2 (q := q + 2 + a.length + b.length) (by omega) r5 (by omega) (by omega) (by omega) lb
          obtain ⟨C', cC', wC⟩ := copies_of hm hc.2 (q := q + 2 + a.length + b.length + B.length + 1) (by omega) r7 (by omega) (by omega) (by omega) (Or.inr ⟨by omega, Or.inr r8⟩)
          have hl' := len_if (t := t) (a := a) (b := b) (B := B') (C := C')
          have hs' : Sm Sq (112 :: t :: (a ++ (b ++ (B' ++ (113 :: (C' ++ [114])))))) := Or.inr (Or.inr (Or.inl ⟨t, a, b, B', C', ht, hA, hB, cB'.1, cC'.1, rfl⟩))
          obtain ⟨b1, b2, b3, b4, b5⟩ := cB'
          obtain ⟨c1, c2, c3, c4, c5⟩ := cC'
          refine ⟨_, ⟨Sq.one hs', by rw [cs_if ht hA hB, cs_if ht hA hB]; omega, by rw [cp_if ht hA hB, cp_if ht hA hB]; omega, by omega, fun ⟨p, p1, p2, p3, p4⟩ => ?_⟩, fun n f m P K hn m0 m1 hP h => ?_⟩
          · have hS := isS_t.mp p3
            unfold testC at ht
            by_cases k0 : p = q
            · rw [k0] at p4; exact absurd hout p4
            by_cases k1 : p = q + 1
            · rw [k1, r2] at hS; omega
            by_cases k2 : p < q + 2 + a.length
            · exact absurd p3 (hA.noS r3 (by omega) k2)
            by_cases k3 : p < q + 2 + a.length + b.length
            · exact absurd p3 (hB.noS r4 (by omega) k3)
            by_cases k4 : p < q + 2 + a.length + b.length + B.length
            · have := b5 ⟨p, by omega, by omega, p3, p4⟩; omega
            by_cases k5 : p = q + 2 + a.length + b.length + B.length
            · rw [k5, r6] at hS; omega
            by_cases k6 : p < q + 2 + a.length + b.length + B.length + 1 + C.length
            · have := c5 ⟨p, by omega, by omega, p3, p4⟩; omega
            · rw [show p = q + 2 + a.length + b.length + B.length + 1 + C.length by omega, r8] at hS; omega
          · rw [cs_if ht hA hB] at hn
            refine hP _ _ _ (isLast_no h0 (by omega) hm hat (u0 ⟨⟨by omega, by omega⟩, fun _ => ⟨⟨by omega, by omega⟩, fun _ => ?_, fun c => absurd r1 c⟩, fun c => absurd hout c⟩))
            have hh : At row q (112 :: t :: (a ++ b)) := ⟨r1, r2, At_app.mpr ⟨by rw [show q + 1 + 1 = q + 2 by omega]; exact r3, by rw [show q + 1 + 1 + (a.length : Int) = q + 2 + a.length by omega]; exact r4⟩⟩
            have hhl : (112 :: t :: (a ++ b)).length = a.length + b.length + 2 := by simp only [List.length_cons, List.length_append]
            refine body_ok hA hB h0 r3 r4 (by omega) (by omega) (by omega) (writes_ok hh (by omega) h0 (by omega) m0 (by omega) (fun f1 m1' g1 => ?_))
            have e1 := g1.1
            refine body_ok hA hB h0 r3 r4 (by omega) (by omega) (by omega) (wB n f1 m1' _ (by omega) (by omega) (by omega) (fun f2 m2 g2 => ?_))
            have e2 := g2.1
            refine body_ok hA hB h0 r3 r4 (by omega) (by omega) (by omega) (close_ok hm hb.1 _ _ (by omega) r5 (by omega) (by omega) (by omega) lb ⟨⟨by omega, by omega⟩, fun c => absurd r6 c, fun _ => write_ok (by omega) (by omega) (fun f3 m3 g3 => ⟨⟨by omega, by omega⟩, ?_⟩)⟩)
            have e3 := g3.1
            simp only [List.length_cons, List.length_nil] at e3
            refine wC n f3 m3 _ (by omega) (by omega) (by omega) (fun f4 m4 g4 => write_ok (by have := g4.1; omega) (by have := g4.1; omega) (fun f5 m5 g5 => tail P _ _ (h f5 m5 ?_)))
            have := g1.app (g2.app (g3.app (g4.app g5)))
            simpa using this
        · rw [cs_wh ht hA hB] at h40
          have hl := len_wh (t := t) (a := a) (b := b) (B := B)
          obtain ⟨r1, r2, r3, r4, r5, r6⟩ := At_wh.mp a1
          have lb : Lst row many (q + 2 + a.length + b.length + B.length) := Or.inr ⟨by omega, Or.inr r6⟩
          obtain ⟨B', cB', wB⟩ := copies_of hm hb.2 (q := q + 2 + a.length + b.length) (by omega) r5 (by omega) (by omega) (by omega) lb
          have hl' := len_wh (t := t) (a := a) (b := b) (B := B')
          have hs' : Sm Sq (115 :: t :: (a ++ (b ++ (B' ++ [114])))) := Or.inr (Or.inr (Or.inr ⟨t, a, b, B', ht, hA, hB, cB'.1, rfl⟩))
          obtain ⟨b1, b2, b3, b4, b5⟩ := cB'
          refine ⟨_, ⟨Sq.one hs', by rw [cs_wh ht hA hB, cs_wh ht hA hB]; omega, by rw [cp_wh ht hA hB, cp_wh ht hA hB]; omega, by omega, fun ⟨p, p1, p2, p3, p4⟩ => ?_⟩, fun n f m P K hn m0 m1 hP h => ?_⟩
          · have hS := isS_t.mp p3
            unfold testC at ht
            by_cases k0 : p = q
            · rw [k0] at p4; exact absurd hout p4
            by_cases k1 : p = q + 1
            · rw [k1, r2] at hS; omega
            by_cases k2 : p < q + 2 + a.length
            · exact absurd p3 (hA.noS r3 (by omega) k2)
            by_cases k3 : p < q + 2 + a.length + b.length
            · exact absurd p3 (hB.noS r4 (by omega) k3)
            by_cases k4 : p < q + 2 + a.length + b.length + B.length
            · have := b5 ⟨p, by omega, by omega, p3, p4⟩; omega
            · rw [show p = q + 2 + a.length + b.length + B.length by omega, r6] at hS; omega
          · rw [cs_wh ht hA hB] at hn
            refine hP _ _ _ (isLast_no h0 (by omega) hm hat (u0 ⟨⟨by omega, by omega⟩, fun _ => ⟨⟨by omega, by omega⟩, fun c => absurd c (by omega), fun _ => ⟨⟨by omega, by omega⟩, fun _ => ?_, fun c => absurd r1 c⟩⟩, fun c => absurd hout c⟩))
            have hh : At row q (115 :: t :: (a ++ b)) := ⟨r1, r2, At_app.mpr ⟨by rw [show q + 1 + 1 = q + 2 by omega]; exact r3, by rw [show q + 1 + 1 + (a.length : Int) = q + 2 + a.length by omega]; exact r4⟩⟩
            have hhl : (115 :: t :: (a ++ b)).length = a.length + b.length + 2 := by simp only [List.length_cons, List.length_append]
            refine body_ok hA hB h0 r3 r4 (by omega) (by omega) (by omega) (writes_ok hh (by omega) h0 (by omega) m0 (by omega) (fun f1 m1' g1 => ?_))
            have e1 := g1.1
            refine body_ok hA hB h0 r3 r4 (by omega) (by omega) (by omega) (wB n f1 m1' _ (by omega) (by omega) (by omega) (fun f2 m2 g2 => ?_))
            have e2 := g2.1
            refine body_ok hA hB h0 r3 r4 (by omega) (by omega) (by omega) (close_ok hm hb.1 _ _ (by omega) r5 (by omega) (by omega) (by omega) lb ⟨⟨by omega, by omega⟩, fun _ => write_ok (by omega) (by omega) (fun f3 m3 g3 => tail P _ _ (h f3 m3 ?_)), fun c => absurd c (by omega)⟩)
            have := g1.app (g2.app g3)
            simpa using this
      · exact ⟨[], ⟨Sq.nil, Nat.zero_le _, Nat.zero_le _, Nat.zero_le _, fun _ => hp⟩, fun n f m P K hn m0 m1 hP h => hP _ _ _ (isLast_no h0 (by omega) hm hat (u0 ⟨⟨by omega, by omega⟩, fun c => absurd c hout, fun _ => tail P _ _ (h _ _ Wr.nil)⟩))⟩
    obtain ⟨s', ⟨s1, s2, s3, s4, s5⟩, hw1⟩ := one
    obtain ⟨t1', t2, t3, t4, t5⟩ := hr'
    refine ⟨s' ++ r', ⟨Sq.app s1 t1', by rw [cs_app, cs_app]; omega, by rw [cp_app, cp_app]; omega, by rw [List.length_append, List.length_append]; omega, fun ⟨p, p1, p2, p3, p4⟩ => ?_⟩, fun n f m P K hn m0 m1 hP h => ?_⟩
    · rw [List.length_append] at p2
      rw [List.length_append, List.length_append]
      by_cases hpp : p < q + st.length
      · have := s5 ⟨p, p1, hpp, p3, p4⟩; omega
      · have := t5 ⟨p, by omega, by omega, p3, p4⟩; omega
    · rw [cs_app] at hn
      rw [List.length_append] at m1 h
      refine hw1 n f m P K (by omega) m0 (by omega) hP (fun f1 m1' g1 => ?_)
      have e1 := g1.1
      refine hw' n f1 m1' P K (by omega) (by omega) (by omega) hP (fun f2 m2 g2 => ?_)
      rw [show q + (st.length : Int) + r.length = q + ((st.length + r.length : Nat) : Int) by omega]
      exact h f2 m2 (g1.app g2)
theorem copies_ok {row : Int → Int} {many : Int} {l : List Int} (h : WF row many l) (o : Int → Int) : ∃ l' : List Int, CR row o 0 l l' ∧ ∀ (f : Int → Int) (K : (Int → Int) → Int → Prop), (∀ f', At f' 0 l' → K f' l'.length) → wp_copies 100 row f many 0 o 0 K := by
  have hl := h.len
  obtain ⟨h1, h2, h3, h4, h5⟩ := h
  obtain ⟨l', a, b⟩ := copies_of (many := many) (by omega) (CW_all (row := row) (o := o) (by omega) h1) (q := 0) h4 h2 (by omega) (by omega) (by omega) (Or.inl (by omega))
  exact ⟨l', a, fun f K hK => b 100 f 0 K (by omega) (by omega) (by omega) (fun f' m' hw => by rw [hw.1, show (0 : Int) + l'.length = l'.length by omega]; exact hK f' hw.2.1)⟩
/-- copies, and then turns -/
theorem copied {row : Int → Int} {many : Int} {l : List Int} (h : WF row many l) (o : Int → Int) : ∃ l' : List Int, CR row o 0 l l' ∧ ∀ (f : Int → Int) (K : (Int → Int) → (Int → Int) → Int → Int → Prop), (∀ f' r', WF r' l'.length l' → K f' r' l'.length 0) → wp_copies 100 row f many 0 o 0 (fun f' m' => wp_turns row f' many m' (fun r' n' m'' => K f' r' n' m'')) := by
  have hl := h.len
  obtain ⟨l', a, b⟩ := copies_ok h o
  refine ⟨l', a, fun f K hK => b f _ (fun f' ha => turns_ok ha rfl ?_ (fun r' hr => hK f' r' ⟨a.1, hr, rfl, ?_, ?_⟩))⟩
  · have := a.2.2.2.1; omega
  · have := a.2.1; have := h.2.2.2.1; omega
  · have := a.2.2.1; have := h.2.2.2.2; omega
theorem dead_ok {row f o : Int → Int} {many m s x : Int} {l : List Int} (h : WF row many l) {K : (Int → Int) → (Int → Int) → Int → Int → (Int → Int) → Int → Prop} (hK : ∀ row' f' many' m' o' s' l', WF row' many' l' → K row' f' many' m' o' s') : wp_dead row f many m o s x K := by
  have loop : ∀ (row f : Int → Int) (many m : Int) (o : Int → Int) (s : Int) (l : List Int), WF row many l → (s = 0 ∨ ∃ p, 0 ≤ p ∧ p < many ∧ isS (row p) = true ∧ o p ≠ 0) → wl6 (wp_dead_21 K x) row f many m o s := by
    intro row f many m o s l h hs
    refine wl6_rule (fun row f many m o s => ∃ l, WF row many l ∧ (s = 0 ∨ ∃ p, 0 ≤ p ∧ p < many ∧ isS (row p) = true ∧ o p ≠ 0)) (fun _ _ (many : Int) _ _ _ => many.toNat) ?_ ⟨l, h, hs⟩
    rintro P row f many m o s ⟨l, h, hs⟩ ih
    refine ⟨fun _ => hK _ _ _ _ _ _ l h, fun hne => ?_⟩
    obtain ⟨p, p1, p2, p3, p4⟩ := hs.resolve_left hne
    have hlen := h.2.2.1
    obtain ⟨l', cr, hw⟩ := copied h o
    have hlt : l'.length < l.length := cr.2.2.2.2 ⟨p, by omega, by omega, p3, p4⟩
    refine hw f (fun f' r' n' m' => _) (fun f' r' hr => clears_ok (fun o' _ => ⟨fun _ => ?_, fun _ => ?_⟩))
    · obtain ⟨o2, s2, mr, hm⟩ := marks_ok hr o' 0
      exact hm _ (ih _ _ _ _ _ _ ⟨l', hr, mr.2⟩ (by omega))
    · exact marksHasty_ok hr o' 0 (fun o2 s2 mr => ih _ _ _ _ _ _ ⟨l', hr, mr.2⟩ (by omega))
  refine clears_ok (fun o' _ => ⟨fun _ => ?_, fun _ => ?_⟩)
  · obtain ⟨o2, s2, mr, hm⟩ := marks_ok h o' 0
    exact hm _ (loop _ _ _ _ _ _ l h mr.2)
  · exact marksHasty_ok h o' 0 (fun o2 s2 mr => loop _ _ _ _ _ _ l h mr.2)
