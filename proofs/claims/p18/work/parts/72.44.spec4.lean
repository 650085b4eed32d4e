theorem cp_if {t : Int} {a b B C : List Int} (ht : testC t) (ha : Ex lfR a) (hb : Ex lfR b) : cp (112 :: t :: (a ++ (b ++ (B ++ (113 :: (C ++ [114])))))) = a.length + b.length + cp B + cp C := by
  unfold testC at ht
  rw [cp_no (by omega), cp_no (by omega), cp_app, cp_app, cp_app, cp_no (c := 113) (by omega), cp_app, ha.cpz, hb.cpz, cp_no (c := 114) (by omega), cp_nil]; omega
theorem cp_wh {t : Int} {a b B : List Int} (ht : testC t) (ha : Ex lfR a) (hb : Ex lfR b) : cp (115 :: t :: (a ++ (b ++ (B ++ [114])))) = a.length + b.length + cp B := by
  unfold testC at ht
  rw [cp_no (by omega), cp_no (by omega), cp_app, cp_app, cp_app, ha.cpz, hb.cpz, cp_no (c := 114) (by omega), cp_nil]; omega
theorem Ex.noS {e : List Int} (he : Ex lfR e) {row : Int → Int} {p i : Int} (ha : At row p e) (h0 : p ≤ i) (h1 : i < p + e.length) : ¬ isS (row i) = true := by
  intro h
  have h2 := he.all _ (At_mem ha h0 h1)
  have h3 := isS_t.mp h
  unfold lfR opC at h2
  omega
/-- a cell with a statement's number begins a statement -/
theorem stmt_at {row : Int → Int} : ∀ {l : List Int}, Sq l → ∀ (q p : Int), At row q l → q ≤ p → p < q + l.length → isS (row p) = true → ∃ s : List Int, Sm Sq s ∧ At row p s ∧ p + s.length ≤ q + l.length ∧ cs s ≤ cs l ∧ s.length ≤ l.length := by
  intro l hl
  refine Sq.ind (P := fun l => ∀ (q p : Int), At row q l → q ≤ p → p < q + l.length → isS (row p) = true → ∃ s : List Int, Sm Sq s ∧ At row p s ∧ p + s.length ≤ q + l.length ∧ cs s ≤ cs l ∧ s.length ≤ l.length) ?_ ?_ hl
  · intro q p _ h0 h1 _; simp at h1; omega
  · intro s r hs _ ih q p ha h0 h1 hc
    obtain ⟨a1, a2⟩ := At_app.mp ha
    rw [List.length_append] at h1
    rw [cs_app, List.length_append]
    by_cases hp : q + s.length ≤ p
    · obtain ⟨s', g1, g2, g3, g4, g5⟩ := ih _ p a2 hp (by omega) hc
      exact ⟨s', g1, g2, by omega, by omega, by omega⟩
    · by_cases hq : p = q
      · subst hq
        exact ⟨s, hs.mono (fun _ h => h.1), a1, by omega, by omega, by omega⟩
      · rcases hs with ⟨v, e, hv, he, rfl⟩ | rfl | ⟨t, a, b, B, C, ht, hA, hB, hb, hcc, rfl⟩ | ⟨t, a, b, B, ht, hA, hB, hb, rfl⟩
        · exact absurd hc (he.noS a1.2 (by omega) (by simp only [List.length_cons] at hp; omega))
        · simp at hp; omega
        · rw [len_if] at hp ⊢
          rw [cs_if ht hA hB]
          obtain ⟨r1, r2, r3, r4, r5, r6, r7, r8⟩ := At_if.mp a1
          unfold testC at ht
          have hS := isS_t.mp hc
          by_cases c1 : p = q + 1
          · rw [c1, r2] at hS; omega
          by_cases c2 : p < q + 2 + a.length
          · exact absurd hc (hA.noS r3 (by omega) c2)
          by_cases c3 : p < q + 2 + a.length + b.length
          · exact absurd hc (hB.noS r4 (by omega) c3)
          by_cases c4 : p < q + 2 + a.length + b.length + B.length
          · obtain ⟨s', g1, g2, g3, g4, g5⟩ := hb.2 _ p r5 (by omega) c4 hc
            exact ⟨s', g1, g2, by omega, by omega, by omega⟩
          by_cases c5 : p = q + 2 + a.length + b.length + B.length
          · rw [c5, r6] at hS; omega
          by_cases c6 : p < q + 2 + a.length + b.length + B.length + 1 + C.length
          · obtain ⟨s', g1, g2, g3, g4, g5⟩ := hcc.2 _ p r7 (by omega) c6 hc
            exact ⟨s', g1, g2, by omega, by omega, by omega⟩
          · have c7 : p = q + 2 + a.length + b.length + B.length + 1 + C.length := by omega
            rw [c7, r8] at hS; omega
        · rw [len_wh] at hp ⊢
          rw [cs_wh ht hA hB]
          obtain ⟨r1, r2, r3, r4, r5, r6⟩ := At_wh.mp a1
          unfold testC at ht
          have hS := isS_t.mp hc
          by_cases c1 : p = q + 1
          · rw [c1, r2] at hS; omega
          by_cases c2 : p < q + 2 + a.length
          · exact absurd hc (hA.noS r3 (by omega) c2)
          by_cases c3 : p < q + 2 + a.length + b.length
          · exact absurd hc (hB.noS r4 (by omega) c3)
          by_cases c4 : p < q + 2 + a.length + b.length + B.length
          · obtain ⟨s', g1, g2, g3, g4, g5⟩ := hb.2 _ p r5 (by omega) c4 hc
            exact ⟨s', g1, g2, by omega, by omega, by omega⟩
          · have c7 : p = q + 2 + a.length + b.length + B.length := by omega
            rw [c7, r6] at hS; omega
-- ===== marks
def MR (row : Int → Int) (q e : Int) (o : Int → Int) (s : Int) (o' : Int → Int) (s' : Int) : Prop := (∀ p, o p ≠ 0 → o' p ≠ 0) ∧ (s' = s ∨ ∃ p, q ≤ p ∧ p < e ∧ isS (row p) = true ∧ o' p ≠ 0)
theorem MR.rf {row : Int → Int} {q e : Int} {o : Int → Int} {s : Int} : MR row q e o s o s := ⟨fun _ h => h, Or.inl rfl⟩
theorem MR.wide {row : Int → Int} {q e q' e' : Int} {o o' : Int → Int} {s s' : Int} (h : MR row q e o s o' s') (h1 : q' ≤ q) (h2 : e ≤ e') : MR row q' e' o s o' s' := by
  refine ⟨h.1, ?_⟩
  rcases h.2 with g | ⟨p, g1, g2, g3, g4⟩
  · exact Or.inl g
  · exact Or.inr ⟨p, by omega, by omega, g3, g4⟩
theorem MR.trans {row : Int → Int} {q e : Int} {o o1 o2 : Int → Int} {s s1 s2 : Int} (h1 : MR row q e o s o1 s1) (h2 : MR row q e o1 s1 o2 s2) : MR row q e o s o2 s2 := by
  refine ⟨fun p h => h2.1 p (h1.1 p h), ?_⟩
  rcases h2.2 with g | g
  · rcases h1.2 with k | ⟨p, k1, k2, k3, k4⟩
    · exact Or.inl (g.trans k)
    · exact Or.inr ⟨p, k1, k2, k3, h2.1 p k4⟩
  · exact Or.inr g
def MW (row : Int → Int) (many : Int) (l : List Int) : Prop := ∀ (n : Nat) (q out : Int) (o : Int → Int) (s : Int), cs l ≤ n → cs l ≤ 40 → At row q l → 0 ≤ q → q + l.length ≤ many → l.length ≤ 500 → Lst row many (q + l.length) → 0 ≤ out → out ≤ 63 → ∃ (o' : Int → Int) (s' : Int), MR row q (q + l.length) o s o' s' ∧ ∀ (P : Int → (Int → Int) → Int → Prop) (K : (Int → Int) → Int → Prop), (∀ a b c, wp_marks_2 (wp_marks n) K row many out P a b c → P a b c) → P (q + l.length) o' s' → P q o s
theorem wp_marks_s {n : Nat} : wp_marks (n + 1) = wp_marks_b (wp_marks n) := rfl
theorem marks_of {row : Int → Int} {many : Int} (hm : many ≤ 2400) {l : List Int} (hl : MW row many l) {n : Nat} {q out : Int} (o : Int → Int) (s : Int) (hn : cs l + 1 ≤ n) (h40 : cs l ≤ 40) (ha : At row q l) (h0 : 0 ≤ q) (h1 : q + l.length ≤ many) (h2 : l.length ≤ 500) (h3 : Lst row many (q + l.length)) (o0 : 0 ≤ out) (o1 : out ≤ 63) : ∃ (o' : Int → Int) (s' : Int), MR row q (q + l.length) o s o' s' ∧ ∀ K : (Int → Int) → Int → Prop, K o' s' → wp_marks n row many o s q out K := by
  obtain ⟨n, rfl⟩ : ∃ m, n = m + 1 := ⟨n - 1, by omega⟩
  obtain ⟨o', s', hr, hw⟩ := hl n q out o s (by omega) h40 ha h0 h1 h2 h3 o0 o1
  exact ⟨o', s', hr, fun K hK P hP => hw P K hP (hP _ _ _ (isLast_yes (by omega) hm h3 (u1 hK)))⟩
theorem MW_all {row : Int → Int} {many : Int} (hm : many ≤ 2400) : ∀ {l : List Int}, Sq l → MW row many l := by
  intro l hl
  refine Sq.ind (P := MW row many) ?_ ?_ hl
  · intro n q out o s _ _ _ _ _ _ _ _ _
    exact ⟨o, s, MR.rf, fun P K _ h => by simpa using h⟩
  · intro st r hs hr ih n q out o s hn h40 ha h0 h1 h2 h3 o0 o1
    rw [cs_app] at hn h40
    rw [List.length_append] at h1 h2 h3 ⊢
    obtain ⟨a1, a2⟩ := At_app.mp ha
    have hp := hs.pos
    have hcs := hs.csp
    have hat := hs.at0 a1
    have e : q + ((st.length + r.length : Nat) : Int) = q + (st.length : Int) + r.length := by omega
    rw [e] at h3 ⊢
    have hbe := @behind_ok row st (hs.mono (fun _ h => h.1)) q
    obtain ⟨af, af0, af1, haf⟩ := liveFrom_ok hm hr (q := q + st.length) (out := out) (by omega) a2 (by omega) (by omega) (by omega) h3 o0 o1
    -- the statement itself
    have one : ∃ (o' : Int → Int) (s' : Int), MR row q (q + st.length) o s o' s' ∧ ∀ (P : Int → (Int → Int) → Int → Prop) (K : (Int → Int) → Int → Prop), (∀ a b c, wp_marks_2 (wp_marks n) K row many out P a b c → P a b c) → P (q + st.length) o' s' → P q o s := by
      have tail : ∀ (P : Int → (Int → Int) → Int → Prop) (x : Int → Int) (y : Int), P (q + st.length) x y → wp_marks_137 row q P x y := fun P x y h => hbe (by omega) a1 h0 (by omega) (by omega) h
      rcases hs with ⟨v, ex, hv, he, rfl⟩ | rfl | ⟨t, a, b, B, C, ht, hA, hB, hb, hc, rfl⟩ | ⟨t, a, b, B, ht, hA, hB, hb, rfl⟩
      · have e1 : row q = v := a1.1
        unfold setC at hv
        by_cases hz : (100 ≤ v ∧ v ≤ 105) ∧ ziand (zishr af (row q - 100)) 1 = 0
        · refine ⟨uZ o q 1, 1, ⟨fun p h => ?_, Or.inr ⟨q, by omega, by omega, isS_t.mpr (by omega), ?_⟩⟩, fun P K hP h => hP _ _ _ (isLast_no h0 (by omega) hm hat (u0 (hbe (by omega) a1 h0 (by omega) (by omega) (haf _ ⟨⟨by omega, by omega⟩, isIn_c (fun _ _ => t1 ⟨fun c => absurd hz.2 c, fun _ => ⟨⟨by omega, by omega⟩, fun _ => ⟨fun c => absurd c (by omega), fun _ => tail P _ _ h⟩, fun c => absurd c (by omega)⟩⟩) (fun c => absurd c (by omega))⟩))))⟩
          · show (if p = q then (1 : Int) else o p) ≠ 0
            by_cases hh : p = q
            · rw [if_pos hh]; decide
            · rw [if_neg hh]; exact h
          · show (if q = q then (1 : Int) else o q) ≠ 0
            rw [if_pos rfl]; decide
        · refine ⟨o, s, MR.rf, fun P K hP h => hP _ _ _ (isLast_no h0 (by omega) hm hat (u0 (hbe (by omega) a1 h0 (by omega) (by omega) (haf _ ⟨⟨by omega, by omega⟩, isIn_c (fun x y => t1 ⟨fun _ => ⟨fun _ => ⟨fun c => absurd c (by omega), fun _ => tail P _ _ h⟩, fun c => absurd c (by omega)⟩, fun c => absurd ⟨⟨by omega, by omega⟩, c⟩ hz⟩) (fun _ => t0 ⟨fun _ => ⟨fun c => absurd c (by omega), fun _ => tail P _ _ h⟩, fun c => absurd c (by omega)⟩)⟩))))⟩
      · have e1 : row q = 111 := a1.1
        refine ⟨o, s, MR.rf, fun P K hP h => hP _ _ _ (isLast_no h0 (by omega) hm hat (u0 (hbe (by omega) a1 h0 (by omega) (by omega) (haf _ ⟨⟨by omega, by omega⟩, isIn_c (fun x y => absurd y (by omega)) (fun _ => t0 ⟨fun _ => ⟨fun c => absurd c (by omega), fun _ => tail P _ _ h⟩, fun c => absurd c (by omega)⟩)⟩))))⟩
      · rw [cs_if ht hA hB] at hn h40 hcs
        have hl := len_if (t := t) (a := a) (b := b) (B := B) (C := C)
        obtain ⟨r1, r2, r3, r4, r5, r6, r7, r8⟩ := At_if.mp a1
        have lb : Lst row many (q + 2 + a.length + b.length + B.length) := Or.inr ⟨by omega, Or.inl r6⟩
        obtain ⟨x1, y1, m1, w1⟩ := marks_of hm hb.2 (n := n) (q := q + 2 + a.length + b.length) (out := af) o s (by omega) (by omega) r5 (by omega) (by omega) (by omega) lb af0 af1
        obtain ⟨x2, y2, m2, w2⟩ := marks_of hm hc.2 (n := n) (q := q + 2 + a.length + b.length + B.length + 1) (out := af) x1 y1 (by omega) (by omega) r7 (by omega) (by omega) (by omega) (Or.inr ⟨by omega, Or.inr r8⟩) af0 af1
        refine ⟨x2, y2, (m1.wide (by omega) (by omega)).trans (m2.wide (by omega) (by omega)), fun P K hP h => hP _ _ _ (isLast_no h0 (by omega) hm hat (u0 (hbe (by rw [cs_if ht hA hB]; omega) a1 h0 (by omega) (by omega) (haf _ ⟨⟨by omega, by omega⟩, isIn_c (fun x y => absurd y (by omega)) (fun _ => t0 ⟨fun _ => ⟨fun _ => ?_, fun c => absurd r1 c⟩, fun c => absurd c (by omega)⟩)⟩))))⟩
        refine body_ok hA hB h0 r3 r4 (by omega) (by omega) (by omega) (close_ok hm hb.1 _ _ (by omega) r5 (by omega) (by omega) (by omega) lb (body_ok hA hB h0 r3 r4 (by omega) (by omega) (by omega) (w1 _ ⟨⟨by omega, by omega⟩, fun c => absurd r6 c, fun _ => ⟨⟨by omega, by omega⟩, w2 _ (tail P _ _ h)⟩⟩)))
      · rw [cs_wh ht hA hB] at hn h40 hcs
        have hl := len_wh (t := t) (a := a) (b := b) (B := B)
        obtain ⟨r1, r2, r3, r4, r5, r6⟩ := At_wh.mp a1
        have lb : Lst row many (q + 2 + a.length + b.length + B.length) := Or.inr ⟨by omega, Or.inr r6⟩
        have hs' : Sm Sq (115 :: t :: (a ++ (b ++ (B ++ [114])))) := Or.inr (Or.inr (Or.inr ⟨t, a, b, B, ht, hA, hB, hb.1, rfl⟩))
        obtain ⟨lv, lv0, lv1, hlv⟩ := liveAt_ok hm hs' (q := q) (out := af) (by rw [cs_wh ht hA hB]; omega) a1 h0 (by omega) (by omega) af0 af1
        obtain ⟨x1, y1, m1, w1⟩ := marks_of hm hb.2 (n := n) (q := q + 2 + a.length + b.length) (out := lv) o s (by omega) (by omega) r5 (by omega) (by omega) (by omega) lb lv0 lv1
        refine ⟨x1, y1, m1.wide (by omega) (by omega), fun P K hP h => hP _ _ _ (isLast_no h0 (by omega) hm hat (u0 (hbe (by rw [cs_wh ht hA hB]; omega) a1 h0 (by omega) (by omega) (haf _ ⟨⟨by omega, by omega⟩, isIn_c (fun x y => absurd y (by omega)) (fun _ => t0 ⟨fun c => absurd r1 c, fun _ => ?_⟩)⟩))))⟩
        exact body_ok hA hB h0 r3 r4 (by omega) (by omega) (by omega) (hlv _ (w1 _ ⟨fun c => absurd c (by omega), fun _ => tail P _ _ h⟩))
    obtain ⟨x1, y1, m1, w1⟩ := one
    obtain ⟨x2, y2, m2, w2⟩ := ih n (q + st.length) out x1 y1 (by omega) (by omega) a2 (by omega) (by omega) (by omega) h3 o0 o1
    exact ⟨x2, y2, (m1.wide (by omega) (by omega)).trans (m2.wide (by omega) (by omega)), fun P K hP h => w1 P K hP (w2 P K hP h)⟩
theorem marks_ok {row : Int → Int} {many : Int} {l : List Int} (h : WF row many l) (o : Int → Int) (s : Int) : ∃ (o' : Int → Int) (s' : Int), MR row 0 many o s o' s' ∧ ∀ K : (Int → Int) → Int → Prop, K o' s' → wp_marks 100 row many o s 0 0 K := by
  have hl := h.len
  obtain ⟨h1, h2, h3, h4, h5⟩ := h
  obtain ⟨o', s', a, b⟩ := marks_of (by omega) (MW_all (many := many) (row := row) (by omega) h1) (n := 100) (q := 0) (out := 0) o s (by omega) h4 h2 (by omega) (by omega) (by omega) (Or.inl (by omega)) (by omega) (by omega)
  exact ⟨o', s', a.wide (by omega) (by omega), b⟩
theorem marksHasty_ok {row : Int → Int} {many : Int} {l : List Int} (h : WF row many l) (o : Int → Int) (s : Int) {K : (Int → Int) → Int → Prop} (hK : ∀ o' s', MR row 0 many o s o' s' → K o' s') : wp_marksHasty row many o s K := by
  have hl := h.len
  obtain ⟨h1, h2, h3, h4, h5⟩ := h
  refine wl3_rule (fun (i : Int) o' s' => 0 ≤ i ∧ MR row 0 many o s o' s') (fun (i : Int) _ _ => (many - i).toNat) ?_ ⟨by omega, MR.rf⟩
  rintro P i o1 s1 ⟨hi, hmr⟩ ih
  refine ⟨fun _ => hK _ _ hmr, fun hlt => ⟨⟨by omega, by omega⟩, isIn_c (fun x y => t1 ?_) (fun _ => t0 ⟨⟨by omega, by omega⟩, ih _ _ _ ⟨by omega, hmr⟩ (by omega)⟩)⟩⟩
  obtain ⟨st, g1, g2, g3, g4, g5⟩ := stmt_at h1 0 i h2 hi (by omega) (isS_t.mpr (Or.inl ⟨x, y⟩))
  refine behind_ok g1 (by omega) g2 hi (by omega) (by omega) ?_
  obtain ⟨rv, _, _, hrv⟩ := reads_ev (row := row) (p := i + st.length) (q := many) (by omega) (by omega)
  refine hrv _ ⟨⟨by omega, by omega⟩, fun _ => ⟨⟨by omega, by omega⟩, ih _ _ _ ⟨by omega, hmr⟩ (by omega)⟩, fun _ => ⟨⟨by omega, by omega⟩, ⟨by omega, by omega⟩, ih _ _ _ ⟨by omega, hmr.trans ⟨fun p hp => ?_, Or.inr ⟨i, hi, by omega, isS_t.mpr (Or.inl ⟨x, y⟩), ?_⟩⟩⟩ (by omega)⟩⟩
  · show (if p = i then (1 : Int) else o1 p) ≠ 0
    by_cases hh : p = i
    · rw [if_pos hh]; decide
    · rw [if_neg hh]; exact hp
  · show (if i = i then (1 : Int) else o1 i) ≠ 0
    rw [if_pos rfl]; decide
theorem clears_ok {o : Int → Int} {s : Int} {K : (Int → Int) → Int → Prop} (hK : ∀ o' : Int → Int, (∀ j : Int, 0 ≤ j → j < 2400 → o' j = 0) → K o' 0) : wp_clears o s K := by
  refine wl2_rule (fun (i : Int) (o' : Int → Int) => 0 ≤ i ∧ ∀ j : Int, 0 ≤ j → j < i → o' j = 0) (fun (i : Int) _ => (2400 - i).toNat) ?_ ⟨by omega, fun j h0 h1 => absurd h1 (by omega)⟩
  rintro P i o' ⟨hi, ho⟩ ih
  refine ⟨fun h => hK o' (fun j h0 h1 => ho j h0 (by omega)), fun h => ⟨⟨by omega, by omega⟩, ⟨by omega, by omega⟩, ih _ _ ⟨by omega, fun j h0 h1 => ?_⟩ (by omega)⟩⟩
  show (if j = i then (0 : Int) else o' j) = 0
  by_cases hh : j = i
  · rw [if_pos hh]
  · rw [if_neg hh]; exact ho j h0 (by omega)
