theorem t1 {A B : Prop} (h : B) : ((1 : Int) = 0 → A) ∧ ((1 : Int) ≠ 0 → B) := ⟨fun q => absurd q (by decide), fun _ => h⟩
theorem t0 {A B : Prop} (h : A) : ((0 : Int) = 0 → A) ∧ ((0 : Int) ≠ 0 → B) := ⟨fun _ => h, fun q => absurd rfl q⟩
theorem u1 {A B : Prop} (h : A) : ((1 : Int) ≠ 0 → A) ∧ ((1 : Int) = 0 → B) := ⟨fun _ => h, fun q => absurd q (by decide)⟩
theorem u0 {A B : Prop} (h : B) : ((0 : Int) ≠ 0 → A) ∧ ((0 : Int) = 0 → B) := ⟨fun q => absurd rfl q, fun _ => h⟩
theorem isIn_c {v a b : Int} {K : Int → Prop} (h1 : a ≤ v → v ≤ b → K 1) (h0 : ¬ (a ≤ v ∧ v ≤ b) → K 0) : wp_isIn v a b K :=
  ⟨fun h => h0 (by omega), fun h => ⟨fun g => h0 (by omega), fun g => h1 h g⟩⟩
theorem isSlot_c {v : Int} {K : Int → Prop} (h1 : 0 ≤ v → v ≤ 5 → K 1) (h0 : ¬ (0 ≤ v ∧ v ≤ 5) → K 0) : wp_isSlot v K :=
  isIn_c (fun a b => ⟨Or.inr rfl, h1 a b⟩) (fun a => ⟨Or.inl rfl, h0 a⟩)
theorem isPass_c {v : Int} {K : Int → Prop} (h1 : 0 ≤ v → v ≤ 5 → K 1) (h0 : ¬ (0 ≤ v ∧ v ≤ 5) → K 0) : wp_isPass v K :=
  isIn_c (fun a b => ⟨Or.inr rfl, h1 a b⟩) (fun a => ⟨Or.inl rfl, h0 a⟩)
theorem isS_t {c : Int} : isS c = true ↔ ((100 ≤ c ∧ c ≤ 105) ∨ c = 110 ∨ c = 111 ∨ c = 112 ∨ c = 115) := decide_eq_true_iff
theorem isP_t {c : Int} : isP c = true ↔ ((0 ≤ c ∧ c ≤ 15) ∨ (20 ≤ c ∧ c ≤ 25) ∨ (120 ≤ c ∧ c ≤ 122)) := decide_eq_true_iff
theorem isStatement_c {v : Int} {K : Int → Prop} (h1 : isS v = true → K 1) (h0 : isS v = false → K 0) : wp_isStatement v K := by
  have f : ∀ {q : Prop}, ¬ q → (isS v = true → q) → isS v = false := fun a b => Bool.eq_false_iff.mpr (fun h => a (b h))
  refine isIn_c (fun a b => u1 (h1 (isS_t.mpr (Or.inl ⟨a, b⟩)))) (fun a => u0 ⟨fun e => h1 (isS_t.mpr (by omega)), fun n1 => ⟨fun e => h1 (isS_t.mpr (by omega)), fun n2 => ⟨fun e => h1 (isS_t.mpr (by omega)), fun n3 => ⟨fun n4 => h0 ?_, fun e => h1 (isS_t.mpr (by omega))⟩⟩⟩⟩)
  exact Bool.eq_false_iff.mpr (fun h => by have := isS_t.mp h; omega)
theorem isPart_c {v : Int} {K : Int → Prop} (h1 : isP v = true → K 1) (h0 : isP v = false → K 0) : wp_isPart v K := by
  refine isIn_c (fun a b => u1 (h1 (isP_t.mpr (by omega)))) (fun a => u0 (isIn_c (fun a b => u1 (h1 (isP_t.mpr (by omega)))) (fun b => u0 (isIn_c (fun a b => t1 (h1 (isP_t.mpr (by omega)))) (fun c => t0 (h0 ?_))))))
  exact Bool.eq_false_iff.mpr (fun h => by have := isP_t.mp h; omega)
-- ===== where expressions and statements end
theorem endOf_ok {row : Int → Int} : ∀ {e : List Int}, Ex lfR e → ∀ (n : Nat) (p : Int) (K : Int → Prop), At row p e → 0 ≤ p → p + e.length ≤ 2400 → e.length ≤ n → K (p + e.length) → wp_endOf n row p K := by
  intro e he
  refine Ex.ind (P := fun e => ∀ (n : Nat) (p : Int) (K : Int → Prop), At row p e → 0 ≤ p → p + e.length ≤ 2400 → e.length ≤ n → K (p + e.length) → wp_endOf n row p K) ?_ ?_ he
  · intro c hc n p K ha h0 h1 hn hK
    simp only [List.length_cons, List.length_nil] at h1 hn hK
    obtain ⟨n, rfl⟩ : ∃ m, n = m + 1 := ⟨n - 1, by omega⟩
    have e1 : row p = c := ha.1
    unfold lfR at hc
    exact ⟨⟨by omega, by omega⟩, isIn_c (fun a b => absurd a (by omega)) (fun _ => t0 ⟨⟨by omega, by omega⟩, hK⟩)⟩
  · intro o a b ho _ _ iha ihb n p K ha h0 h1 hn hK
    simp only [List.length_cons, List.length_append] at h1 hn hK
    obtain ⟨n, rfl⟩ : ∃ m, n = m + 1 := ⟨n - 1, by omega⟩
    have e1 : row p = o := ha.1
    obtain ⟨a1, a2⟩ := At_app.mp ha.2
    unfold opC at ho
    refine ⟨⟨by omega, by omega⟩, isIn_c (fun _ _ => t1 ⟨⟨by omega, by omega⟩, ?_⟩) (fun q => absurd q (by omega))⟩
    refine iha n (p + 1) _ a1 (by omega) (by omega) (by omega) ?_
    refine ihb n _ _ a2 (by omega) (by omega) (by omega) ?_
    have e2 : p + ((a.length + b.length + 1 : Nat) : Int) = p + 1 + a.length + b.length := by omega
    rw [e2] at hK
    exact hK
theorem endOf5 {row : Int → Int} {e : List Int} (he : Ex lfR e) {p : Int} {K : Int → Prop} (ha : At row p e) (h0 : 0 ≤ p) (h1 : p + e.length ≤ 2400) (h2 : e.length ≤ 500) (hK : K (p + e.length)) : wp_endOf 500 row p K := endOf_ok he 500 p K ha h0 h1 h2 hK
theorem body_ok {row : Int → Int} {a b : List Int} (ha : Ex lfR a) (hb : Ex lfR b) {p : Int} {K : Int → Prop} (h0 : 0 ≤ p) (aa : At row (p + 2) a) (ab : At row (p + 2 + a.length) b) (h1 : p + 2 + a.length + b.length ≤ 2400) (h2 : a.length ≤ 500) (h3 : b.length ≤ 500) (hK : K (p + 2 + a.length + b.length)) : wp_body row p K :=
  ⟨⟨by omega, by omega⟩, endOf5 ha aa (by omega) (by omega) h2 (endOf5 hb ab (by omega) (by omega) h3 hK)⟩
theorem At_if {row : Int → Int} {p t : Int} {a b B C : List Int} : At row p (112 :: t :: (a ++ (b ++ (B ++ (113 :: (C ++ [114])))))) ↔ row p = 112 ∧ row (p + 1) = t ∧ At row (p + 2) a ∧ At row (p + 2 + a.length) b ∧ At row (p + 2 + a.length + b.length) B ∧ row (p + 2 + a.length + b.length + B.length) = 113 ∧ At row (p + 2 + a.length + b.length + B.length + 1) C ∧ row (p + 2 + a.length + b.length + B.length + 1 + C.length) = 114 := by
  show (row p = 112 ∧ row (p + 1) = t ∧ At row (p + 1 + 1) (a ++ _)) ↔ _
  rw [show p + 1 + 1 = p + 2 by omega, At_app, At_app, At_app]
  show (_ ∧ _ ∧ _ ∧ _ ∧ _ ∧ _ ∧ At row _ (C ++ [114])) ↔ _
  rw [At_app]
  constructor
  · rintro ⟨h1, h2, h3, h4, h5, h6, h7, h8, -⟩; exact ⟨h1, h2, h3, h4, h5, h6, h7, h8⟩
  · rintro ⟨h1, h2, h3, h4, h5, h6, h7, h8⟩; exact ⟨h1, h2, h3, h4, h5, h6, h7, h8, trivial⟩
theorem At_wh {row : Int → Int} {p t : Int} {a b B : List Int} : At row p (115 :: t :: (a ++ (b ++ (B ++ [114])))) ↔ row p = 115 ∧ row (p + 1) = t ∧ At row (p + 2) a ∧ At row (p + 2 + a.length) b ∧ At row (p + 2 + a.length + b.length) B ∧ row (p + 2 + a.length + b.length + B.length) = 114 := by
  show (row p = 115 ∧ row (p + 1) = t ∧ At row (p + 1 + 1) (a ++ _)) ↔ _
  rw [show p + 1 + 1 = p + 2 by omega, At_app, At_app, At_app]
  constructor
  · rintro ⟨h1, h2, h3, h4, h5, h6, -⟩; exact ⟨h1, h2, h3, h4, h5, h6⟩
  · rintro ⟨h1, h2, h3, h4, h5, h6⟩; exact ⟨h1, h2, h3, h4, h5, h6, trivial⟩
theorem len_if {t : Int} {a b B C : List Int} : (112 :: t :: (a ++ (b ++ (B ++ (113 :: (C ++ [114])))))).length = a.length + b.length + B.length + C.length + 4 := by
  simp only [List.length_cons, List.length_append, List.length_nil]; omega
theorem len_wh {t : Int} {a b B : List Int} : (115 :: t :: (a ++ (b ++ (B ++ [114])))).length = a.length + b.length + B.length + 3 := by
  simp only [List.length_cons, List.length_append, List.length_nil]; omega
theorem cs_if {t : Int} {a b B C : List Int} (ht : testC t) (ha : Ex lfR a) (hb : Ex lfR b) : cs (112 :: t :: (a ++ (b ++ (B ++ (113 :: (C ++ [114])))))) = cs B + cs C + 1 := by
  unfold testC at ht
  rw [cs_yes (by omega), cs_no (by omega), cs_app, cs_app, cs_app, cs_no (c := 113) (by omega), cs_app, ha.csz, hb.csz, cs_no (c := 114) (by omega), cs_nil]; omega
theorem cs_wh {t : Int} {a b B : List Int} (ht : testC t) (ha : Ex lfR a) (hb : Ex lfR b) : cs (115 :: t :: (a ++ (b ++ (B ++ [114])))) = cs B + 1 := by
  unfold testC at ht
  rw [cs_yes (by omega), cs_no (by omega), cs_app, cs_app, cs_app, ha.csz, hb.csz, cs_no (c := 114) (by omega), cs_nil]; omega
theorem Sm.head {S : List Int → Prop} {s : List Int} (h : Sm S s) : ∃ c r, s = c :: r ∧ isS c = true := by
  rcases h with ⟨v, e, h, _, rfl⟩ | rfl | ⟨t, a, b, B, C, _, _, _, _, _, rfl⟩ | ⟨t, a, b, B, _, _, _, _, rfl⟩
  · exact ⟨v, e, rfl, isS_t.mpr (by unfold setC at h; omega)⟩
  · exact ⟨111, [], rfl, by decide⟩
  · exact ⟨112, _, rfl, by decide⟩
  · exact ⟨115, _, rfl, by decide⟩
theorem Sm.at0 {S : List Int → Prop} {s : List Int} (h : Sm S s) {row : Int → Int} {p : Int} (ha : At row p s) : (100 ≤ row p ∧ row p ≤ 105) ∨ row p = 110 ∨ row p = 111 ∨ row p = 112 ∨ row p = 115 := by
  obtain ⟨c, r, rfl, hc⟩ := h.head
  rw [ha.1]; exact isS_t.mp hc
/-- behind's own loop goes over a row of statements -/
def BW (row : Int → Int) (l : List Int) : Prop := ∀ (n : Nat) (q : Int) (P K : Int → Prop), cs l ≤ n → At row q l → 0 ≤ q → q + l.length < 2400 → l.length ≤ 500 → (∀ a, wp_behind_51 (wp_behind n) K row P a → P a) → P (q + l.length) → P q
theorem beh_one {row : Int → Int} {s : List Int} (hs : Sm (fun B => Sq B ∧ BW row B) s) {n : Nat} (hn : cs s ≤ n) {q : Int} {K : Int → Prop} (ha : At row q s) (h0 : 0 ≤ q) (h1 : q + s.length ≤ 2400) (h2 : s.length ≤ 500) (hK : K (q + s.length)) : wp_behind n row q K := by
  obtain ⟨n, rfl⟩ : ∃ m, n = m + 1 := ⟨n - 1, by have := hs.csp; omega⟩
  show wp_behind_b (wp_behind n) row q K
  have hp := hs.pos
  rcases hs with ⟨v, e, hv, he, rfl⟩ | rfl | ⟨t, a, b, B, C, ht, hA, hB, hb, hc, rfl⟩ | ⟨t, a, b, B, ht, hA, hB, hb, rfl⟩
  · have e1 : row q = v := ha.1
    unfold setC at hv
    simp only [List.length_cons] at h1 h2 hK
    have h3 : K (q + 1 + e.length) := by
      rw [show q + 1 + (e.length : Int) = q + ((e.length + 1 : Nat) : Int) by omega]; exact hK
    exact ⟨⟨by omega, by omega⟩, fun _ => ⟨⟨by omega, by omega⟩, fun c => absurd c (by omega), fun _ => ⟨⟨by omega, by omega⟩, fun c => absurd c (by omega), fun _ => ⟨⟨by omega, by omega⟩, endOf5 he ha.2 (by omega) (by omega) (by omega) h3⟩⟩⟩, fun c => absurd c (by omega)⟩
  · have e1 : row q = 111 := ha.1
    exact ⟨⟨by omega, by simp at h1; omega⟩, fun c => absurd e1 c, fun _ => ⟨⟨by omega, by simp at h1; omega⟩, hK⟩⟩
  · rw [cs_if ht hA hB] at hn
    rw [len_if] at h1 h2 hK
    obtain ⟨r1, r2, r3, r4, r5, r6, r7, r8⟩ := At_if.mp ha
    refine ⟨⟨by omega, by omega⟩, fun _ => ⟨⟨by omega, by omega⟩, fun _ => ?_, fun c => absurd r1 c⟩, fun c => absurd c (by omega)⟩
    refine body_ok hA hB h0 r3 r4 (by omega) (by omega) (by omega) ?_
    intro P hP
    refine hb.2 n _ P K (by omega) r5 (by omega) (by omega) (by omega) hP ?_
    refine hP _ ⟨⟨by omega, by omega⟩, fun c => absurd c (by omega), fun _ => ⟨⟨by omega, by omega⟩, fun c => absurd r6 c, fun _ => ⟨⟨by omega, by omega⟩, ?_⟩⟩⟩
    refine hc.2 n _ P K (by omega) r7 (by omega) (by omega) (by omega) hP ?_
    refine hP _ ⟨⟨by omega, by omega⟩, fun _ => ⟨⟨by omega, by omega⟩, ?_⟩, fun c => absurd r8 c⟩
    rw [show q + 2 + (a.length : Int) + b.length + B.length + 1 + C.length + 1 = q + ((a.length + b.length + B.length + C.length + 4 : Nat) : Int) by omega]
    exact hK
  · rw [cs_wh ht hA hB] at hn
    rw [len_wh] at h1 h2 hK
    obtain ⟨r1, r2, r3, r4, r5, r6⟩ := At_wh.mp ha
    refine ⟨⟨by omega, by omega⟩, fun _ => ⟨⟨by omega, by omega⟩, fun c => absurd c (by omega), fun _ => ⟨⟨by omega, by omega⟩, fun _ => ?_, fun c => absurd r1 c⟩⟩, fun c => absurd c (by omega)⟩
    refine body_ok hA hB h0 r3 r4 (by omega) (by omega) (by omega) ?_
    intro P hP
    refine hb.2 n _ P K (by omega) r5 (by omega) (by omega) (by omega) hP ?_
    refine hP _ ⟨⟨by omega, by omega⟩, fun _ => ⟨⟨by omega, by omega⟩, ?_⟩, fun c => absurd r6 c⟩
    rw [show q + 2 + (a.length : Int) + b.length + B.length + 1 = q + ((a.length + b.length + B.length + 3 : Nat) : Int) by omega]
    exact hK
theorem BW_all {row : Int → Int} : ∀ {l : List Int}, Sq l → BW row l := by
  intro l hl
  refine Sq.ind (P := BW row) ?_ ?_ hl
  · intro n q P K _ _ _ _ _ _ h
    simpa using h
  · intro s r hs _ ih n q P K hn ha h0 h1 h2 hP h
    rw [cs_app] at hn
    rw [List.length_append] at h1 h2 h
    obtain ⟨a1, a2⟩ := At_app.mp ha
    have hc := hs.at0 a1
    have hp := hs.pos
    refine hP _ ⟨⟨by omega, by omega⟩, fun c => absurd c (by omega), fun _ => ⟨⟨by omega, by omega⟩, fun _ => ?_, fun c => absurd c (by omega)⟩⟩
    refine beh_one hs (by omega) a1 h0 (by omega) (by omega) ?_
    refine ih n _ P K (by omega) a2 (by omega) (by omega) (by omega) hP ?_
    rw [show q + (s.length : Int) + r.length = q + ((s.length + r.length : Nat) : Int) by omega]
    exact h
theorem behind_ok {row : Int → Int} {s : List Int} (hs : Sm Sq s) {q : Int} {K : Int → Prop} (hn : cs s ≤ 100) (ha : At row q s) (h0 : 0 ≤ q) (h1 : q + s.length ≤ 2400) (h2 : s.length ≤ 500) (hK : K (q + s.length)) : wp_behind 100 row q K :=
  beh_one (hs.mono (fun _ h => ⟨h, BW_all h⟩)) hn ha h0 h1 h2 hK
/-- e is the end of a row of statements -/
def Lst (row : Int → Int) (many e : Int) : Prop := e = many ∨ (e < many ∧ (row e = 113 ∨ row e = 114))
theorem isLast_no {row : Int → Int} {many q : Int} {K : Int → Prop} (h0 : 0 ≤ q) (h1 : q < many) (h2 : many ≤ 2400) (hc : (100 ≤ row q ∧ row q ≤ 105) ∨ row q = 110 ∨ row q = 111 ∨ row q = 112 ∨ row q = 115) (hK : K 0) : wp_isLast row many q K :=
  ⟨fun c => absurd c (by omega), fun _ => ⟨⟨by omega, by omega⟩, fun c => absurd c (by omega), fun _ => ⟨⟨by omega, by omega⟩, fun _ => hK, fun c => absurd c (by omega)⟩⟩⟩
theorem isLast_yes {row : Int → Int} {many q : Int} {K : Int → Prop} (h0 : 0 ≤ q) (h2 : many ≤ 2400) (hl : Lst row many q) (hK : K 1) : wp_isLast row many q K := by
  refine ⟨fun _ => hK, fun n => ?_⟩
  rcases hl with h | ⟨h, h3⟩
  · exact absurd h n
  · exact ⟨⟨by omega, by omega⟩, fun _ => hK, fun n1 => ⟨⟨by omega, by omega⟩, fun n2 => absurd h3 (by omega), fun _ => hK⟩⟩
theorem close_ok {row : Int → Int} {many : Int} (hm : many ≤ 2400) : ∀ {l : List Int}, Sq l → ∀ (q : Int) (K : Int → Prop), cs l ≤ 100 → At row q l → 0 ≤ q → q + l.length ≤ many → l.length ≤ 500 → Lst row many (q + l.length) → K (q + l.length) → wp_close row many q K := by
  intro l hl q K hn ha h0 h1 h2 h3 hK P hP
  have key : ∀ q : Int, cs l ≤ 100 → At row q l → 0 ≤ q → q + l.length ≤ many → l.length ≤ 500 → Lst row many (q + l.length) → K (q + l.length) → P q := by
    refine Sq.ind (P := fun l => ∀ q : Int, cs l ≤ 100 → At row q l → 0 ≤ q → q + l.length ≤ many → l.length ≤ 500 → Lst row many (q + l.length) → K (q + l.length) → P q) ?_ ?_ hl
    · intro q _ _ h0 h1 _ h3 hK
      simp only [List.length_nil] at h1 h3 hK
      rw [show q + ((0 : Nat) : Int) = q by omega] at h3 hK
      exact hP _ (isLast_yes h0 hm h3 (u1 hK))
    · intro s r hs _ ih q hn ha h0 h1 h2 h3 hK
      rw [cs_app] at hn
      rw [List.length_append] at h1 h2 h3 hK
      obtain ⟨a1, a2⟩ := At_app.mp ha
      have hp := hs.pos
      refine hP _ (isLast_no h0 (by omega) hm (hs.at0 a1) (u0 ?_))
      refine behind_ok (hs.mono (fun _ h => h.1)) (by omega) a1 h0 (by omega) (by omega) ?_
      have e : q + (s.length : Int) + r.length = q + ((s.length + r.length : Nat) : Int) := by omega
      exact ih _ (by omega) a2 (by omega) (by omega) (by omega) (by rw [e]; exact h3) (by rw [e]; exact hK)
  exact key q hn ha h0 h1 h2 h3 hK
