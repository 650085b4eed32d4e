theorem cs_split {a b : List Int} {c : Int} : cs (a ++ [c]) = cs a + (if isS c = true then 1 else 0) := by
  rw [cs_app]
  by_cases h : isS c = true
  · rw [if_pos h, cs_yes (isS_t.mp h), cs_nil]
  · rw [if_neg h, cs_no (fun q => h (isS_t.mpr q)), cs_nil]
theorem statements_ok {row : Int → Int} {many : Int} {l : List Int} {K : Int → Prop} (ha : At row 0 l) (hm : many = l.length) (h1 : many ≤ 2400) (hK : K (cs l)) : wp_statements row many K := by
  refine wl2_rule (fun (n i : Int) => ∃ a b : List Int, l = a ++ b ∧ i = a.length ∧ n = cs a) (fun (_ i : Int) => (many - i).toNat) ?_ ⟨[], l, rfl, rfl, rfl⟩
  rintro P n i ⟨a, b, rfl, rfl, rfl⟩ ih
  rw [List.length_append] at hm
  refine ⟨fun h => ?_, fun h => ⟨⟨by omega, by omega⟩, ?_⟩⟩
  · have : b = [] := List.length_eq_zero_iff.mp (by omega)
    subst this
    rw [List.append_nil] at hK; exact hK
  · cases b with
    | nil => simp at hm; omega
    | cons c b =>
      obtain ⟨_, a2⟩ := At_app.mp ha
      rw [show (0 : Int) + a.length = a.length by omega] at a2
      have hc : row a.length = c := a2.1
      have hle := List.countP_le_length (p := isS) (l := a)
      have hx : (cs a : Int) ≤ a.length := by unfold cs; omega
      refine isStatement_c (fun g => t1 ⟨⟨by omega, by omega⟩, ⟨by omega, by omega⟩, ih _ _ ⟨a ++ [c], b, by simp, by simp, ?_⟩ (by omega)⟩) (fun g => t0 ⟨⟨by omega, by omega⟩, ⟨by omega, by omega⟩, ih _ _ ⟨a ++ [c], b, by simp, by simp, ?_⟩ (by omega)⟩)
      · rw [hc] at g; rw [cs_split (b := b), if_pos g]; omega
      · rw [hc] at g; rw [cs_split (b := b), if_neg (by rw [g]; decide)]; omega
theorem cp_split {a b : List Int} {c : Int} : cp (a ++ [c]) = cp a + (if isP c = true then 1 else 0) := by
  rw [cp_app]
  by_cases h : isP c = true
  · rw [if_pos h, cp_yes (isP_t.mp h), cp_nil]
  · rw [if_neg h, cp_no (fun q => h (isP_t.mpr q)), cp_nil]
theorem parts_ok {row : Int → Int} {many : Int} {l : List Int} {K : Int → Prop} (ha : At row 0 l) (hm : many = l.length) (h1 : many ≤ 2400) (hK : K (cp l)) : wp_parts row many K := by
  refine wl2_rule (fun (n i : Int) => ∃ a b : List Int, l = a ++ b ∧ i = a.length ∧ n = cp a) (fun (_ i : Int) => (many - i).toNat) ?_ ⟨[], l, rfl, rfl, rfl⟩
  rintro P n i ⟨a, b, rfl, rfl, rfl⟩ ih
  rw [List.length_append] at hm
  refine ⟨fun h => ?_, fun h => ⟨⟨by omega, by omega⟩, ?_⟩⟩
  · have : b = [] := List.length_eq_zero_iff.mp (by omega)
    subst this
    rw [List.append_nil] at hK; exact hK
  · cases b with
    | nil => simp at hm; omega
    | cons c b =>
      obtain ⟨_, a2⟩ := At_app.mp ha
      rw [show (0 : Int) + a.length = a.length by omega] at a2
      have hc : row a.length = c := a2.1
      have hle := List.countP_le_length (p := isP) (l := a)
      have hx : (cp a : Int) ≤ a.length := by unfold cp; omega
      refine isPart_c (fun g => t1 ⟨⟨by omega, by omega⟩, ⟨by omega, by omega⟩, ih _ _ ⟨a ++ [c], b, by simp, by simp, ?_⟩ (by omega)⟩) (fun g => t0 ⟨⟨by omega, by omega⟩, ⟨by omega, by omega⟩, ih _ _ ⟨a ++ [c], b, by simp, by simp, ?_⟩ (by omega)⟩)
      · rw [hc] at g; rw [cp_split (b := b), if_pos g]; omega
      · rw [hc] at g; rw [cp_split (b := b), if_neg (by rw [g]; decide)]; omega
/-- copying a list from one array to another, a step -/
theorem At_step {f g : Int → Int} {a b : List Int} {c p q : Int} (hb : At f (p + a.length) (c :: b)) (ha : At g q a) : At (uZ g (q + a.length) (f (p + a.length))) q (a ++ [c]) := by
  have := hb.1
  rw [this]
  exact At_snoc ha
theorem takes_ok {slot slotLong row : Int → Int} {many s : Int} {l : List Int} {K : (Int → Int) → Int → Prop} (h0 : 0 ≤ s) (h5 : s ≤ 5) (ha : At slot (520 * s) l) (hm : slotLong s = l.length) (h1 : l.length ≤ 520) (hK : ∀ r : Int → Int, At r 0 l → K r l.length) : wp_takes slot slotLong row many s K := by
  refine ⟨⟨by omega, by omega⟩, wl2_rule (fun (i : Int) (r : Int → Int) => ∃ a b : List Int, l = a ++ b ∧ i = a.length ∧ At r 0 a) (fun (i : Int) _ => ((l.length : Int) - i).toNat) ?_ ⟨[], l, rfl, rfl, trivial⟩⟩
  rintro P i r ⟨a, b, rfl, rfl, hr⟩ ih
  rw [List.length_append] at hm h1
  refine ⟨fun h => ?_, fun h => ?_⟩
  · have : b = [] := List.length_eq_zero_iff.mp (by omega)
    subst this
    rw [hm]
    rw [List.append_nil] at hK
    exact hK r hr
  · cases b with
    | nil => simp at hm; omega
    | cons c b =>
      obtain ⟨_, a2⟩ := At_app.mp ha
      simp only [List.length_cons] at h1 hm
      refine ⟨⟨by omega, by omega⟩, ⟨by omega, by omega⟩, ⟨by omega, by omega⟩, ih _ _ ⟨a ++ [c], b, by simp, by simp, ?_⟩ (by simp only [List.length_append, List.length_cons]; omega)⟩
      have := At_step (p := 520 * s) a2 hr
      rwa [show (0 : Int) + a.length = a.length by omega] at this
theorem puts_ok {slot slotLong row : Int → Int} {many s : Int} {l : List Int} {K : (Int → Int) → (Int → Int) → Prop} (h0 : 0 ≤ s) (h5 : s ≤ 5) (ha : At row 0 l) (hm : many = l.length) (h1 : l.length ≤ 520) (hK : ∀ f : Int → Int, At f (520 * s) l → (∀ j : Int, j < 520 * s ∨ 520 * s + l.length ≤ j → f j = slot j) → K f (uZ slotLong s many)) : wp_puts slot slotLong row many s K := by
  refine ⟨⟨by omega, by omega⟩, wl2_rule (fun (i : Int) (f : Int → Int) => ∃ a b : List Int, l = a ++ b ∧ i = a.length ∧ At f (520 * s) a ∧ ∀ j : Int, j < 520 * s ∨ 520 * s + l.length ≤ j → f j = slot j) (fun (i : Int) _ => (many - i).toNat) ?_ ⟨[], l, rfl, rfl, trivial, fun _ _ => rfl⟩⟩
  rintro P i f ⟨a, b, rfl, rfl, hf, hq⟩ ih
  rw [List.length_append] at hm h1
  refine ⟨fun h => ?_, fun h => ?_⟩
  · have : b = [] := List.length_eq_zero_iff.mp (by omega)
    subst this
    rw [List.append_nil] at hK hq
    exact hK f hf hq
  · cases b with
    | nil => simp at hm; omega
    | cons c b =>
      obtain ⟨_, a2⟩ := At_app.mp ha
      simp only [List.length_cons] at h1 hm
      refine ⟨⟨by omega, by omega⟩, ⟨by omega, by omega⟩, ⟨by omega, by omega⟩, ih _ _ ⟨a ++ [c], b, by simp, by simp, ?_, fun j hj => ?_⟩ (by omega)⟩
      · have := At_step (p := 0) a2 hf
        rwa [show (0 : Int) + a.length = a.length by omega] at this
      · simp only [List.length_append, List.length_cons] at hj
        rw [show uZ f (520 * s + a.length) (row a.length) j = f j from if_neg (by omega)]
        exact hq j (by simp only [List.length_append, List.length_cons]; omega)
/-- what lies behind 'made' afterwards -/
def Wr (f : Int → Int) (m : Int) (out : List Int) (f' : Int → Int) (m' : Int) : Prop := m' = m + out.length ∧ At f' m out ∧ ∀ j : Int, j < m → f' j = f j
theorem Wr.nil {f : Int → Int} {m : Int} : Wr f m [] f m := ⟨by simp, trivial, fun _ _ => rfl⟩
theorem Wr.app {f f1 f2 : Int → Int} {m m1 m2 : Int} {a b : List Int} (h1 : Wr f m a f1 m1) (h2 : Wr f1 m1 b f2 m2) : Wr f m (a ++ b) f2 m2 := by
  obtain ⟨e1, a1, k1⟩ := h1
  obtain ⟨e2, a2, k2⟩ := h2
  subst e1
  refine ⟨by rw [e2, List.length_append]; omega, At_app.mpr ⟨At_same (fun j _ hj => k2 j (by omega)) a1, a2⟩, fun j hj => ?_⟩
  rw [k2 j (by omega), k1 j hj]
theorem write_ok {f : Int → Int} {m v : Int} {K : (Int → Int) → Int → Prop} (h0 : 0 ≤ m) (h1 : m < 2400) (hK : ∀ f' m', Wr f m [v] f' m' → K f' m') : wp_write f m v K :=
  ⟨⟨h0, h1⟩, ⟨by omega, by omega⟩, hK _ _ ⟨by simp, ⟨if_pos rfl, trivial⟩, fun j hj => if_neg (by omega)⟩⟩
theorem writes_ok {row f : Int → Int} {m p q : Int} {l : List Int} {K : (Int → Int) → Int → Prop} (ha : At row p l) (hq : q = p + l.length) (h0 : 0 ≤ p) (h1 : q ≤ 2400) (h2 : 0 ≤ m) (h3 : m + l.length ≤ 2400) (hK : ∀ f' m', Wr f m l f' m' → K f' m') : wp_writes row f m p q K := by
  refine wl3_rule (fun (i : Int) f' m' => ∃ a b : List Int, l = a ++ b ∧ i = p + a.length ∧ Wr f m a f' m') (fun (i : Int) _ _ => (q - i).toNat) ?_ ⟨[], l, rfl, by simp, Wr.nil⟩
  rintro P i f' m' ⟨a, b, rfl, rfl, hw⟩ ih
  rw [List.length_append] at hq h3
  refine ⟨fun h => ?_, fun h => ?_⟩
  · have : b = [] := List.length_eq_zero_iff.mp (by omega)
    subst this
    rw [List.append_nil] at hK
    exact hK _ _ hw
  · cases b with
    | nil => simp at hq; omega
    | cons c b =>
      obtain ⟨_, a2⟩ := At_app.mp ha
      simp only [List.length_cons] at hq h3
      have hm := hw.1
      refine ⟨⟨by omega, by omega⟩, write_ok (by omega) (by omega) (fun f2 m2 h2 => ⟨⟨by omega, by omega⟩, ih _ _ _ ⟨a ++ [c], b, by simp, by simp; omega, hw.app ?_⟩ (by omega)⟩)⟩
      rwa [a2.1] at h2
theorem turns_ok {row f : Int → Int} {many m : Int} {l : List Int} {K : (Int → Int) → Int → Int → Prop} (ha : At f 0 l) (hm : m = l.length) (h1 : m ≤ 2400) (hK : ∀ r : Int → Int, At r 0 l → K r m 0) : wp_turns row f many m K := by
  refine wl2_rule (fun (i : Int) (r : Int → Int) => ∃ a b : List Int, l = a ++ b ∧ i = a.length ∧ At r 0 a) (fun (i : Int) _ => (m - i).toNat) ?_ ⟨[], l, rfl, rfl, trivial⟩
  rintro P i r ⟨a, b, rfl, rfl, hr⟩ ih
  rw [List.length_append] at hm
  refine ⟨fun h => ?_, fun h => ?_⟩
  · have : b = [] := List.length_eq_zero_iff.mp (by omega)
    subst this
    rw [List.append_nil] at hK
    exact hK r hr
  · cases b with
    | nil => simp at hm; omega
    | cons c b =>
      obtain ⟨_, a2⟩ := At_app.mp ha
      simp only [List.length_cons] at hm
      refine ⟨⟨by omega, by omega⟩, ⟨by omega, by omega⟩, ⟨by omega, by omega⟩, ih _ _ ⟨a ++ [c], b, by simp, by simp, ?_⟩ (by omega)⟩
      have := At_step (p := 0) a2 hr
      rwa [show (0 : Int) + a.length = a.length by omega] at this
/-- what a row holds that may be worked on -/
def WF (row : Int → Int) (many : Int) (l : List Int) : Prop := Sq l ∧ At row 0 l ∧ many = l.length ∧ cs l ≤ 40 ∧ cp l ≤ 300
theorem WF.len {row : Int → Int} {many : Int} {l : List Int} (h : WF row many l) : l.length ≤ 460 := by
  have := h.1.len; have := h.2.2.2.1; have := h.2.2.2.2; omega
