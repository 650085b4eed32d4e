theorem isSmall_ok {row : Int → Int} {many : Int} {l : List Int} (ha : At row 0 l) (hm : many = l.length) (h1 : many ≤ 2400) {K : Int → Prop} (hy : cs l ≤ 40 → cp l ≤ 300 → K 1) (hn : K 0) : wp_isSmall row many K :=
  statements_ok ha hm h1 ⟨fun _ => hn, fun g => parts_ok ha hm h1 ⟨fun _ => hn, fun g2 => hy (by omega) (by omega)⟩⟩
/-- slots, rules, passes as they always are -/
def SW (slot slotLong : Int → Int) : Prop := ∀ s : Int, 0 ≤ s → s ≤ 5 → ∃ l : List Int, Sq l ∧ At slot (520 * s) l ∧ slotLong s = l.length ∧ cs l ≤ 40 ∧ cp l ≤ 300
def RWa (rules : Int) (rule ruleRight ruleLong : Int → Int) : Prop := 0 ≤ rules ∧ rules ≤ 12 ∧ ∀ r : Int, 0 ≤ r → r < rules → ∃ L R : List Int, RW rule ruleRight ruleLong r L R
def IW (rules : Int) (items itemMany : Int → Int) : Prop := ∀ k : Int, 0 ≤ k → k ≤ 5 → 0 ≤ itemMany k ∧ itemMany k ≤ 8 ∧ ∀ i : Int, 0 ≤ i → i < itemMany k → (0 ≤ items (8 * k + i) ∧ items (8 * k + i) < rules) ∨ (20 ≤ items (8 * k + i) ∧ items (8 * k + i) ≤ 24)
theorem takesW {slot slotLong row : Int → Int} {many s : Int} (h : SW slot slotLong) (s0 : 0 ≤ s) (s5 : s ≤ 5) {K : (Int → Int) → Int → Prop} (hK : ∀ r (l : List Int), WF r l.length l → K r l.length) : wp_takes slot slotLong row many s K := by
  obtain ⟨l, h1, h2, h3, h4, h5⟩ := h s s0 s5
  have := h1.len
  exact takes_ok s0 s5 h2 h3 (by omega) (fun r hr => hK r l ⟨h1, hr, rfl, h4, h5⟩)
theorem putsW {slot slotLong row : Int → Int} {many s : Int} {l : List Int} (h : SW slot slotLong) (hw : WF row many l) (s0 : 0 ≤ s) (s5 : s ≤ 5) {K : (Int → Int) → (Int → Int) → Prop} (hK : ∀ f g, SW f g → K f g) : wp_puts slot slotLong row many s K := by
  have hl := hw.len
  obtain ⟨h1, h2, h3, h4, h5⟩ := hw
  refine puts_ok s0 s5 h2 h3 (by omega) (fun f hf hq => hK f _ (fun s' s0' s5' => ?_))
  by_cases hs : s' = s
  · subst hs
    exact ⟨l, h1, hf, by rw [show uZ slotLong s' many s' = many from if_pos rfl]; exact h3, h4, h5⟩
  · obtain ⟨l', g1, g2, g3, g4, g5⟩ := h s' s0' s5'
    have := g1.len
    exact ⟨l', g1, At_same (fun j j0 j1 => hq j (by omega)) g2, by rw [show uZ slotLong s many s' = slotLong s' from if_neg hs]; exact g3, g4, g5⟩
theorem makes_ok {rules k : Int} {rule ruleRight ruleLong items itemMany : Int → Int} (hR : RWa rules rule ruleRight ruleLong) (hI : IW rules items itemMany) (k0 : 0 ≤ k) (k5 : k ≤ 5) {row : Int → Int} {fresh : Int → Int} {many : Int} {made : Int} {bound : Int → Int} {patternAt : Int} {isOut : Int → Int} {someOut : Int} {l : List Int} (h : WF row many l) {K : Int → (Int → Int) → (Int → Int) → Int → Int → (Int → Int) → Int → (Int → Int) → Int → Prop} (hK : ∀ (b : Int) (row : Int → Int) (fresh : Int → Int) (many : Int) (made : Int) (bound : Int → Int) (patternAt : Int) (isOut : Int → Int) (someOut : Int), (b = 0 ∨ b = 1) → okk b (∃ l', WF row many l') → K b row fresh many made bound patternAt isOut someOut) : wp_makes row fresh many made rule ruleRight ruleLong bound patternAt isOut someOut items itemMany k K := by
  obtain ⟨i0, i8, hit⟩ := hI k k0 k5
  refine wl9_rule (fun (i : Int) (row : Int → Int) _ (many : Int) _ _ _ _ _ => 0 ≤ i ∧ ∃ l, WF row many l) (fun (i : Int) _ _ _ _ _ _ _ _ => (8 - i).toNat) ?_ ⟨Int.le_refl 0, l, h⟩
  rintro P i row fresh many made bound patternAt isOut someOut ⟨hi, l, h⟩ ih
  refine ⟨⟨by omega, by omega⟩, fun _ => hK 1 _ _ _ _ _ _ _ _ (Or.inr rfl) (fun _ => ⟨l, h⟩), fun hlt => ⟨⟨by omega, by omega⟩, ?_⟩⟩
  have b112 : ∀ (row : Int → Int) (fresh : Int → Int) (many : Int) (made : Int) (bound : Int → Int) (patternAt : Int) (isOut : Int → Int) (someOut : Int) (l : List Int), Sq l → At row 0 l → many = l.length → l.length ≤ 2400 → wp_makes_112 K bound isOut i patternAt someOut P row fresh many made := by
    intro row fresh many made bound patternAt isOut someOut l h1 h2 h3 h4
    exact isSmall_ok h2 h3 (by omega) (fun c1 c2 => u1 ⟨⟨by omega, by omega⟩, ih _ _ _ _ _ _ _ _ _ ⟨by omega, l, h1, h2, h3, c1, c2⟩ (by omega)⟩) (u0 (hK 0 _ _ _ _ _ _ _ _ (Or.inl rfl) (fun q => absurd q (by decide))))
  have w112 : ∀ (row : Int → Int) (fresh : Int → Int) (many : Int) (made : Int) (bound : Int → Int) (patternAt : Int) (isOut : Int → Int) (someOut : Int) (l : List Int), WF row many l → wp_makes_112 K bound isOut i patternAt someOut P row fresh many made := fun row fresh many made bound patternAt isOut someOut l h => b112 _ _ _ _ _ _ _ _ l h.1 h.2.1 h.2.2.1 (by have := h.len; omega)
  have b97 : ∀ (row : Int → Int) (fresh : Int → Int) (many : Int) (made : Int) (bound : Int → Int) (patternAt : Int) (isOut : Int → Int) (someOut : Int) (l : List Int), WF row many l → (items (8 * k + i) = 24 → made = 0) → wp_makes_97 K items k bound fresh isOut i made many patternAt someOut P row := by
    intro row fresh many made bound patternAt isOut someOut l h hm
    refine ⟨fun _ => w112 _ _ _ _ _ _ _ _ l h, fun hc => ?_⟩
    rw [hm hc]
    refine unrolls_ok h (fun l' f' hu ha => turns_ok ha rfl ?_ (fun r hr => b112 _ _ _ _ _ _ _ _ l' hu.1 hr rfl ?_))
    · have := hu.2; have := h.len; omega
    · have := hu.2; have := h.len; omega
  have b87 : ∀ (row : Int → Int) (fresh : Int → Int) (many : Int) (made : Int) (bound : Int → Int) (patternAt : Int) (isOut : Int → Int) (someOut : Int) (l : List Int), WF row many l → (items (8 * k + i) = 24 → made = 0) → wp_makes_87 K items k bound i patternAt P row fresh many made isOut someOut := by
    intro row fresh many made bound patternAt isOut someOut l h hm
    exact ⟨fun _ => b97 _ _ _ _ _ _ _ _ l h hm, fun _ => hastyCopy_ok h (fun r l' h' => b97 _ _ _ _ _ _ _ _ l' h' hm)⟩
  have b72 : ∀ (row : Int → Int) (fresh : Int → Int) (many : Int) (made : Int) (bound : Int → Int) (patternAt : Int) (isOut : Int → Int) (someOut : Int) (l : List Int), WF row many l → items (8 * k + i) ≠ 24 → wp_makes_72 K items k bound fresh isOut i made many patternAt row someOut P := by
    intro row fresh many made bound patternAt isOut someOut l h hm
    exact ⟨fun _ => dead_ok h (fun r f' n m' o' s' l' h' => b87 _ _ _ _ _ _ _ _ l' h' (fun q => absurd q hm)), fun _ => dead_ok h (fun r f' n m' o' s' l' h' => b87 _ _ _ _ _ _ _ _ l' h' (fun q => absurd q hm))⟩
  have b60 : ∀ (row : Int → Int) (fresh : Int → Int) (many : Int) (made : Int) (bound : Int → Int) (patternAt : Int) (isOut : Int → Int) (someOut : Int) (l : List Int), WF row many l → (items (8 * k + i) = 24 → made = 0) → wp_makes_60 K items k bound isOut i patternAt someOut P row fresh many made := by
    intro row fresh many made bound patternAt isOut someOut l h hm
    exact ⟨fun c => b72 _ _ _ _ _ _ _ _ l h (by omega), fun _ => ⟨fun _ => b87 _ _ _ _ _ _ _ _ l h hm, fun c => b72 _ _ _ _ _ _ _ _ l h (by omega)⟩⟩
  have b40 : ∀ (row : Int → Int) (fresh : Int → Int) (many : Int) (made : Int) (bound : Int → Int) (patternAt : Int) (isOut : Int → Int) (someOut : Int) (l : List Int), WF row many l → wp_makes_40 K items k isOut i someOut P row fresh many made bound patternAt := by
    intro row fresh many made bound patternAt isOut someOut l h
    refine ⟨fun _ => b60 _ _ _ _ _ _ _ _ l h (fun _ => rfl), fun _ => foldAll_ok h (fun l' f' hf ha => turns_ok ha rfl ?_ (fun r hr => b60 _ _ _ _ _ _ _ _ l' ⟨hf.1, hr, rfl, ?_, ?_⟩ (fun q => rfl)))⟩
    · have := hf.2.2.2; have := h.len; omega
    · have := hf.2.1; have := h.2.2.2.1; omega
    · have := hf.2.2.1; have := h.2.2.2.2; omega
  refine ⟨fun _ => b40 _ _ _ _ _ _ _ _ l h, fun hv => ?_⟩
  have hv0 := (hit i hi hlt).resolve_right (by omega)
  obtain ⟨L, R, hr⟩ := hR.2.2 _ hv0.1 hv0.2
  exact again_ok h hv0.1 (by have := hR.2.1; omega) hr (fun b row' f' many' m' bd pt l' hb hw => ⟨fun _ => b40 _ _ _ _ _ _ _ _ l' hw, fun _ => hK 0 _ _ _ _ _ _ _ _ (Or.inl rfl) (fun q => absurd q (by decide))⟩)
theorem isWrong_ok {rules k : Int} {rule ruleRight ruleLong items itemMany : Int → Int} (hR : RWa rules rule ruleRight ruleLong) (hI : IW rules items itemMany) (k0 : 0 ≤ k) (k5 : k ≤ 5) {row : Int → Int} {fresh : Int → Int} {many : Int} {made : Int} {holds : Int → Int} {outs : Int → Int} {steps : Int} {ending : Int} {outMany : Int} {cursor : Int} {keptEnd : Int → Int} {keptMany : Int → Int} {keptOut : Int → Int} {firstParting : Int} {firstPlace : Int} {partings : Int} {anyTired : Int} {bound : Int → Int} {patternAt : Int} {isOut : Int → Int} {someOut : Int} {l : List Int} (h : WF row many l) {K : Int → (Int → Int) → (Int → Int) → Int → Int → (Int → Int) → (Int → Int) → Int → Int → Int → Int → (Int → Int) → (Int → Int) → (Int → Int) → Int → Int → Int → Int → (Int → Int) → Int → (Int → Int) → Int → Prop} (hK : ∀ (b : Int) (row : Int → Int) (fresh : Int → Int) (many : Int) (made : Int) (holds : Int → Int) (outs : Int → Int) (steps : Int) (ending : Int) (outMany : Int) (cursor : Int) (keptEnd : Int → Int) (keptMany : Int → Int) (keptOut : Int → Int) (firstParting : Int) (firstPlace : Int) (partings : Int) (anyTired : Int) (bound : Int → Int) (patternAt : Int) (isOut : Int → Int) (someOut : Int), (b = 0 ∨ b = 1) → K b row fresh many made holds outs steps ending outMany cursor keptEnd keptMany keptOut firstParting firstPlace partings anyTired bound patternAt isOut someOut) : wp_isWrong row fresh many made rule ruleRight ruleLong holds outs steps ending outMany cursor keptEnd keptMany keptOut firstParting firstPlace partings anyTired bound patternAt isOut someOut items itemMany k K := by
  refine keeps_ok h (fun _ _ _ _ _ _ _ _ _ => makes_ok hR hI k0 k5 h (fun b row fresh many made bound patternAt isOut someOut hb ho => ⟨fun hne => ?_, fun _ => hK 0 _ _ _ _ _ _ _ _ _ _ _ _ _ _ _ _ _ _ _ _ _ (Or.inl rfl)⟩))
  obtain ⟨l', h'⟩ := ho (by omega)
  exact compares_ok h' (fun _ _ _ _ _ _ _ _ _ _ => ⟨fun _ => hK 0 _ _ _ _ _ _ _ _ _ _ _ _ _ _ _ _ _ _ _ _ _ (Or.inl rfl), fun _ => hK 1 _ _ _ _ _ _ _ _ _ _ _ _ _ _ _ _ _ _ _ _ _ (Or.inr rfl)⟩)
theorem keepsWhole_ok {row whole : Int → Int} {many wl : Int} {l : List Int} {K : (Int → Int) → Int → Prop} (ha : At row 0 l) (hm : many = l.length) (h1 : many ≤ 2400) (hK : ∀ w, At w 0 l → K w many) : wp_keepsWhole row many whole wl K := by
  refine wl2_rule (fun (i : Int) (r : Int → Int) => ∃ a b : List Int, l = a ++ b ∧ i = a.length ∧ At r 0 a) (fun (i : Int) _ => (many - i).toNat) ?_ ⟨[], l, rfl, rfl, trivial⟩
  rintro P i r ⟨a, b, rfl, rfl, hr⟩ ih
  rw [List.length_append] at hm
  refine ⟨fun h => ?_, fun h => ?_⟩
  · have : b = [] := List.length_eq_zero_iff.mp (by omega)
    subst this
    rw [List.append_nil] at hK
    exact hK r hr
  · cases b with
    | nil => simp at hm; omega
    | cons c b =>
      obtain ⟨_, a2⟩ := At_app.mp ha
      simp only [List.length_cons] at hm
      refine ⟨⟨by omega, by omega⟩, ⟨by omega, by omega⟩, ⟨by omega, by omega⟩, ih _ _ ⟨a ++ [c], b, by simp, by simp, ?_⟩ (by omega)⟩
      have := At_step (p := 0) a2 hr
      rwa [show (0 : Int) + a.length = a.length by omega] at this
theorem takesWhole_ok {row whole : Int → Int} {many wl : Int} {l : List Int} {K : (Int → Int) → Int → Prop} (ha : At whole 0 l) (hm : wl = l.length) (h1 : wl ≤ 2400) (hK : ∀ w, At w 0 l → K w wl) : wp_takesWhole row many whole wl K := by
  refine wl2_rule (fun (i : Int) (r : Int → Int) => ∃ a b : List Int, l = a ++ b ∧ i = a.length ∧ At r 0 a) (fun (i : Int) _ => (wl - i).toNat) ?_ ⟨[], l, rfl, rfl, trivial⟩
  rintro P i r ⟨a, b, rfl, rfl, hr⟩ ih
  rw [List.length_append] at hm
  refine ⟨fun h => ?_, fun h => ?_⟩
  · have : b = [] := List.length_eq_zero_iff.mp (by omega)
    subst this
    rw [List.append_nil] at hK
    exact hK r hr
  · cases b with
    | nil => simp at hm; omega
    | cons c b =>
      obtain ⟨_, a2⟩ := At_app.mp ha
      simp only [List.length_cons] at hm
      refine ⟨⟨by omega, by omega⟩, ⟨by omega, by omega⟩, ⟨by omega, by omega⟩, ih _ _ ⟨a ++ [c], b, by simp, by simp, ?_⟩ (by omega)⟩
      have := At_step (p := 0) a2 hr
      rwa [show (0 : Int) + a.length = a.length by omega] at this
theorem cutsOne_ok {rules k : Int} {rule ruleRight ruleLong items itemMany : Int → Int} (hR : RWa rules rule ruleRight ruleLong) (hI : IW rules items itemMany) (k0 : 0 ≤ k) (k5 : k ≤ 5) {row : Int → Int} {fresh : Int → Int} {many : Int} {made : Int} {holds : Int → Int} {outs : Int → Int} {steps : Int} {ending : Int} {outMany : Int} {cursor : Int} {keptEnd : Int → Int} {keptMany : Int → Int} {keptOut : Int → Int} {firstParting : Int} {firstPlace : Int} {partings : Int} {anyTired : Int} {bound : Int → Int} {patternAt : Int} {isOut : Int → Int} {someOut : Int} {whole : Int → Int} {wholeLong : Int} {cutRow : Int → Int} {l : List Int} (h : WF whole wholeLong l) {K : Int → (Int → Int) → (Int → Int) → Int → Int → (Int → Int) → (Int → Int) → Int → Int → Int → Int → (Int → Int) → (Int → Int) → (Int → Int) → Int → Int → Int → Int → (Int → Int) → Int → (Int → Int) → Int → (Int → Int) → Int → (Int → Int) → Prop} (hK0 : ∀ (row : Int → Int) (fresh : Int → Int) (many : Int) (made : Int) (holds : Int → Int) (outs : Int → Int) (steps : Int) (ending : Int) (outMany : Int) (cursor : Int) (keptEnd : Int → Int) (keptMany : Int → Int) (keptOut : Int → Int) (firstParting : Int) (firstPlace : Int) (partings : Int) (anyTired : Int) (bound : Int → Int) (patternAt : Int) (isOut : Int → Int) (someOut : Int) (cutRow : Int → Int), K 0 row fresh many made holds outs steps ending outMany cursor keptEnd keptMany keptOut firstParting firstPlace partings anyTired bound patternAt isOut someOut whole wholeLong cutRow) (hK1 : ∀ (row : Int → Int) (fresh : Int → Int) (many : Int) (made : Int) (holds : Int → Int) (outs : Int → Int) (steps : Int) (ending : Int) (outMany : Int) (cursor : Int) (keptEnd : Int → Int) (keptMany : Int → Int) (keptOut : Int → Int) (firstParting : Int) (firstPlace : Int) (partings : Int) (anyTired : Int) (bound : Int → Int) (patternAt : Int) (isOut : Int → Int) (someOut : Int) (whole' : Int → Int) (wholeLong' : Int) (cutRow : Int → Int) (l' : List Int), WF whole' wholeLong' l' → wholeLong' < wholeLong → K 1 row fresh many made holds outs steps ending outMany cursor keptEnd keptMany keptOut firstParting firstPlace partings anyTired bound patternAt isOut someOut whole' wholeLong' cutRow) : wp_cutsOne row fresh many made rule ruleRight ruleLong holds outs steps ending outMany cursor keptEnd keptMany keptOut firstParting firstPlace partings anyTired bound patternAt isOut someOut items itemMany whole wholeLong cutRow k K := by
  have hl := h.len
  have hm := h.2.2.1
  refine wl23_rule (fun (i : Int) _ _ _ _ _ _ _ _ _ _ _ _ _ _ _ _ _ _ _ _ _ _ => 0 ≤ i) (fun (i : Int) _ _ _ _ _ _ _ _ _ _ _ _ _ _ _ _ _ _ _ _ _ _ => (wholeLong - i).toNat) ?_ (Int.le_refl 0)
  rintro P i row fresh many made holds outs steps ending outMany cursor keptEnd keptMany keptOut firstParting firstPlace partings anyTired bound patternAt isOut someOut cutRow hi ih
  refine ⟨fun _ => hK0 _ _ _ _ _ _ _ _ _ _ _ _ _ _ _ _ _ _ _ _ _ _, fun hlt => ⟨⟨by omega, by omega⟩, isStatement_c (fun hS => u1 ?_) (fun _ => u0 ⟨⟨by omega, by omega⟩, ih _ _ _ _ _ _ _ _ _ _ _ _ _ _ _ _ _ _ _ _ _ _ _ (by omega) (by omega)⟩)⟩⟩
  refine takesWhole_ok h.2.1 hm (by omega) (fun row1 hr1 => clears_ok (fun o1 _ => ⟨⟨by omega, by omega⟩, ?_⟩))
  have hw1 : WF row1 wholeLong l := ⟨h.1, hr1, hm, h.2.2.2.1, h.2.2.2.2⟩
  obtain ⟨l', cr, hcp⟩ := copied hw1 (uZ o1 i 1)
  have e1 : row1 i = whole i := by
    have g1 := At_get (i := i.toNat) hr1 (by omega)
    have g2 := At_get (i := i.toNat) h.2.1 (by omega)
    rw [g1] at g2
    have := Option.some.inj g2
    rwa [show (0 : Int) + (i.toNat : Int) = i by omega] at this
  have hlt' : l'.length < l.length := cr.2.2.2.2 ⟨i, hi, by omega, by rw [e1]; exact hS, by rw [show uZ o1 i 1 i = 1 from if_pos rfl]; decide⟩
  refine hcp fresh (fun f' r' n' m' => _) (fun f' row2 hw2 => ?_)
  refine wl2_rule (fun (j : Int) (c : Int → Int) => ∃ a b : List Int, l' = a ++ b ∧ j = a.length ∧ At c 0 a) (fun (j : Int) _ => ((l'.length : Int) - j).toNat) ?_ ⟨[], l', rfl, rfl, trivial⟩
  rintro P2 j c ⟨a, b, eab, rfl, hc⟩ ih2
  have hab : l'.length = a.length + b.length := by rw [eab]; simp
  refine ⟨fun hend => ?_, fun hlt2 => ?_⟩
  · have hb : b = [] := List.length_eq_zero_iff.mp (by omega)
    subst hb
    rw [List.append_nil] at eab
    subst eab
    refine isWrong_ok hR hI k0 k5 hw2 (fun b row' fresh' many' made' holds' outs' steps' ending' outMany' cursor' keptEnd' keptMany' keptOut' firstParting' firstPlace' partings' anyTired' bound' patternAt' isOut' someOut' hb => ⟨fun _ => ?_, fun _ => ⟨⟨by omega, by omega⟩, ih _ _ _ _ _ _ _ _ _ _ _ _ _ _ _ _ _ _ _ _ _ _ _ (by omega) (by omega)⟩⟩)
    refine wl3_rule (fun (j : Int) (w : Int → Int) (c2 : Int → Int) => At c2 0 l' ∧ ∃ a b : List Int, l' = a ++ b ∧ j = a.length ∧ At w 0 a) (fun (j : Int) _ _ => ((l'.length : Int) - j).toNat) ?_ ⟨hc, [], l', rfl, rfl, trivial⟩
    rintro P3 j w c2 ⟨hc2, a, b, eab, rfl, hw⟩ ih3
    have hab : l'.length = a.length + b.length := by rw [eab]; simp
    refine ⟨fun hend3 => ?_, fun hlt3 => ?_⟩
    · have hb : b = [] := List.length_eq_zero_iff.mp (by omega)
      subst hb
      rw [List.append_nil] at eab
      subst eab
      exact hK1 _ _ _ _ _ _ _ _ _ _ _ _ _ _ _ _ _ _ _ _ _ _ _ _ l' ⟨hw2.1, hw, rfl, hw2.2.2.2.1, hw2.2.2.2.2⟩ (by omega)
    · cases b with
      | nil => simp at hab; omega
      | cons d b =>
        have a2 : At c2 a.length (d :: b) := by
          have hh := hc2
          rw [eab] at hh
          have := (At_app.mp hh).2
          rwa [show (0 : Int) + a.length = a.length by omega] at this
        simp only [List.length_cons] at hab
        refine ⟨⟨by omega, by omega⟩, ⟨by omega, by omega⟩, ⟨by omega, by omega⟩, ih3 _ _ _ ⟨hc2, a ++ [d], b, by rw [eab]; simp, by simp, ?_⟩ (by omega)⟩
        have := At_snoc (c := c2 a.length) hw
        rw [show (0 : Int) + a.length = a.length by omega] at this
        rw [a2.1] at this ⊢
        exact this
  · cases b with
    | nil => simp at hab; omega
    | cons d b =>
      have a2 : At row2 a.length (d :: b) := by
        have hh := hw2.2.1
        rw [eab] at hh
        have := (At_app.mp hh).2
        rwa [show (0 : Int) + a.length = a.length by omega] at this
      simp only [List.length_cons] at hab
      refine ⟨⟨by omega, by omega⟩, ⟨by omega, by omega⟩, ⟨by omega, by omega⟩, ih2 _ _ ⟨a ++ [d], b, by rw [eab]; simp, by simp, ?_⟩ (by omega)⟩
      have := At_snoc (c := row2 a.length) hc
      rw [show (0 : Int) + a.length = a.length by omega] at this
      rw [a2.1] at this ⊢
      exact this
theorem cut_ok {rules x0 x1 x2 : Int} {rule ruleRight ruleLong items itemMany : Int → Int} (hR : RWa rules rule ruleRight ruleLong) (hI : IW rules items itemMany) {slot : Int → Int} {slotLong : Int → Int} {row : Int → Int} {fresh : Int → Int} {many : Int} {made : Int} {holds : Int → Int} {outs : Int → Int} {steps : Int} {ending : Int} {outMany : Int} {cursor : Int} {keptEnd : Int → Int} {keptMany : Int → Int} {keptOut : Int → Int} {firstParting : Int} {firstPlace : Int} {partings : Int} {anyTired : Int} {bound : Int → Int} {patternAt : Int} {isOut : Int → Int} {someOut : Int} {whole : Int → Int} {wholeLong : Int} {cutRow : Int → Int} (hS : SW slot slotLong) {K : Int → (Int → Int) → (Int → Int) → (Int → Int) → (Int → Int) → Int → Int → (Int → Int) → (Int → Int) → Int → Int → Int → Int → (Int → Int) → (Int → Int) → (Int → Int) → Int → Int → Int → Int → (Int → Int) → Int → (Int → Int) → Int → (Int → Int) → Int → (Int → Int) → Prop} (hK : ∀ (b : Int) (slot : Int → Int) (slotLong : Int → Int) (row : Int → Int) (fresh : Int → Int) (many : Int) (made : Int) (holds : Int → Int) (outs : Int → Int) (steps : Int) (ending : Int) (outMany : Int) (cursor : Int) (keptEnd : Int → Int) (keptMany : Int → Int) (keptOut : Int → Int) (firstParting : Int) (firstPlace : Int) (partings : Int) (anyTired : Int) (bound : Int → Int) (patternAt : Int) (isOut : Int → Int) (someOut : Int) (whole : Int → Int) (wholeLong : Int) (cutRow : Int → Int), SW slot slotLong → K b slot slotLong row fresh many made holds outs steps ending outMany cursor keptEnd keptMany keptOut firstParting firstPlace partings anyTired bound patternAt isOut someOut whole wholeLong cutRow) : wp_cut slot slotLong row fresh many made rule ruleRight ruleLong holds outs steps ending outMany cursor keptEnd keptMany keptOut firstParting firstPlace partings anyTired bound patternAt isOut someOut items itemMany whole wholeLong cutRow x0 x1 x2 K := by
  have no : ∀ (row : Int → Int) (fresh : Int → Int) (many : Int) (made : Int) (holds : Int → Int) (outs : Int → Int) (steps : Int) (ending : Int) (outMany : Int) (cursor : Int) (keptEnd : Int → Int) (keptMany : Int → Int) (keptOut : Int → Int) (firstParting : Int) (firstPlace : Int) (partings : Int) (anyTired : Int) (bound : Int → Int) (patternAt : Int) (isOut : Int → Int) (someOut : Int) (whole : Int → Int) (wholeLong : Int) (cutRow : Int → Int), K (-1) slot slotLong row fresh many made holds outs steps ending outMany cursor keptEnd keptMany keptOut firstParting firstPlace partings anyTired bound patternAt isOut someOut whole wholeLong cutRow := fun row fresh many made holds outs steps ending outMany cursor keptEnd keptMany keptOut firstParting firstPlace partings anyTired bound patternAt isOut someOut whole wholeLong cutRow => hK _ _ _ _ _ _ _ _ _ _ _ _ _ _ _ _ _ _ _ _ _ _ _ _ _ _ _ hS
  refine isPass_c (fun p0 p5 => t1 (isSlot_c (fun s0 s5 => t1 (isSlot_c (fun z0 z5 => u1 ?_) (fun _ => u0 (no _ _ _ _ _ _ _ _ _ _ _ _ _ _ _ _ _ _ _ _ _ _ _ _)))) (fun _ => t0 (no _ _ _ _ _ _ _ _ _ _ _ _ _ _ _ _ _ _ _ _ _ _ _ _)))) (fun _ => t0 (no _ _ _ _ _ _ _ _ _ _ _ _ _ _ _ _ _ _ _ _ _ _ _ _))
  refine takesW hS s0 s5 (fun r l hw => statements_ok hw.2.1 rfl (by have := hw.len; omega) (isIn_c (fun c1 c12 => u1 ?_) (fun _ => u0 (no _ _ _ _ _ _ _ _ _ _ _ _ _ _ _ _ _ _ _ _ _ _ _ _))))
  have hl := hw.len
  refine keepsWhole_ok hw.2.1 rfl (by omega) (fun w hww => isWrong_ok hR hI p0 p5 hw (fun b row' fresh' many' made' holds' outs' steps' ending' outMany' cursor' keptEnd' keptMany' keptOut' firstParting' firstPlace' partings' anyTired' bound' patternAt' isOut' someOut' hb => ⟨fun _ => ?_, fun _ => no _ _ _ _ _ _ _ _ _ _ _ _ _ _ _ _ _ _ _ _ _ _ _ _⟩))
  refine wl25_rule (fun (_ : Int) _ _ _ _ _ _ _ _ _ _ _ _ _ _ _ _ _ _ _ _ _ (w : Int → Int) (wl : Int) _ => ∃ l, WF w wl l) (fun (z : Int) _ _ _ _ _ _ _ _ _ _ _ _ _ _ _ _ _ _ _ _ _ _ (wl : Int) _ => wl.toNat + (if z = 0 then 0 else 1)) ?_ ⟨l, hw.1, hww, rfl, hw.2.2.2.1, hw.2.2.2.2⟩
  rintro P z row fresh many made holds outs steps ending outMany cursor keptEnd keptMany keptOut firstParting firstPlace partings anyTired bound patternAt isOut someOut w wl cr ⟨l, hw⟩ ih
  have hl := hw.len
  have hm := hw.2.2.1
  refine ⟨fun _ => takesWhole_ok hw.2.1 hw.2.2.1 (by omega) (fun r hr => putsW hS (l := l) ⟨hw.1, hr, hw.2.2.1, hw.2.2.2.1, hw.2.2.2.2⟩ z0 z5 (fun f g hfg => statements_ok hr hw.2.2.1 (by omega) (hK _ _ _ _ _ _ _ _ _ _ _ _ _ _ _ _ _ _ _ _ _ _ _ _ _ _ _ hfg))), fun hz => ?_⟩
  refine cutsOne_ok hR hI p0 p5 hw (fun _ _ _ _ _ _ _ _ _ _ _ _ _ _ _ _ _ _ _ _ _ _ => ih _ _ _ _ _ _ _ _ _ _ _ _ _ _ _ _ _ _ _ _ _ _ _ _ _ ⟨l, hw⟩ ?_) (fun _ _ _ _ _ _ _ _ _ _ _ _ _ _ _ _ _ _ _ _ _ _ _ _ l' hw' hlt => ih _ _ _ _ _ _ _ _ _ _ _ _ _ _ _ _ _ _ _ _ _ _ _ _ _ ⟨l', hw'⟩ ?_)
  · rw [if_pos rfl, if_neg hz]; omega
  · have := hw'.2.2.1
    rw [if_neg (show ¬ ((1 : Int) = 0) by decide), if_neg hz]; omega
theorem make_ok {rules x0 x1 x2 : Int} {rule ruleRight ruleLong items itemMany : Int → Int} (hR : RWa rules rule ruleRight ruleLong) (hI : IW rules items itemMany) {slot : Int → Int} {slotLong : Int → Int} {row : Int → Int} {fresh : Int → Int} {many : Int} {made : Int} {bound : Int → Int} {patternAt : Int} {isOut : Int → Int} {someOut : Int} (hS : SW slot slotLong) {K : Int → (Int → Int) → (Int → Int) → (Int → Int) → (Int → Int) → Int → Int → (Int → Int) → Int → (Int → Int) → Int → Prop} (hK : ∀ (b : Int) (slot : Int → Int) (slotLong : Int → Int) (row : Int → Int) (fresh : Int → Int) (many : Int) (made : Int) (bound : Int → Int) (patternAt : Int) (isOut : Int → Int) (someOut : Int), SW slot slotLong → K b slot slotLong row fresh many made bound patternAt isOut someOut) : wp_make slot slotLong row fresh many made rule ruleRight ruleLong bound patternAt isOut someOut items itemMany x0 x1 x2 K := by
  refine isPass_c (fun p0 p5 => t1 (isSlot_c (fun s0 s5 => t1 (isSlot_c (fun z0 z5 => u1 ?_) (fun _ => u0 (hK _ _ _ _ _ _ _ _ _ _ _ hS)))) (fun _ => t0 (hK _ _ _ _ _ _ _ _ _ _ _ hS)))) (fun _ => t0 (hK _ _ _ _ _ _ _ _ _ _ _ hS))
  refine takesW hS s0 s5 (fun r l hw => makes_ok hR hI p0 p5 hw (fun b row fresh many made bound patternAt isOut someOut hb ho => ⟨fun hne => ?_, fun _ => hK _ _ _ _ _ _ _ _ _ _ _ hS⟩))
  obtain ⟨l', h'⟩ := ho (by omega)
  exact putsW hS h' z0 z5 (fun f g hfg => statements_ok h'.2.1 h'.2.2.1 (by have := h'.len; have := h'.2.2.1; omega) (hK _ _ _ _ _ _ _ _ _ _ _ hfg))
theorem blame_ok {rules x0 x1 : Int} {rule ruleRight ruleLong items itemMany : Int → Int} (hR : RWa rules rule ruleRight ruleLong) (hI : IW rules items itemMany) {slot slotLong : Int → Int} {row : Int → Int} {fresh : Int → Int} {many : Int} {made : Int} {holds : Int → Int} {outs : Int → Int} {steps : Int} {ending : Int} {outMany : Int} {cursor : Int} {keptEnd : Int → Int} {keptMany : Int → Int} {keptOut : Int → Int} {firstParting : Int} {firstPlace : Int} {partings : Int} {anyTired : Int} {bound : Int → Int} {patternAt : Int} {isOut : Int → Int} {someOut : Int} (hS : SW slot slotLong) {K : Int → (Int → Int) → (Int → Int) → Int → Int → (Int → Int) → (Int → Int) → Int → Int → Int → Int → (Int → Int) → (Int → Int) → (Int → Int) → Int → Int → Int → Int → (Int → Int) → Int → (Int → Int) → Int → Prop} (hK : ∀ (b : Int) (row : Int → Int) (fresh : Int → Int) (many : Int) (made : Int) (holds : Int → Int) (outs : Int → Int) (steps : Int) (ending : Int) (outMany : Int) (cursor : Int) (keptEnd : Int → Int) (keptMany : Int → Int) (keptOut : Int → Int) (firstParting : Int) (firstPlace : Int) (partings : Int) (anyTired : Int) (bound : Int → Int) (patternAt : Int) (isOut : Int → Int) (someOut : Int), K b row fresh many made holds outs steps ending outMany cursor keptEnd keptMany keptOut firstParting firstPlace partings anyTired bound patternAt isOut someOut) : wp_blame slot slotLong row fresh many made rule ruleRight ruleLong holds outs steps ending outMany cursor keptEnd keptMany keptOut firstParting firstPlace partings anyTired bound patternAt isOut someOut items itemMany x0 x1 K := by
  refine isSlot_c (fun s0 s5 => t1 (isIn_c (fun a0 a1 => u1 ?_) (fun _ => u0 (hK _ _ _ _ _ _ _ _ _ _ _ _ _ _ _ _ _ _ _ _ _ _)))) (fun _ => t0 (hK _ _ _ _ _ _ _ _ _ _ _ _ _ _ _ _ _ _ _ _ _ _))
  refine takesW hS s0 s5 (fun r l hw => ?_)
  refine wl22_rule (fun (i : Int) (row : Int → Int) _ (many : Int) _ _ _ _ _ _ _ _ _ _ _ _ _ _ _ _ _ _ => 0 ≤ i ∧ ∃ l, WF row many l) (fun (i : Int) _ _ _ _ _ _ _ _ _ _ _ _ _ _ _ _ _ _ _ _ _ => (6 - i).toNat) ?_ ⟨Int.le_refl 0, l, hw⟩
  rintro P i row fresh many made holds outs steps ending outMany cursor keptEnd keptMany keptOut firstParting firstPlace partings anyTired bound patternAt isOut someOut ⟨hi, l, hw⟩ ih
  refine ⟨fun _ => hK _ _ _ _ _ _ _ _ _ _ _ _ _ _ _ _ _ _ _ _ _ _, fun hlt => ⟨⟨by omega, by omega⟩, fun _ => keeps_ok hw (fun _ _ _ _ _ _ _ _ _ => makes_ok hR hI hi (by omega) hw (fun b row fresh many made bound patternAt isOut someOut hb ho => ⟨fun hne => ?_, fun _ => ⟨fun _ => hK _ _ _ _ _ _ _ _ _ _ _ _ _ _ _ _ _ _ _ _ _ _, fun _ => hK _ _ _ _ _ _ _ _ _ _ _ _ _ _ _ _ _ _ _ _ _ _⟩⟩)), fun _ => ⟨⟨by omega, by omega⟩, ih _ _ _ _ _ _ _ _ _ _ _ _ _ _ _ _ _ _ _ _ _ _ ⟨by omega, l, hw⟩ (by omega)⟩⟩⟩
  obtain ⟨l', h'⟩ := ho (by omega)
  exact compares_ok h' (fun _ _ _ _ _ _ _ _ _ _ => ⟨fun _ => ⟨⟨by omega, by omega⟩, ih _ _ _ _ _ _ _ _ _ _ _ _ _ _ _ _ _ _ _ _ _ _ ⟨by omega, l', h'⟩ (by omega)⟩, fun _ => ⟨fun _ => hK _ _ _ _ _ _ _ _ _ _ _ _ _ _ _ _ _ _ _ _ _ _, fun _ => hK _ _ _ _ _ _ _ _ _ _ _ _ _ _ _ _ _ _ _ _ _ _⟩⟩)
theorem apply_ok {rules x0 x1 x2 x3 : Int} {rule ruleRight ruleLong : Int → Int} (hR : RWa rules rule ruleRight ruleLong) {slot : Int → Int} {slotLong : Int → Int} {row : Int → Int} {fresh : Int → Int} {many : Int} {made : Int} {bound : Int → Int} {patternAt : Int} (hS : SW slot slotLong) {K : Int → (Int → Int) → (Int → Int) → (Int → Int) → (Int → Int) → Int → Int → (Int → Int) → Int → Prop} (hK : ∀ (b : Int) (slot : Int → Int) (slotLong : Int → Int) (row : Int → Int) (fresh : Int → Int) (many : Int) (made : Int) (bound : Int → Int) (patternAt : Int), SW slot slotLong → K b slot slotLong row fresh many made bound patternAt) : wp_apply slot slotLong row fresh many made rules rule ruleRight ruleLong bound patternAt x0 x1 x2 x3 K := by
  have r0 := hR.1
  have r12 := hR.2.1
  refine ⟨⟨by omega, by omega⟩, isIn_c (fun a0 a1 => t1 (isSlot_c (fun s0 s5 => t1 (isSlot_c (fun z0 z5 => t1 ⟨fun hk => ?_, fun _ => hK _ _ _ _ _ _ _ _ _ hS⟩) (fun _ => t0 (hK _ _ _ _ _ _ _ _ _ hS)))) (fun _ => t0 (hK _ _ _ _ _ _ _ _ _ hS)))) (fun _ => t0 (hK _ _ _ _ _ _ _ _ _ hS))⟩
  obtain ⟨L, R, hr⟩ := hR.2.2 x0 a0 (by omega)
  refine takesW hS s0 s5 (fun r l hw => match_ok hw a0 (by omega) hr (fun p bd pt hp => ⟨fun _ => hK _ _ _ _ _ _ _ _ _ hS, fun hne => ?_⟩))
  obtain ⟨p0, p1, hpp, hmt⟩ := hp.resolve_left hne
  exact applies_ok hw a0 (by omega) hr p0 p1 hpp hmt (fun bd2 pt2 => ⟨fun q => absurd rfl q, fun _ => hK _ _ _ _ _ _ _ _ _ hS⟩) (fun row' f' many' m' bd2 pt2 l' h' => ⟨fun _ => putsW hS h' z0 z5 (fun f g hfg => hK _ _ _ _ _ _ _ _ _ hfg), fun q => absurd q (by decide)⟩)
theorem places_ok {rules x0 x1 : Int} {rule ruleRight ruleLong : Int → Int} (hR : RWa rules rule ruleRight ruleLong) {slot slotLong : Int → Int} {row : Int → Int} {many : Int} {bound : Int → Int} {patternAt : Int} (hS : SW slot slotLong) {K : Int → (Int → Int) → Int → (Int → Int) → Int → Prop} (hK : ∀ (b : Int) (row : Int → Int) (many : Int) (bound : Int → Int) (patternAt : Int), K b row many bound patternAt) : wp_places slot slotLong row many rules rule bound patternAt x0 x1 K := by
  have r0 := hR.1
  have r12 := hR.2.1
  refine ⟨⟨by omega, by omega⟩, isIn_c (fun a0 a1 => t1 (isSlot_c (fun s0 s5 => u1 ?_) (fun _ => u0 (hK _ _ _ _ _)))) (fun _ => t0 (hK _ _ _ _ _))⟩
  obtain ⟨L, R, hr⟩ := hR.2.2 x0 a0 (by omega)
  refine takesW hS s0 s5 (fun r l hw => ?_)
  have hl := hw.len
  refine wl4_rule (fun (n i : Int) (_ : Int → Int) (_ : Int) => 0 ≤ n ∧ n ≤ i ∧ i ≤ l.length) (fun (_ i : Int) _ _ => ((l.length : Int) - i).toNat) ?_ ⟨by omega, by omega, by omega⟩
  rintro P n i bd pt ⟨n0, n1, n2⟩ ih
  refine ⟨fun _ => hK _ _ _ _ _, fun hlt => ?_⟩
  rcases matches_ev hw a0 (by omega) hr (p := i) (by omega) hlt with ⟨hp, g, hg, hal, hm⟩ | hm
  · obtain ⟨bd', pt', _, hm'⟩ := hm bd pt
    exact hm' _ (t1 ⟨⟨by omega, by omega⟩, ⟨by omega, by omega⟩, ih _ _ _ _ ⟨by omega, by omega, by omega⟩ (by omega)⟩)
  · obtain ⟨bd', pt', hm'⟩ := hm bd pt
    exact hm' _ (t0 ⟨⟨by omega, by omega⟩, ⟨by omega, by omega⟩, ih _ _ _ _ ⟨by omega, by omega, by omega⟩ (by omega)⟩)
theorem judge_ok {slot slotLong : Int → Int} {x0 x1 x2 : Int} {row : Int → Int} {many : Int} {holds : Int → Int} {outs : Int → Int} {steps : Int} {ending : Int} {outMany : Int} {cursor : Int} {keptEnd : Int → Int} {keptMany : Int → Int} {keptOut : Int → Int} {firstParting : Int} {firstPlace : Int} {partings : Int} {anyTired : Int} (hS : SW slot slotLong) {K : Int → (Int → Int) → Int → (Int → Int) → (Int → Int) → Int → Int → Int → Int → (Int → Int) → (Int → Int) → (Int → Int) → Int → Int → Int → Int → Prop} (hK : ∀ (b : Int) (row : Int → Int) (many : Int) (holds : Int → Int) (outs : Int → Int) (steps : Int) (ending : Int) (outMany : Int) (cursor : Int) (keptEnd : Int → Int) (keptMany : Int → Int) (keptOut : Int → Int) (firstParting : Int) (firstPlace : Int) (partings : Int) (anyTired : Int), K b row many holds outs steps ending outMany cursor keptEnd keptMany keptOut firstParting firstPlace partings anyTired) : wp_judge slot slotLong row many holds outs steps ending outMany cursor keptEnd keptMany keptOut firstParting firstPlace partings anyTired x0 x1 x2 K := by
  refine isSlot_c (fun s0 s5 => t1 (isSlot_c (fun z0 z5 => t1 (isIn_c (fun a0 a1 => u1 ?_) (fun _ => u0 (hK _ _ _ _ _ _ _ _ _ _ _ _ _ _ _ _)))) (fun _ => t0 (hK _ _ _ _ _ _ _ _ _ _ _ _ _ _ _ _)))) (fun _ => t0 (hK _ _ _ _ _ _ _ _ _ _ _ _ _ _ _ _))
  refine takesW hS s0 s5 (fun r l hw => keeps_ok hw (fun _ _ _ _ _ _ _ _ _ => takesW hS z0 z5 (fun r2 l2 hw2 => compares_ok hw2 (fun _ _ _ _ _ _ _ _ _ _ => ⟨fun _ => ⟨fun _ => ⟨fun _ => hK _ _ _ _ _ _ _ _ _ _ _ _ _ _ _ _, fun _ => hK _ _ _ _ _ _ _ _ _ _ _ _ _ _ _ _⟩, fun _ => hK _ _ _ _ _ _ _ _ _ _ _ _ _ _ _ _⟩, fun _ => hK _ _ _ _ _ _ _ _ _ _ _ _ _ _ _ _, fun _ => hK _ _ _ _ _ _ _ _ _ _ _ _ _ _ _ _, fun _ => hK _ _ _ _ _ _ _ _ _ _ _ _ _ _ _ _⟩))))
theorem run_ok {slot slotLong : Int → Int} {x0 x1 x2 x3 : Int} {row : Int → Int} {many : Int} {holds : Int → Int} {outs : Int → Int} {steps : Int} {ending : Int} {outMany : Int} {cursor : Int} (hS : SW slot slotLong) {K : Int → (Int → Int) → Int → (Int → Int) → (Int → Int) → Int → Int → Int → Int → Prop} (hK : ∀ (b : Int) (row : Int → Int) (many : Int) (holds : Int → Int) (outs : Int → Int) (steps : Int) (ending : Int) (outMany : Int) (cursor : Int), K b row many holds outs steps ending outMany cursor) : wp_run slot slotLong row many holds outs steps ending outMany cursor x0 x1 x2 x3 K := by
  refine isSlot_c (fun s0 s5 => t1 (isIn_c (fun z0 z5 => t1 (isIn_c (fun a0 a1 => u1 ?_) (fun _ => u0 (hK _ _ _ _ _ _ _ _ _)))) (fun _ => t0 (hK _ _ _ _ _ _ _ _ _)))) (fun _ => t0 (hK _ _ _ _ _ _ _ _ _))
  refine takesW hS s0 s5 (fun r l hw => runs_ok hw (fun h' o' s' e' m' c' k1 => isIn_c (fun b0 b1 => t1 ⟨⟨by omega, by omega⟩, hK _ _ _ _ _ _ _ _ _⟩) (fun _ => t0 ⟨?_, isIn_c (fun b0 b1 => t1 ⟨?_, hK _ _ _ _ _ _ _ _ _⟩) (fun _ => t0 ⟨fun _ => ⟨fun _ => ⟨fun _ => hK _ _ _ _ _ _ _ _ _, fun _ => hK _ _ _ _ _ _ _ _ _⟩, fun _ => hK _ _ _ _ _ _ _ _ _⟩, fun _ => hK _ _ _ _ _ _ _ _ _⟩)⟩)))
  · unfold so at k1; exact ⟨by omega, by omega⟩
  · unfold so at k1; exact ⟨by omega, by omega⟩
theorem size_ok {slot slotLong : Int → Int} {x0 x1 many : Int} {row : Int → Int} (hS : SW slot slotLong) {K : Int → (Int → Int) → Int → Prop} (hK : ∀ (b : Int) (row : Int → Int) (many : Int), K b row many) : wp_size slot slotLong row many x0 x1 K := by
  refine isSlot_c (fun s0 s5 => t1 (isIn_c (fun a0 a1 => u1 ?_) (fun _ => u0 (hK _ _ _)))) (fun _ => t0 (hK _ _ _))
  refine takesW hS s0 s5 (fun r l hw => ?_)
  have hl := hw.len
  obtain ⟨v, _, _, hv⟩ := liveFrom_ok (row := r) (many := l.length) (by omega) hw.1 (q := 0) (out := 0) hw.2.2.2.1 hw.2.1 (by omega) (by omega) (by omega) (Or.inl (by omega)) (by omega) (by omega)
  exact ⟨fun _ => ⟨fun _ => ⟨fun _ => hv _ (hK _ _ _), fun _ => hK _ _ _⟩, fun _ => parts_ok hw.2.1 rfl (by omega) (hK _ _ _)⟩, fun _ => statements_ok hw.2.1 rfl (by omega) (hK _ _ _)⟩
