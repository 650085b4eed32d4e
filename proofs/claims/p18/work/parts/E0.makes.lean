-- ===== what a PASS makes, in the reference
theorem small_x {row : Int → Int} {many : Int} {l : List Int} (ha : At row 0 l) (hm : many = l.length) (h1 : many ≤ 2400) {K : Int → Prop} (hy : ¬ tooL l → K 1) (hn : tooL l → K 0) : wp_isSmall row many K :=
  statements_ok ha hm h1 ⟨fun z => hn (Or.inl (by omega)), fun g => parts_ok ha hm h1 ⟨fun z => hn (Or.inr (by omega)), fun g2 => hy (fun z => z.elim (by omega) (by omega))⟩⟩
theorem makes_x {k : Int} {rule ruleRight ruleLong items itemMany : Int → Int} (k0 : 0 ≤ k) (k5 : k ≤ 5) {V : List Int} {LX RX : Int → List Int} (hV : At items (8 * k) V) (hn : itemMany k = V.length) (h8 : V.length ≤ 8) (hI : ∀ v ∈ V, (0 ≤ v ∧ v < 12 ∧ RW rule ruleRight ruleLong v (LX v) (RX v)) ∨ (20 ≤ v ∧ v ≤ 24)) {row fresh bound isOut : Int → Int} {many made patternAt someOut : Int} {l : List Int} (h : WF row many l) {K : Int → (Int → Int) → (Int → Int) → Int → Int → (Int → Int) → Int → (Int → Int) → Int → Prop}
    (k1 : ∀ l', mkR LX RX V l (some l') → ∀ a b c d e f g i, WF a c l' → K 1 a b c d e f g i) (kz : mkR LX RX V l none → ∀ a b c d e f g i, K 0 a b c d e f g i) : wp_makes row fresh many made rule ruleRight ruleLong bound patternAt isOut someOut items itemMany k K := by
  refine wl9_rule (fun (i : Int) (row : Int → Int) _ (many : Int) _ _ _ _ _ => ∃ (A B : List Int) (l1 : List Int), V = A ++ B ∧ i = A.length ∧ WF row many l1 ∧ ∀ o, mkR LX RX B l1 o → mkR LX RX V l o) (fun (i : Int) _ _ _ _ _ _ _ _ => (8 - i).toNat) ?_ ⟨[], V, l, rfl, rfl, h, fun o q => q⟩
  rintro P i row fresh many made bound patternAt isOut someOut ⟨A, B, l1, eV, rfl, h, ho⟩ ih
  have lV : V.length = A.length + B.length := by rw [eV, List.length_append]
  have hlen := h.len
  refine ⟨⟨by omega, by omega⟩, fun z => ?_, fun hlt => ⟨⟨by omega, by omega⟩, ?_⟩⟩
  · have hB : B = [] := List.length_eq_zero_iff.mp (by omega)
    subst hB
    exact k1 l1 (ho _ rfl) _ _ _ _ _ _ _ _ h
  cases B with
  | nil => simp only [List.length_nil] at lV; omega
  | cons v B =>
    have hv : items (8 * k + A.length) = v := by
      rw [eV] at hV
      exact (At_app.mp hV).2.1
    have hvV : v ∈ V := by rw [eV]; simp
    simp only [List.length_cons] at lV
    have b112 : ∀ (row : Int → Int) (fresh : Int → Int) (many : Int) (made : Int) (bound : Int → Int) (patternAt : Int) (isOut : Int → Int) (someOut : Int) (l' : List Int), itR LX RX v l1 (some l') → Sq l' → At row 0 l' → many = l'.length → l'.length ≤ 2400 → wp_makes_112 K bound isOut A.length patternAt someOut P row fresh many made := by
      intro row fresh many made bound patternAt isOut someOut l' hit h1 h2 h3 h4
      refine small_x h2 h3 (by omega) (fun q => u1 ⟨⟨by omega, by omega⟩, ih _ _ _ _ _ _ _ _ _ ⟨A ++ [v], B, l', by rw [eV]; simp, by simp only [List.length_append, List.length_cons, List.length_nil]; omega, ⟨h1, h2, h3, ?_, ?_⟩, fun o g => ho o (Or.inr ⟨l', hit, Or.inr ⟨q, g⟩⟩)⟩ (by omega)⟩) (fun q => u0 (kz (ho _ (Or.inr ⟨l', hit, Or.inl ⟨q, rfl⟩⟩)) _ _ _ _ _ _ _ _))
      · exact Nat.le_of_not_lt (fun z => q (Or.inl z))
      · exact Nat.le_of_not_lt (fun z => q (Or.inr z))
    have w112 : ∀ (row : Int → Int) (fresh : Int → Int) (many : Int) (made : Int) (bound : Int → Int) (patternAt : Int) (isOut : Int → Int) (someOut : Int) (l' : List Int), itR LX RX v l1 (some l') → WF row many l' → wp_makes_112 K bound isOut A.length patternAt someOut P row fresh many made := fun row fresh many made bound patternAt isOut someOut l' hit h => b112 _ _ _ _ _ _ _ _ l' hit h.1 h.2.1 h.2.2.1 (by have := h.len; omega)
    have itE : 20 ≤ v → ∀ l', l' = itF v l1 → itR LX RX v l1 (some l') := fun q l' e => Or.inr ⟨q, by rw [e]⟩
    -- past the built ITEMS that it isn't
    have t97 : v ≠ 24 → ∀ (row : Int → Int) (fresh : Int → Int) (many : Int) (made : Int) (bound : Int → Int) (patternAt : Int) (isOut : Int → Int) (someOut : Int) (l' : List Int), itR LX RX v l1 (some l') → WF row many l' → wp_makes_97 K items k bound fresh isOut A.length made many patternAt someOut P row := fun q row fresh many made bound patternAt isOut someOut l' hit hw => ⟨fun _ => w112 _ _ _ _ _ _ _ _ l' hit hw, fun z => absurd (hv.symm.trans z) q⟩
    have t87 : v ≠ 24 → v ≠ 23 → ∀ (row : Int → Int) (fresh : Int → Int) (many : Int) (made : Int) (bound : Int → Int) (patternAt : Int) (isOut : Int → Int) (someOut : Int) (l' : List Int), itR LX RX v l1 (some l') → WF row many l' → wp_makes_87 K items k bound A.length patternAt P row fresh many made isOut someOut := fun q q2 row fresh many made bound patternAt isOut someOut l' hit hw => ⟨fun _ => t97 q _ _ _ _ _ _ _ _ l' hit hw, fun z => absurd (hv.symm.trans z) q2⟩
    have t60 : v ≠ 24 → v ≠ 23 → v ≠ 22 → v ≠ 21 → ∀ (row : Int → Int) (fresh : Int → Int) (many : Int) (made : Int) (bound : Int → Int) (patternAt : Int) (isOut : Int → Int) (someOut : Int) (l' : List Int), itR LX RX v l1 (some l') → WF row many l' → wp_makes_60 K items k bound isOut A.length patternAt someOut P row fresh many made := fun q q2 q3 q4 row fresh many made bound patternAt isOut someOut l' hit hw => ⟨fun z => absurd (hv.symm.trans z) q4, fun _ => ⟨fun _ => t87 q q2 _ _ _ _ _ _ _ _ l' hit hw, fun z => absurd (hv.symm.trans z) q3⟩⟩
    have to60 : v ≠ 20 → (∀ made', made' = 0 → wp_makes_60 K items k bound isOut A.length patternAt someOut P row fresh many made') → wp_makes_40 K items k isOut A.length someOut P row fresh many made bound patternAt := fun q g => ⟨fun _ => g 0 rfl, fun z => absurd (hv.symm.trans z) q⟩
    rw [hv]
    refine ⟨fun hv20 => ?_, fun hv20 => ?_⟩
    · rcases hI v hvV with ⟨v0, v1, _⟩ | ⟨v0, v1⟩
      · omega
      by_cases c20 : v = 20
      · refine ⟨fun z => absurd (hv.trans c20) z, fun _ => foldAllx_ok h (fun l' f' hf ha => turns_ok ha rfl (by have := hf.1.2.2.2; omega) (fun r hr => t60 (by omega) (by omega) (by omega) (by omega) _ _ _ _ _ _ _ _ l' (itE hv20 l' ?_) ⟨hf.1.1, hr, rfl, ?_, ?_⟩))⟩
        · rw [hf.2]; unfold itF; rw [if_pos c20]
        · have := hf.1.2.1; have := h.2.2.2.1; omega
        · have := hf.1.2.2.1; have := h.2.2.2.2; omega
      · refine to60 c20 (fun made' hm0 => ?_)
        by_cases c21 : v = 21
        · refine ⟨fun _ => ⟨fun _ => dead_x h (fun r f' n m' o' s' h' => t87 (by omega) (by omega) _ _ _ _ _ _ _ _ _ (itE hv20 _ ?_) h'), fun z => absurd (hv.symm.trans z) (by omega)⟩, fun z => absurd (hv.trans c21) z⟩
          unfold itF; rw [if_neg c20, if_pos c21]
        · refine ⟨fun z => absurd (hv.symm.trans z) c21, fun _ => ?_⟩
          by_cases c22 : v = 22
          · refine ⟨fun z => absurd (hv.trans c22) z, fun _ => ⟨fun z => absurd (hv.trans c22) z, fun _ => hasty_x h (fun r f' n m' o' s' h' => t87 (by omega) (by omega) _ _ _ _ _ _ _ _ _ (itE hv20 _ ?_) h')⟩⟩
            unfold itF; rw [if_neg c20, if_neg c21, if_pos c22]
          · refine ⟨fun _ => ?_, fun z => absurd (hv.symm.trans z) c22⟩
            by_cases c23 : v = 23
            · refine ⟨fun z => absurd (hv.trans c23) z, fun _ => hastyCopy_x h (fun r h' => t97 (by omega) _ _ _ _ _ _ _ _ _ (itE hv20 _ ?_) h')⟩
              unfold itF; rw [if_neg c20, if_neg c21, if_neg c22, if_pos c23]
            · refine ⟨fun _ => ⟨fun z => absurd (hv.trans (by omega)) z, fun _ => ?_⟩, fun z => absurd (hv.symm.trans z) c23⟩
              rw [hm0]
              refine unrollsx_ok h (fun l' f' hu ha => turns_ok ha rfl ?_ (fun r hr => b112 _ _ _ _ _ _ _ _ l' (itE hv20 l' ?_) hu.1.1 hr rfl ?_))
              · have := hu.1.2; omega
              · rw [hu.2]; unfold itF; rw [if_neg c20, if_neg c21, if_neg c22, if_neg c23]
              · have := hu.1.2; omega
    · rcases hI v hvV with ⟨v0, v1, hr⟩ | ⟨v0, v1⟩
      · exact again_x h v0 (by omega) hr (fun l' hag row' f' many' m' b' p' hw => ⟨fun _ => ⟨fun _ => t60 (by omega) (by omega) (by omega) (by omega) _ _ _ _ _ _ _ _ l' (Or.inl ⟨hv20, hag⟩) hw, fun z => absurd (hv.symm.trans z) (by omega)⟩, fun z => absurd z (by decide)⟩) (fun hag row' f' many' m' b' p' => ⟨fun z => absurd rfl z, fun _ => kz (ho _ (Or.inl ⟨Or.inl ⟨hv20, hag⟩, rfl⟩)) _ _ _ _ _ _ _ _⟩)
      · omega
