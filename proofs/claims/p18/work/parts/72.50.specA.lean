-- ===== running
theorem wp_worth_s {n : Nat} : wp_worth (n + 1) = wp_worth_b (wp_worth n) := rfl
theorem worth_ok {row holds : Int → Int} : ∀ {e : List Int}, Ex lfR e → ∀ (n : Nat) (c : Int) (K : Int → Int → Prop), At row c e → 0 ≤ c → c + e.length ≤ 2400 → e.length ≤ n → (∀ r, K r (c + e.length)) → wp_worth n row holds c K := by
  intro e he
  refine Ex.ind (P := fun e => ∀ (n : Nat) (c : Int) (K : Int → Int → Prop), At row c e → 0 ≤ c → c + e.length ≤ 2400 → e.length ≤ n → (∀ r, K r (c + e.length)) → wp_worth n row holds c K) ?_ ?_ he
  · intro v hv n c K ha h0 h1 hn hK
    simp only [List.length_cons, List.length_nil] at h1 hn hK
    obtain ⟨n, rfl⟩ : ∃ m, n = m + 1 := ⟨n - 1, by omega⟩
    have e1 : row c = v := ha.1
    unfold lfR at hv
    rw [wp_worth_s]
    exact ⟨⟨by omega, by omega⟩, ⟨by omega, by omega⟩, fun _ => ⟨fun q => absurd q (by omega), fun _ => ⟨⟨by omega, by omega⟩, hK _⟩⟩, fun _ => hK _⟩
  · intro o a b ho _ _ iha ihb n c K ha h0 h1 hn hK
    simp only [List.length_cons, List.length_append] at h1 hn hK
    obtain ⟨n, rfl⟩ : ∃ m, n = m + 1 := ⟨n - 1, by omega⟩
    have e1 : row c = o := ha.1
    obtain ⟨a1, a2⟩ := At_app.mp ha.2
    unfold opC at ho
    rw [wp_worth_s]
    refine ⟨⟨by omega, by omega⟩, ⟨by omega, by omega⟩, fun _ => ⟨fun _ => ?_, fun q => absurd q (by omega)⟩, fun q => absurd q (by omega)⟩
    refine iha n (c + 1) _ a1 (by omega) (by omega) (by omega) (fun r => ihb n _ _ a2 (by omega) (by omega) (by omega) (fun r2 => both_ok (fun r3 _ _ => ?_)))
    have := hK r3
    rwa [show c + ((a.length + b.length + 1 : Nat) : Int) = c + 1 + a.length + b.length by omega] at this
theorem worth5 {row holds : Int → Int} {e : List Int} (he : Ex lfR e) {c : Int} {K : Int → Int → Prop} (ha : At row c e) (h0 : 0 ≤ c) (h1 : c + e.length ≤ 2400) (h2 : e.length ≤ 500) (hK : ∀ r, K r (c + e.length)) : wp_worth 500 row holds c K := worth_ok he 500 c K ha h0 h1 h2 hK
theorem isSo_ok {row holds : Int → Int} {a b : List Int} (ha : Ex lfR a) (hb : Ex lfR b) {cur p : Int} {K : Int → Int → Prop} (h0 : 0 ≤ p) (aa : At row (p + 2) a) (ab : At row (p + 2 + a.length) b) (h1 : p + 2 + a.length + b.length ≤ 2400) (h2 : a.length ≤ 500) (h3 : b.length ≤ 500) (hK : ∀ z c, (z = 0 ∨ z = 1) → K z c) : wp_isSo row holds cur p K :=
  ⟨⟨by omega, by omega⟩, worth5 ha aa (by omega) (by omega) h2 (fun _ => worth5 hb ab (by omega) (by omega) h3 (fun _ => ⟨⟨by omega, by omega⟩, fun _ => ⟨fun _ => ⟨fun _ => hK _ _ (Or.inl rfl), fun _ => hK _ _ (Or.inr rfl)⟩, fun _ => ⟨fun _ => hK _ _ (Or.inl rfl), fun _ => hK _ _ (Or.inr rfl)⟩⟩, fun _ => ⟨fun _ => hK _ _ (Or.inl rfl), fun _ => hK _ _ (Or.inr rfl)⟩⟩))⟩
theorem wp_does_s {n : Nat} : wp_does (n + 1) = wp_does_b (wp_does n) (wp_doesOne n) := rfl
theorem wp_doesOne_s {n : Nat} : wp_doesOne (n + 1) = wp_doesOne_b (wp_does n) (wp_doesOne n) := rfl
/-- steps and outputs -/
def so (s m : Int) : Prop := 0 ≤ m ∧ m ≤ s ∧ s ≤ 100
def DW (row : Int → Int) (many : Int) (l : List Int) : Prop := ∀ (n : Nat) (q : Int) (h o : Int → Int) (s e m c : Int) (P : Int → (Int → Int) → (Int → Int) → Int → Int → Int → Int → Prop) (K : Int → (Int → Int) → (Int → Int) → Int → Int → Int → Int → Prop), 2 * cs l ≤ n → cs l ≤ 40 → At row q l → 0 ≤ q → q + l.length ≤ many → l.length ≤ 500 → so s m → (∀ a0 a1 a2 a3 a4 a5 a6, wp_does_2 (wp_doesOne n) K row many P a0 a1 a2 a3 a4 a5 a6 → P a0 a1 a2 a3 a4 a5 a6) → (∀ h' o' s' e' m' c', so s' m' → s ≤ s' → K 0 h' o' s' e' m' c') → (∀ h' o' s' e' m' c', so s' m' → s ≤ s' → P (q + l.length) h' o' s' e' m' c') → P q h o s e m c
theorem does_of {row : Int → Int} {many : Int} (hm : many ≤ 2400) {l : List Int} (hl : DW row many l) {n : Nat} {q : Int} {h o : Int → Int} {s e m c : Int} {K : Int → (Int → Int) → (Int → Int) → Int → Int → Int → Int → Prop} (hn : 2 * cs l + 1 ≤ n) (h40 : cs l ≤ 40) (ha : At row q l) (h0 : 0 ≤ q) (h1 : q + l.length ≤ many) (h2 : l.length ≤ 500) (h3 : Lst row many (q + l.length)) (hso : so s m) (hK : ∀ r h' o' s' e' m' c', (r = 0 ∨ r = 1) → so s' m' → s ≤ s' → K r h' o' s' e' m' c') : wp_does n row many h o s e m c q K := by
  obtain ⟨n, rfl⟩ : ∃ k, n = k + 1 := ⟨n - 1, by omega⟩
  rw [wp_does_s]
  intro P hP
  exact hl n q h o s e m c P K (by omega) h40 ha h0 h1 h2 hso hP (fun h' o' s' e' m' c' a b => hK 0 _ _ _ _ _ _ (Or.inl rfl) a b) (fun h' o' s' e' m' c' a b => hP _ _ _ _ _ _ _ (isLast_yes (by omega) hm h3 (u1 (hK 1 _ _ _ _ _ _ (Or.inr rfl) a b))))
theorem step_ok {s e : Int} {K : Int → Int → Int → Prop} (h1 : s < 100 → K 1 (s + 1) e) (h2 : K 0 s 2) (h0 : 0 ≤ s) (h : s ≤ 100) : wp_step s e K := ⟨fun hne => ⟨⟨by omega, by omega⟩, h1 (by omega)⟩, fun _ => h2⟩
theorem doesOne_of {row : Int → Int} {many : Int} (hm : many ≤ 2400) {st : List Int} (hs : Sm (fun B => Sq B ∧ DW row many B) st) {n : Nat} {q : Int} {h o : Int → Int} {s e m c : Int} {K : Int → (Int → Int) → (Int → Int) → Int → Int → Int → Int → Prop} (hn : 2 * cs st ≤ n) (h40 : cs st ≤ 40) (ha : At row q st) (h0 : 0 ≤ q) (h1 : q + st.length ≤ many) (h2 : st.length ≤ 500) (hso : so s m) (hK : ∀ r h' o' s' e' m' c', (r = 0 ∨ r = 1) → so s' m' → s ≤ s' → K r h' o' s' e' m' c') : wp_doesOne n row many h o s e m c q K := by
  have hcs := hs.csp
  have hpos := hs.pos
  have hso' := hso
  unfold so at hso
  obtain ⟨n, rfl⟩ : ∃ k, n = k + 1 := ⟨n - 1, by omega⟩
  rw [wp_doesOne_s]
  refine step_ok (fun hlt => u1 ⟨⟨by omega, by omega⟩, ?_⟩) (u0 (hK 0 _ _ _ _ _ _ (Or.inl rfl) hso' (Int.le_refl _))) (by omega) (by omega)
  rcases hs with ⟨v, ex, hv, he, rfl⟩ | rfl | ⟨t, a, b, B, C, ht, hA, hB, hb, hc, rfl⟩ | ⟨t, a, b, B, ht, hA, hB, hb, rfl⟩
  · have e1 : row q = v := ha.1
    unfold setC at hv
    simp only [List.length_cons] at h1 h2
    refine ⟨fun _ => ⟨fun _ => ⟨fun _ => ⟨⟨by omega, by omega⟩, worth5 he ha.2 (by omega) (by omega) (by omega) (fun r => ⟨fun _ => ⟨⟨by omega, by omega⟩, hK 1 _ _ _ _ _ _ (Or.inr rfl) (by unfold so; omega) (by omega)⟩, fun _ => ⟨⟨by omega, by omega⟩, ⟨by omega, by omega⟩, hK 1 _ _ _ _ _ _ (Or.inr rfl) (by unfold so; omega) (by omega)⟩⟩)⟩, fun x => absurd x (by omega)⟩, fun x => absurd x (by omega)⟩, fun x => absurd x (by omega)⟩
  · have e1 : row q = 111 := ha.1
    exact ⟨fun x => absurd e1 x, fun _ => hK 0 _ _ _ _ _ _ (Or.inl rfl) (by unfold so; omega) (by omega)⟩
  · rw [cs_if ht hA hB] at hn h40
    rw [len_if] at h1 h2
    obtain ⟨r1, r2, r3, r4, r5, r6, r7, r8⟩ := At_if.mp ha
    have lb : Lst row many (q + 2 + a.length + b.length + B.length) := Or.inr ⟨by omega, Or.inl r6⟩
    refine ⟨fun _ => ⟨fun x => absurd r1 x, fun _ => ?_⟩, fun x => absurd x (by omega)⟩
    refine body_ok hA hB h0 r3 r4 (by omega) (by omega) (by omega) (isSo_ok hA hB h0 r3 r4 (by omega) (by omega) (by omega) (fun z c1 _ => ⟨fun _ => ?_, fun _ => ?_⟩))
    · refine close_ok hm hb.1 _ _ (by omega) r5 (by omega) (by omega) (by omega) lb ⟨⟨by omega, by omega⟩, fun x => absurd x (by omega), fun _ => ⟨⟨by omega, by omega⟩, ?_⟩⟩
      refine does_of hm hc.2 (by omega) (by omega) r7 (by omega) (by omega) (by omega) (Or.inr ⟨by omega, Or.inr r8⟩) (by unfold so; omega) (fun r h' o' s' e' m' c' hr k1 k2 => ?_)
      exact ⟨fun _ => hK 0 _ _ _ _ _ _ (Or.inl rfl) k1 (by omega), fun _ => hK 1 _ _ _ _ _ _ (Or.inr rfl) k1 (by omega)⟩
    · exact does_of hm hb.2 (by omega) (by omega) r5 (by omega) (by omega) (by omega) lb (by unfold so; omega) (fun r h' o' s' e' m' c' hr k1 k2 => ⟨hr, hK r _ _ _ _ _ _ hr k1 (by omega)⟩)
  · rw [cs_wh ht hA hB] at hn h40
    rw [len_wh] at h1 h2
    obtain ⟨r1, r2, r3, r4, r5, r6⟩ := At_wh.mp ha
    have lb : Lst row many (q + 2 + a.length + b.length + B.length) := Or.inr ⟨by omega, Or.inr r6⟩
    refine ⟨fun _ => ⟨fun _ => ⟨fun x => absurd r1 x, fun _ => ?_⟩, fun x => absurd x (by omega)⟩, fun x => absurd x (by omega)⟩
    refine wl6_rule (fun _ _ (s' : Int) _ (m' : Int) _ => so s' m' ∧ s ≤ s') (fun _ _ (s' : Int) _ _ _ => (100 - s').toNat) ?_ ⟨by unfold so; omega, by omega⟩
    rintro P h' o' s' e' m' c' ⟨k1, k2⟩ ih
    refine isSo_ok hA hB h0 r3 r4 (by omega) (by omega) (by omega) (fun z c1 _ => ⟨fun _ => hK 1 _ _ _ _ _ _ (Or.inr rfl) k1 k2, fun _ => ?_⟩)
    refine body_ok hA hB h0 r3 r4 (by omega) (by omega) (by omega) (does_of hm hb.2 (by omega) (by omega) r5 (by omega) (by omega) (by omega) lb k1 (fun r h2 o2 s2 e2 m2 c2 hr j1 j2 => ⟨fun _ => hK 0 _ _ _ _ _ _ (Or.inl rfl) j1 (by omega), fun _ => ?_⟩))
    have j1' := j1
    unfold so at j1'
    exact step_ok (fun hlt2 => u1 (ih _ _ _ _ _ _ ⟨by unfold so; omega, by omega⟩ (by omega))) (u0 (hK 0 _ _ _ _ _ _ (Or.inl rfl) j1 (by omega))) (by omega) (by omega)
theorem DW_all {row : Int → Int} {many : Int} (hm : many ≤ 2400) : ∀ {l : List Int}, Sq l → DW row many l := by
  intro l hl
  refine Sq.ind (P := DW row many) ?_ ?_ hl
  · intro n q h o s e m c P K _ _ _ _ _ _ hso _ _ hP
    have := hP h o s e m c hso (Int.le_refl _)
    simpa using this
  · intro st r hs hr ih n q h o s e m c P K hn h40 ha h0 h1 h2 hso hP hK0 hend
    rw [cs_app] at hn h40
    rw [List.length_append] at h1 h2 hend
    obtain ⟨a1, a2⟩ := At_app.mp ha
    have hp := hs.pos
    refine hP _ _ _ _ _ _ _ (isLast_no h0 (by omega) hm (hs.at0 a1) (u0 ?_))
    refine doesOne_of hm hs (by omega) (by omega) a1 h0 (by omega) (by omega) hso (fun r' h' o' s' e' m' c' _ k1 k2 => ⟨fun _ => ?_, fun _ => hK0 _ _ _ _ _ _ k1 k2⟩)
    refine behind_ok (hs.mono (fun _ h => h.1)) (by omega) a1 h0 (by omega) (by omega) ?_
    refine ih n _ h' o' s' e' m' c' P K (by omega) (by omega) a2 (by omega) (by omega) (by omega) k1 hP (fun h2 o2 s2 e2 m2 c2 j1 j2 => hK0 _ _ _ _ _ _ j1 (by omega)) (fun h2 o2 s2 e2 m2 c2 j1 j2 => ?_)
    rw [show q + (st.length : Int) + r.length = q + ((st.length + r.length : Nat) : Int) by omega]
    exact hend _ _ _ _ _ _ j1 (by omega)
theorem runs_ok {row : Int → Int} {many : Int} {l : List Int} (hw : WF row many l) {h o : Int → Int} {s e m c x y : Int} {K : (Int → Int) → (Int → Int) → Int → Int → Int → Int → Prop} (hK : ∀ h' o' s' e' m' c', so s' m' → K h' o' s' e' m' c') : wp_runs row many h o s e m c x y K := by
  have hl := hw.len
  obtain ⟨h1, h2, h3, h4, h5⟩ := hw
  refine wl2_rule (fun (i : Int) (_ : Int → Int) => 0 ≤ i) (fun (i : Int) _ => (6 - i).toNat) ?_ (by omega)
  rintro P i g hi ih
  refine ⟨fun _ => does_of (by omega) (DW_all (by omega) h1) (by omega) h4 h2 (by omega) (by omega) (by omega) (Or.inl (by omega)) (by unfold so; omega) (fun r h' o' s' e' m' c' _ k1 _ => hK _ _ _ _ _ _ k1), fun hlt => ⟨fun _ => ⟨fun _ => ⟨⟨by omega, by omega⟩, ⟨by omega, by omega⟩, ih _ _ (by omega) (by omega)⟩, fun _ => ⟨⟨by omega, by omega⟩, ⟨by omega, by omega⟩, ih _ _ (by omega) (by omega)⟩⟩, fun _ => ⟨⟨by omega, by omega⟩, ⟨by omega, by omega⟩, ih _ _ (by omega) (by omega)⟩⟩⟩
theorem keeps_ok {row : Int → Int} {many : Int} {l : List Int} (hw : WF row many l) {h o : Int → Int} {s e m c : Int} {x y z : Int → Int} {K : (Int → Int) → (Int → Int) → Int → Int → Int → Int → (Int → Int) → (Int → Int) → (Int → Int) → Prop} (hK : ∀ h' o' s' e' m' c' x' y' z', K h' o' s' e' m' c' x' y' z') : wp_keeps row many h o s e m c x y z K := by
  refine wl10_rule (fun (i : Int) _ _ _ _ _ _ _ _ _ => 0 ≤ i) (fun (i : Int) _ _ _ _ _ _ _ _ _ => (256 - i).toNat) ?_ (Int.le_refl 0)
  rintro P i h o s e m c x y z hi ih
  refine ⟨fun _ => hK _ _ _ _ _ _ _ _ _, fun hlt => runs_ok hw (fun h' o' s' e' m' c' k1 => ⟨⟨by omega, by omega⟩, ⟨by omega, by omega⟩, ?_⟩)⟩
  unfold so at k1
  refine wl2_rule (fun (j : Int) (_ : Int → Int) => 0 ≤ j) (fun (j : Int) _ => (m' - j).toNat) ?_ (Int.le_refl 0)
  rintro P2 j z2 hj ih2
  exact ⟨fun _ => ⟨⟨by omega, by omega⟩, ih _ _ _ _ _ _ _ _ _ _ (by omega) (by omega)⟩, fun hlt2 => ⟨⟨by omega, by omega⟩, ⟨by omega, by omega⟩, ⟨by omega, by omega⟩, ih2 _ _ (by omega) (by omega)⟩⟩
theorem compares_ok {row : Int → Int} {many : Int} {l : List Int} (hw : WF row many l) {h o : Int → Int} {s e m c : Int} {x y z : Int → Int} {fp fpl pt at' : Int} {K : (Int → Int) → (Int → Int) → Int → Int → Int → Int → Int → Int → Int → Int → Prop} (hK : ∀ h' o' s' e' m' c' a b d t, K h' o' s' e' m' c' a b d t) : wp_compares row many h o s e m c x y z fp fpl pt at' K := by
  refine wl11_rule (fun (i : Int) _ _ _ _ _ _ _ _ (p : Int) _ => 0 ≤ i ∧ 0 ≤ p ∧ p ≤ i) (fun (i : Int) _ _ _ _ _ _ _ _ _ _ => (256 - i).toNat) ?_ ⟨Int.le_refl 0, Int.le_refl 0, Int.le_refl 0⟩
  rintro P i h o s e m c fp fpl pt at' ⟨hi, p0, p1⟩ ih
  refine ⟨fun _ => hK _ _ _ _ _ _ _ _ _ _, fun hlt => runs_ok hw (fun h' o' s' e' m' c' k1 => ?_)⟩
  unfold so at k1
  have next : ∀ (a b d t : Int), 0 ≤ d → d ≤ i + 1 → rng (i + 1) ∧ P (i + 1) h' o' s' e' m' c' a b d t := fun a b d t d0 d1 => ⟨⟨by omega, by omega⟩, ih _ _ _ _ _ _ _ _ _ _ _ ⟨by omega, d0, d1⟩ (by omega)⟩
  have b195 : ∀ (k z1 z2 : Int), wp_compares_195 c' e' fp fpl h' i k m' o' pt z1 z2 s' P := fun k z1 z2 => ⟨⟨by omega, by omega⟩, fun _ => ⟨fun _ => next _ _ _ _ (by omega) (by omega), fun _ => next _ _ _ _ (by omega) (by omega)⟩, fun _ => next _ _ _ _ (by omega) (by omega)⟩
  have b154 : ∀ (k z1 z2 z3 : Int), (z3 = 0 ∨ z3 = 1) → wp_compares_154 x y c' e' fp fpl h' i k m' o' pt z1 z2 s' P z3 := fun k z1 z2 z3 h3 => ⟨h3, fun _ => b195 _ _ _, fun _ => ⟨fun _ => next _ _ _ _ (by omega) (by omega), fun _ => ⟨⟨by omega, by omega⟩, fun _ => b195 _ _ _, fun _ => ⟨⟨by omega, by omega⟩, fun _ => b195 _ _ _, fun _ => next _ _ _ _ (by omega) (by omega)⟩⟩⟩⟩
  have b134 : ∀ (k z1 z2 : Int), wp_compares_134 x y at' c' e' fp fpl h' i k m' o' pt z1 s' P z2 := fun k z1 z2 => ⟨fun _ => b154 _ _ _ 1 (Or.inr rfl), fun _ => ⟨fun _ => b154 _ _ _ 0 (Or.inl rfl), fun _ => b154 _ _ _ 1 (Or.inr rfl)⟩⟩
  have b110 : ∀ (k z1 : Int), wp_compares_110 x y at' c' e' fp fpl h' i k m' o' pt s' P z1 := fun k z1 => ⟨fun _ => b134 _ _ 1, fun _ => ⟨⟨by omega, by omega⟩, fun _ => b134 _ _ 0, fun _ => b134 _ _ 1⟩⟩
  have b87 : ∀ (k : Int), wp_compares_87 x y at' c' e' fp fpl h' i k m' o' pt s' P := fun k => ⟨fun _ => b110 _ 0, fun _ => ⟨⟨by omega, by omega⟩, fun _ => b110 _ 0, fun _ => b110 _ 1⟩⟩
  refine wl1_rule (fun (k : Int) => 0 ≤ k) (fun (k : Int) => (m' - k).toNat) ?_ (Int.le_refl 0)
  rintro P2 k hk ih2
  exact ⟨fun _ => b87 k, fun hlt2 => ⟨⟨by omega, by omega⟩, fun _ => b87 k, fun _ => ⟨⟨by omega, by omega⟩, ⟨by omega, by omega⟩, fun _ => b87 k, fun _ => ⟨⟨by omega, by omega⟩, ih2 _ (by omega) (by omega)⟩⟩⟩⟩
