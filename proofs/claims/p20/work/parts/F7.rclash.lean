-- ===== the reference finds the same clashes
theorem b016 : ∀ (a : Fin 64) (w : Fin 6), (ziand (zishr a.val w.val) 1 = 1) ↔ (ziand (zishr a.val w.val) 1 ≠ 0) := by decide +kernel
theorem bit_1 {a w : Int} (ha : b63 a) (hw : bv w) : (ziand (zishr a w) 1 = 1) ↔ bitR a w := by
  obtain ⟨k, rfl⟩ := fin6 hw.1 hw.2
  obtain ⟨m, hm⟩ : ∃ m : Fin 64, a = (m.val : Int) := ⟨⟨a.toNat, by unfold b63 at ha; omega⟩, by unfold b63 at ha; show a = ((a.toNat : Nat) : Int); omega⟩
  rw [hm]
  exact b016 m k
theorem Mx.set1 {f : Int → Int} {C : Int → Int → Prop} (h : Mx f C) {i j : Int} (hi : bv i) (hj : bv j) (hij : i ≠ j) : Mx (uZ f i (zior (f i) (zishl 1 j))) (fun v w => C v w ∨ (v = i ∧ w = j)) := by
  have o1 := one_bs hj
  intro v hv
  by_cases e : v = i
  · subst e
    rw [uZ_eq]
    have o := or63 (h v hi).1 o1.1
    refine ⟨o.1, fun w hw => ?_⟩
    rw [o.2 w hw, (h v hi).2 w hw, o1.2 w hw]
    constructor
    · rintro (⟨q1, q2⟩ | q)
      · exact ⟨q1, Or.inl q2⟩
      · exact ⟨by omega, Or.inr ⟨rfl, q.symm⟩⟩
    · rintro ⟨q1, q2 | ⟨-, q2⟩⟩
      · exact Or.inl ⟨q1, q2⟩
      · exact Or.inr q2.symm
  · rw [uZ_ne e]
    refine ⟨(h v hv).1, fun w hw => ?_⟩
    rw [(h v hv).2 w hw]
    constructor
    · exact fun q => ⟨q.1, Or.inl q.2⟩
    · rintro ⟨q1, q2 | ⟨q2, -⟩⟩
      · exact ⟨q1, q2⟩
      · exact absurd q2 e
theorem clashAll_x {f : Int → Int} {a : Int} {C : Int → Int → Prop} (ha : b63 a) (h : Mx f C) {K : (Int → Int) → Prop} (k : ∀ f', Mx f' (fun v w => C v w ∨ (bitR a v ∧ bitR a w)) → K f') : wp_clashAll f a K := by
  refine wl2_rule (fun (i : Int) (f : Int → Int) => 0 ≤ i ∧ Mx f (fun v w => C v w ∨ (v < i ∧ bitR a v ∧ bitR a w))) (fun (i : Int) _ => (6 - i).toNat) ?_ ⟨Int.le_refl 0, h.congr (fun v w hv _ _ => ⟨Or.inl, fun q => q.elim id (fun q => absurd q.1 (by unfold bv at hv; omega))⟩)⟩
  rintro P i d ⟨hi, hm⟩ ih
  refine ⟨fun h6 => k d (hm.congr (fun v w hv hw _ => ?_)), fun h6 => ?_⟩
  · exact ⟨fun q => q.imp id (fun q => q.2), fun q => q.imp id (fun q => ⟨by unfold bv at hv; omega, q⟩)⟩
  have bi : bv i := ⟨hi, by omega⟩
  refine ⟨fun z => ⟨⟨by omega, by omega⟩, ih _ _ ⟨by omega, hm.congr (fun v w hv hw _ => ?_)⟩ (by omega)⟩, fun z => ⟨⟨hi, h6⟩, ⟨hi, h6⟩, ⟨by omega, by omega⟩, ih _ _ ⟨by omega, (hm.upd bi ha).congr (fun v w hv hw _ => ?_)⟩ (by omega)⟩⟩
  · have nb : ¬ bitR a i := fun q => z ((bit_1 ha bi).mpr q)
    constructor
    · exact fun q => q.imp id (fun q => ⟨by omega, q.2⟩)
    · rintro (q | ⟨q1, q2, q3⟩)
      · exact Or.inl q
      · by_cases e : v = i
        · rw [e] at q2; exact absurd q2 nb
        · exact Or.inr ⟨by omega, q2, q3⟩
  · have nb : bitR a i := (bit_1 ha bi).mp z
    constructor
    · rintro ((q | ⟨q1, q2⟩) | ⟨q1, q2⟩)
      · exact Or.inl q
      · exact Or.inr ⟨by omega, q2⟩
      · exact Or.inr ⟨by omega, by rw [q1]; exact nb, q2⟩
    · rintro (q | ⟨q1, q2, q3⟩)
      · exact Or.inl (Or.inl q)
      · by_cases e : v = i
        · exact Or.inr ⟨e, q3⟩
        · exact Or.inl (Or.inr ⟨by omega, q2, q3⟩)
theorem clashSet_x {f : Int → Int} {x a : Int} {C : Int → Int → Prop} (hx : bv x) (ha : b63 a) (h : Mx f C) {K : (Int → Int) → Prop} (k : ∀ f', Mx f' (fun v w => C v w ∨ (v = x ∧ bitR a w) ∨ (w = x ∧ bitR a v)) → K f') : wp_clashSet f x a K := by
  have bx := hx
  unfold bv at bx
  refine ⟨⟨by omega, by omega⟩, ⟨by omega, by omega⟩, wl2_rule (fun (i : Int) (f : Int → Int) => 0 ≤ i ∧ Mx f (fun v w => C v w ∨ (v = x ∧ bitR a w) ∨ (v < i ∧ w = x ∧ bitR a v))) (fun (i : Int) _ => (6 - i).toNat) ?_ ⟨Int.le_refl 0, (h.upd hx ha).congr (fun v w hv _ _ => ⟨fun q => q.imp id Or.inl, fun q => q.imp id (fun q => q.elim id (fun q => absurd q.1 (by unfold bv at hv; omega)))⟩)⟩⟩
  rintro P i d ⟨hi, hm⟩ ih
  refine ⟨fun h6 => k d (hm.congr (fun v w hv hw _ => ?_)), fun h6 => ?_⟩
  · exact ⟨fun q => q.imp id (fun q => q.imp id (fun q => q.2)), fun q => q.imp id (fun q => q.imp id (fun q => ⟨by unfold bv at hv; omega, q⟩))⟩
  have bi : bv i := ⟨hi, by omega⟩
  refine ⟨fun z => ⟨⟨by omega, by omega⟩, ih _ _ ⟨by omega, hm.congr (fun v w hv hw hne => ?_)⟩ (by omega)⟩, fun z => ⟨fun z2 => ⟨⟨by omega, by omega⟩, ih _ _ ⟨by omega, hm.congr (fun v w hv hw hne => ?_)⟩ (by omega)⟩, fun z2 => ⟨⟨hi, h6⟩, ⟨hi, h6⟩, ⟨by omega, by omega⟩, ih _ _ ⟨by omega, (hm.set1 bi hx z).congr (fun v w hv hw hne => ?_)⟩ (by omega)⟩⟩⟩
  · constructor
    · exact fun q => q.imp id (fun q => q.imp id (fun q => ⟨by omega, q.2⟩))
    · rintro (q | q | ⟨q1, q2, q3⟩)
      · exact Or.inl q
      · exact Or.inr (Or.inl q)
      · exact Or.inr (Or.inr ⟨by omega, q2, q3⟩)
  · have nb : ¬ bitR a i := fun q => z2 ((bit_1 ha bi).mpr q)
    constructor
    · exact fun q => q.imp id (fun q => q.imp id (fun q => ⟨by omega, q.2⟩))
    · rintro (q | q | ⟨q1, q2, q3⟩)
      · exact Or.inl q
      · exact Or.inr (Or.inl q)
      · by_cases e : v = i
        · rw [e] at q3; exact absurd q3 nb
        · exact Or.inr (Or.inr ⟨by omega, q2, q3⟩)
  · have nb : bitR a i := (bit_1 ha bi).mp z2
    constructor
    · rintro ((q | q | ⟨q1, q2⟩) | ⟨q1, q2⟩)
      · exact Or.inl q
      · exact Or.inr (Or.inl q)
      · exact Or.inr (Or.inr ⟨by omega, q2⟩)
      · exact Or.inr (Or.inr ⟨by omega, q2, by rw [q1]; exact nb⟩)
    · rintro (q | q | ⟨q1, q2, q3⟩)
      · exact Or.inl (Or.inl q)
      · exact Or.inl (Or.inr (Or.inl q))
      · by_cases e : v = i
        · exact Or.inr ⟨e, q2⟩
        · exact Or.inl (Or.inr (Or.inr ⟨by omega, q2, q3⟩))
/-- clashFrom over one block -/
def KX (row : Int → Int) (many : Int) (l : List Int) : Prop := ∀ (n : Nat) (q out : Int) (O : Int → Prop) (c : Int → Int) (C : Int → Int → Prop) (P : Int → (Int → Int) → Prop) (K : (Int → Int) → Prop), cs l ≤ n → cs l ≤ 40 → At row q l → 0 ≤ q → q + l.length ≤ many → l.length ≤ 500 → Lst row many (q + l.length) → BS out O → Mx c C → (∀ a b, wp_clashFrom_2 (wp_clashFrom n) K row many out P a b → P a b) → (∀ c', Mx c' (fun v w => C v w ∨ CX (CT l O) v w) → P (q + l.length) c') → P q c
theorem clashFrom_x {row : Int → Int} {many : Int} (hm : many ≤ 2400) {l : List Int} (hl : KX row many l) {n : Nat} {q out : Int} {O : Int → Prop} {c : Int → Int} {C : Int → Int → Prop} {K : (Int → Int) → Prop} (hn : cs l + 1 ≤ n) (h40 : cs l ≤ 40) (ha : At row q l) (h0 : 0 ≤ q) (h1 : q + l.length ≤ many) (h2 : l.length ≤ 500) (h3 : Lst row many (q + l.length)) (ho : BS out O) (hM : Mx c C) (hK : ∀ c', Mx c' (fun v w => C v w ∨ CX (CT l O) v w) → K c') : wp_clashFrom n row many c q out K := by
  obtain ⟨n, rfl⟩ : ∃ k, n = k + 1 := ⟨n - 1, by omega⟩
  rw [wp_clashFrom_s]
  intro P hP
  exact hl n q out O c C P K (by omega) h40 ha h0 h1 h2 h3 ho hM hP (fun c' hc => hP _ _ (isLast_yes (by omega) hm h3 (u1 (hK c' hc))))
theorem cf_step {row : Int → Int} {many : Int} (hm : many ≤ 2400) {st r : List Int} {n : Nat} {q out : Int} {O : Int → Prop} {c : Int → Int} {C : Int → Int → Prop} {P : Int → (Int → Int) → Prop} {K : (Int → Int) → Prop} (hss : Sm Sq st) (hr : Sq r) (h40 : cs st + cs r ≤ 40) (a1 : At row q st) (a2 : At row (q + st.length) r) (h0 : 0 ≤ q) (h1 : q + st.length + r.length ≤ many) (h2 : st.length + r.length ≤ 500) (h3 : Lst row many (q + st.length + r.length)) (ho : BS out O) (hM : Mx c C)
    (k : ∀ af, BS af (LV r O) → ∀ d, Mx d (fun v w => C v w ∨ (LV (st ++ r) O v ∧ LV (st ++ r) O w)) → wp_isIn (row q) 100 105 (fun r47 => (r47 = 0 → wp_clashFrom_64 (wp_clashFrom n) row many q af P d) ∧ (r47 ≠ 0 → rng (row q - 100) ∧ wp_clashSet d (row q - 100) af (fun d2 => wp_clashFrom_64 (wp_clashFrom n) row many q af P d2)))) : wp_clashFrom_2 (wp_clashFrom n) K row many out P q c := by
  have hp := hss.pos
  have hcs := hss.csp
  refine isLast_no h0 (by omega) hm (hss.at0 a1) (u0 (behind_ok hss (by omega) a1 h0 (by omega) (by omega) (liveFrom_x hm hr (by omega) a2 (by omega) (by omega) (by omega) h3 ho (fun af haf => ⟨⟨by omega, by omega⟩, liveAt_x hm hss (by omega) a1 h0 (by omega) (by omega) haf (fun lv hlv => clashAll_x hlv.1 hM (fun d hd => k af haf d (hd.congr (fun v w hv hw _ => ?_))))⟩))))
  rw [hlv.2 v hv, hlv.2 w hw, LV_app hss hr]
theorem KX_all {row : Int → Int} {many : Int} (hm : many ≤ 2400) : ∀ {l : List Int}, Sq l → KX row many l := by
  intro l hl
  refine Sq.ind (P := KX row many) ?_ ?_ hl
  · intro n q out O c C P K _ _ _ _ _ _ _ _ hM _ h
    have := h c (hM.congr (fun v w _ _ _ => ⟨Or.inl, fun z => z.elim id (fun z => by rw [CT_nil] at z; exact absurd z CX_nil)⟩))
    simpa using this
  · intro st r hs hr ih n q out O c C P K hn h40 ha h0 h1 h2 h3 ho hM hP h
    rw [cs_app] at hn h40
    rw [List.length_append] at h1 h2 h3 h
    obtain ⟨a1, a2⟩ := At_app.mp ha
    have hp := hs.pos
    have hcs := hs.csp
    have hss : Sm Sq st := hs.mono (fun _ h => h.1)
    have e : q + ((st.length + r.length : Nat) : Int) = q + (st.length : Int) + r.length := by omega
    rw [e] at h3 h
    have fin : ∀ T, CT (st ++ r) O = T ++ CT r O → ∀ x, Mx x (fun v w => C v w ∨ CX T v w) → wp_clashFrom_141 row q P x := fun T hT x hx => behind_ok hss (by omega) a1 h0 (by omega) (by omega) (ih n _ out O x _ P K (by omega) (by omega) a2 (by omega) (by omega) (by omega) h3 ho hx hP (fun c' hc' => h c' (hc'.congr (fun v w _ _ _ => by rw [hT, CX_app, or_assoc]))))
    refine hP _ _ (cf_step hm hss hr (by omega) a1 a2 h0 (by omega) (by omega) h3 ho hM (fun af haf d hd => ?_))
    have laf := haf.2
    rcases hs with ⟨v, ex, hv, he, rfl⟩ | rfl | ⟨t, a, b, B, C', ht, hA, hB, hb, hcc, rfl⟩ | ⟨t, a, b, B, ht, hA, hB, hb, rfl⟩
    · have e1 : row q = v := a1.1
      have hv' := hv
      unfold setC at hv'
      have hT := CT_set (out := O) hv he hr
      have hL := LV_set (out := O) hv he hr
      rw [hL] at hd
      refine isIn_c (fun x y => t1 ⟨⟨by omega, by omega⟩, clashSet_x (x := row q - 100) ⟨by omega, by omega⟩ haf.1 hd (fun d2 hd2 => ⟨fun _ => ⟨fun z => absurd z (by omega), fun _ => fin [_] hT d2 (hd2.congr (fun v' w' hv1 hw1 _ => ?_))⟩, fun z => absurd z (by omega)⟩)⟩) (fun z => t0 ⟨fun _ => ⟨fun z => absurd z (by omega), fun _ => fin [_] hT d (hd.congr (fun v' w' hv1 hw1 _ => ?_))⟩, fun z => absurd z (by omega)⟩)
      · rw [CX_cons, laf v' hv1, laf w' hw1]
        unfold cl1
        constructor
        · rintro ((q1 | q1) | ⟨q1, q2⟩ | ⟨q1, q2⟩)
          · exact Or.inl q1
          · exact Or.inr (Or.inl (Or.inl q1))
          · exact Or.inr (Or.inl (Or.inr (Or.inl ⟨by show v = 100 + v'; omega, q2⟩)))
          · exact Or.inr (Or.inl (Or.inr (Or.inr ⟨by show v = 100 + w'; omega, q2⟩)))
        · rintro (q1 | ((q1 | ⟨q1, q2⟩ | ⟨q1, q2⟩) | q1))
          · exact Or.inl (Or.inl q1)
          · exact Or.inl (Or.inr q1)
          · have q1 : v = 100 + v' := q1
            exact Or.inr (Or.inl ⟨by omega, q2⟩)
          · have q1 : v = 100 + w' := q1
            exact Or.inr (Or.inr ⟨by omega, q2⟩)
          · exact absurd q1 CX_nil
      · rw [CX_cons]
        unfold cl1
        constructor
        · rintro (q1 | q1)
          · exact Or.inl q1
          · exact Or.inr (Or.inl (Or.inl q1))
        · rintro (q1 | ((q1 | ⟨q1, q2⟩ | ⟨q1, q2⟩) | q1))
          · exact Or.inl q1
          · exact Or.inr q1
          · have q1 : v = 100 + v' := q1
            unfold bv at hv1; omega
          · have q1 : v = 100 + w' := q1
            unfold bv at hw1; omega
          · exact absurd q1 CX_nil
    · have e1 : row q = 111 := a1.1
      have hT := CT_fail (out := O) hr
      have hL := LV_fail (out := O) hr
      rw [hL] at hd
      refine isIn_c (fun x y => absurd y (by omega)) (fun z => t0 ⟨fun _ => ⟨fun z => absurd z (by omega), fun _ => fin [_] hT d (hd.congr (fun v' w' hv1 hw1 _ => ?_))⟩, fun z => absurd z (by omega)⟩)
      rw [CX_cons]
      unfold cl1
      constructor
      · rintro (q1 | q1)
        · exact Or.inl q1
        · exact Or.inr (Or.inl (Or.inl q1))
      · rintro (q1 | ((q1 | ⟨q1, q2⟩ | ⟨q1, q2⟩) | q1))
        · exact Or.inl q1
        · exact Or.inr q1
        · exact q2.elim
        · exact q2.elim
        · exact absurd q1 CX_nil
    · have e1 : row q = 112 := a1.1
      have hl := len_if (t := t) (a := a) (b := b) (B := B) (C := C')
      rw [cs_if ht hA hB] at hn h40
      obtain ⟨r1, r2, r3, r4, r5, r6, r7, r8⟩ := At_if.mp a1
      have lb : Lst row many (q + 2 + a.length + b.length + B.length) := Or.inr ⟨by omega, Or.inl r6⟩
      have hT := CT_if (out := O) ht hA hB hb.1 hcc.1 hr
      have hL := LV_if (out := O) ht hA hB hb.1 hcc.1 hr
      rw [hL] at hd
      refine isIn_c (fun x y => absurd y (by omega)) (fun z => t0 ⟨fun _ => ⟨fun _ => ?_, fun z => absurd e1 z⟩, fun z => absurd z (by omega)⟩)
      refine body_ok hA hB h0 r3 r4 (by omega) (by omega) (by omega) (close_ok hm hb.1 _ _ (by omega) r5 (by omega) (by omega) (by omega) lb (body_ok hA hB h0 r3 r4 (by omega) (by omega) (by omega) ?_))
      refine clashFrom_x hm hb.2 (by omega) (by omega) r5 (by omega) (by omega) (by omega) lb haf hd (fun c1 hc1 => ⟨⟨by omega, by omega⟩, fun z => absurd r6 z, fun _ => ⟨⟨by omega, by omega⟩, ?_⟩⟩)
      refine clashFrom_x hm hcc.2 (by omega) (by omega) r7 (by omega) (by omega) (by omega) (Or.inr ⟨by omega, Or.inr r8⟩) haf hc1 (fun c2 hc2 => fin _ hT c2 (hc2.congr (fun v' w' hv1 hw1 _ => ?_)))
      rw [CX_cons, CX_app]
      unfold cl1
      constructor
      · rintro (((q1 | q1) | q1) | q1)
        · exact Or.inl q1
        · exact Or.inr (Or.inl (Or.inl q1))
        · exact Or.inr (Or.inr (Or.inl q1))
        · exact Or.inr (Or.inr (Or.inr q1))
      · rintro (q1 | ((q1 | ⟨q1, q2⟩ | ⟨q1, q2⟩) | q1 | q1))
        · exact Or.inl (Or.inl (Or.inl q1))
        · exact Or.inl (Or.inl (Or.inr q1))
        · exact q2.elim
        · exact q2.elim
        · exact Or.inl (Or.inr q1)
        · exact Or.inr q1
    · have e1 : row q = 115 := a1.1
      have hl := len_wh (t := t) (a := a) (b := b) (B := B)
      have hcw := cs_wh (t := t) (a := a) (b := b) (B := B) ht hA hB
      obtain ⟨r1, r2, r3, r4, r5, r6⟩ := At_wh.mp a1
      have lb : Lst row many (q + 2 + a.length + b.length + B.length) := Or.inr ⟨by omega, Or.inr r6⟩
      have hT := CT_wh (out := O) ht hA hB hb.1 hr
      have hL := LV_wh (out := O) ht hA hB hb.1 hr
      rw [hL] at hd
      refine isIn_c (fun x y => absurd y (by omega)) (fun z => t0 ⟨fun z => absurd e1 z, fun _ => ?_⟩)
      refine body_ok hA hB h0 r3 r4 (by omega) (by omega) (by omega) (liveAt_x hm hss (by omega) a1 h0 (by omega) (by omega) haf (fun lv hlv => ?_))
      rw [← LV_app hss hr, hL] at hlv
      refine clashFrom_x hm hb.2 (by omega) (by omega) r5 (by omega) (by omega) (by omega) lb hlv hd (fun c1 hc1 => ⟨fun z => absurd z (by omega), fun _ => fin _ hT c1 (hc1.congr (fun v' w' hv1 hw1 _ => ?_))⟩)
      rw [CX_cons]
      unfold cl1
      constructor
      · rintro ((q1 | q1) | q1)
        · exact Or.inl q1
        · exact Or.inr (Or.inl (Or.inl q1))
        · exact Or.inr (Or.inr q1)
      · rintro (q1 | ((q1 | ⟨q1, q2⟩ | ⟨q1, q2⟩) | q1))
        · exact Or.inl (Or.inl q1)
        · exact Or.inl (Or.inr q1)
        · exact q2.elim
        · exact q2.elim
        · exact Or.inr q1
theorem clashIn_x {slot slotLong row c : Int → Int} {many s : Int} {l : List Int} (s0 : 0 ≤ s) (s5 : s ≤ 5) (hl : Sq l) (ha : At slot (520 * s) l) (hm : slotLong s = l.length) (hc : cs l ≤ 40) (hp : cp l ≤ 300) {K : (Int → Int) → Int → (Int → Int) → Prop} (hK : ∀ r c', WF r l.length l → Mx c' (CX (CT l NoV)) → K r l.length c') : wp_clashIn slot slotLong row many c s K := by
  refine takes_get s0 s5 hl ha hm hc hp (fun r hw => ?_)
  have hlen := hw.len
  refine wl2_rule (fun (i : Int) (f : Int → Int) => 0 ≤ i ∧ ∀ v : Int, 0 ≤ v → v < i → v ≤ 5 → f v = 0) (fun (i : Int) _ => (6 - i).toNat) ?_ ⟨Int.le_refl 0, fun v v0 v1 _ => by omega⟩
  rintro P i d ⟨hi, hz⟩ ih
  refine ⟨fun h6 => clashFrom_x (by omega) (KX_all (by omega) hw.1) (by omega) hc hw.2.1 (by omega) (by omega) (by omega) (Or.inl (by omega)) BS.z (C := fun _ _ => False) (fun v hv => by rw [hz v hv.1 (by unfold bv at hv; omega) hv.2]; exact ⟨b63_0, fun w hw => ⟨fun q => absurd q (no0 hw), fun q => q.2.elim⟩⟩) (fun c' hc' => hK r c' hw (hc'.congr (fun v w _ _ _ => ⟨fun q => q.elim (fun q => q.elim) id, Or.inr⟩))), fun h6 => ⟨⟨by omega, by omega⟩, ⟨by omega, by omega⟩, ih _ _ ⟨by omega, fun v v0 v1 v5 => ?_⟩ (by omega)⟩⟩
  unfold uZ
  by_cases q : v = i
  · rw [if_pos q]
  · rw [if_neg q]; exact hz v v0 (by omega) v5
