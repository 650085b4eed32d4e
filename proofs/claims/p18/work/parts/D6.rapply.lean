-- ===== matching and applying in the reference, exactly
theorem matches_x {row rule bound : Int → Int} {pat r p : Int} {L x : List Int} (r0 : 0 ≤ r) (r1 : r ≤ 11) (hL : Ex lfU L) (ha : At rule (40 * r) L) (l40 : L.length ≤ 40) (hx : XP row p x) {K : Int → (Int → Int) → Int → Prop} (k1 : ∀ g b', mL L E0 x = some g → EnvR row b' g → ∀ p', K 1 b' p') (k0 : mL L E0 x = none → ∀ b' p', K 0 b' p') : wp_matches row rule bound pat r p K := by
  have hxl := hx.1.pos
  have hx2 := hx.2.2
  have hc : isP (row p) = true := by
    obtain ⟨d, y, rfl⟩ : ∃ d y, x = d :: y := by
      cases x with
      | nil => exact absurd rfl hx.1.ne
      | cons d y => exact ⟨d, y, rfl⟩
    rw [hx.2.1.1]
    exact hx.1.isPs d List.mem_cons_self
  refine reset3 (fun P => ⟨fun _ => ⟨⟨by omega, by omega⟩, isPart_c (fun _ => t1 ?_) (fun q => by rw [hc] at q; cases q)⟩, fun z => absurd z (by decide)⟩)
  refine fits_x r0 r1 hL 100 p 0 E0 x _ _ (by omega) (by rw [show 40 * r + 0 = 40 * r by omega]; exact ha) (by omega) (by omega) hx (fun k q0 q1 => Or.inl ⟨rfl, ?_⟩) (fun g b' q hg => t1 (k1 g b' q hg _)) (fun q b' p' => t0 (k0 q b' p'))
  unfold uZ
  by_cases h2 : k = 2
  · rw [if_pos h2]
  · rw [if_neg h2]
    by_cases h1 : k = 1
    · rw [if_pos h1]
    · rw [if_neg h1, if_pos (by omega)]
theorem matches_no {row rule bound : Int → Int} {pat r p : Int} (p0 : 0 ≤ p) (p1 : p < 2400) (hc : isP (row p) = false) {K : Int → (Int → Int) → Int → Prop} (k0 : ∀ b' p', K 0 b' p') : wp_matches row rule bound pat r p K :=
  reset3 (fun P => ⟨fun _ => ⟨⟨by omega, by omega⟩, isPart_c (fun q => by rw [hc] at q; cases q) (fun _ => t0 (k0 _ _))⟩, fun z => absurd z (by decide)⟩)
theorem matchesAt_x {row rule bound : Int → Int} {many pat r : Int} {l L : List Int} {k : Nat} (h : WF row many l) (r0 : 0 ≤ r) (r1 : r ≤ 11) (hL : Ex lfU L) (ha : At rule (40 * r) L) (l40 : L.length ≤ 40) (hk : k < l.length) {K : Int → (Int → Int) → Int → Prop} (k1 : ∀ g b', mAt L l k = some g → EnvR row b' g → ∀ p', K 1 b' p') (k0 : mAt L l k = none → ∀ b' p', K 0 b' p') : wp_matches row rule bound pat r k K := by
  have hlen := h.len
  obtain ⟨pre, c, post, e, hp⟩ := at_split hk
  subst hp
  have at0 := h.2.1
  rw [e] at at0
  have ec : row pre.length = c := by
    have := (At_app.mp at0).2.1
    rwa [Int.zero_add] at this
  by_cases hc : isP c = true
  · obtain ⟨x, t, e1, hx, _⟩ := sub_at h.1 e hc
    have e2 : l = pre ++ (x ++ t) := by rw [e, e1]
    rw [mAt_P (c := c) e2 hx] at k1 k0
    rw [e1] at at0
    obtain ⟨a1, a2⟩ := At_app.mp at0
    rw [Int.zero_add] at a2
    have hl2 : l.length = pre.length + (x.length + t.length) := by rw [e2]; simp
    exact matches_x r0 r1 hL ha l40 ⟨hx, (At_app.mp a2).1, by omega, by omega⟩ k1 k0
  · have hf : isP c = false := Bool.eq_false_iff.mpr hc
    rw [mAt_no e hf] at k0
    exact matches_no (by omega) (by omega) (by rw [ec]; exact hf) (fun b' p' => k0 rfl b' p')
theorem match_x {row rule bound : Int → Int} {many pat r nth : Int} {l L : List Int} (h : WF row many l) (r0 : 0 ≤ r) (r1 : r ≤ 11) (hL : Ex lfU L) (ha : At rule (40 * r) L) (l40 : L.length ≤ 40) (n0 : 0 ≤ nth) {K : Int → (Int → Int) → Int → Prop} (k1 : ∀ (j : Nat) g, j < l.length → mAt L l j = some g → (cntM L l j : Int) = nth → ∀ b' p', K j b' p') (k0 : (cntM L l l.length : Int) ≤ nth → ∀ b' p', K (-1) b' p') : wp_match row many rule bound pat r nth K := by
  have hlen := h.len
  have hm := h.2.2.1
  refine wl4_rule (fun (n i : Int) (_ : Int → Int) (_ : Int) => ∃ j : Nat, i = (j : Int) ∧ j ≤ l.length ∧ n = (cntM L l j : Int) ∧ (cntM L l j : Int) ≤ nth) (fun (_ i : Int) _ _ => (many - i).toNat) ?_ ⟨0, rfl, Nat.zero_le _, rfl, n0⟩
  rintro P n i bd pt ⟨j, rfl, hj, rfl, hle⟩ ih
  have hc := cntM_le (X := L) (l := l) j
  refine ⟨fun z => ?_, fun hlt => ⟨⟨by omega, by omega⟩, ?_⟩⟩
  · have : j = l.length := by omega
    subst this
    exact k0 hle _ _
  have hjl : j < l.length := by omega
  have e : ∀ v : Nat, (if (mAt L l j).isSome = true then 1 else 0) = v → cntM L l (j + 1) = cntM L l j + v := fun v q => by show cntM L l j + _ = _; rw [q]
  have no : mAt L l j = none → ∀ b' p', rng ((j : Int) + 1) ∧ P (cntM L l j) ((j : Int) + 1) b' p' := fun q b' p' => ⟨⟨by omega, by omega⟩, ih _ _ _ _ ⟨j + 1, by omega, by omega, by rw [e 0 (by rw [q]; rfl)]; omega, by rw [e 0 (by rw [q]; rfl)]; omega⟩ (by omega)⟩
  obtain ⟨pre, c, post, el, hp⟩ := at_split hjl
  have ec : row j = c := by
    have := h.2.1
    rw [el] at this
    have := (At_app.mp this).2.1
    rw [Int.zero_add, hp] at this
    exact this
  rw [ec]
  refine isPart_c (fun hP => t1 (matchesAt_x h r0 r1 hL ha l40 hjl (fun g b' q _ p' => ⟨fun _ => ⟨fun zn => ⟨⟨by omega, by omega⟩, ⟨by omega, by omega⟩, ih _ _ _ _ ⟨j + 1, by omega, by omega, by rw [e 1 (by rw [q]; rfl)]; omega, by rw [e 1 (by rw [q]; rfl)]; omega⟩ (by omega)⟩, fun zn => k1 j g hjl q zn b' p'⟩, fun z => absurd z (by decide)⟩) (fun q b' p' => ⟨fun z => absurd rfl z, fun _ => no q b' p'⟩))) (fun hf => t0 ?_)
  have := no (by have := mAt_no (X := L) el hf; rw [hp] at this; exact this)
  exact this bd pt
theorem applies_x {row f : Int → Int} {many m : Int} {l : List Int} (h : WF row many l) {rule ruleRight ruleLong : Int → Int} {r : Int} {L R : List Int} (r0 : 0 ≤ r) (r1 : r ≤ 11) (hr : RW rule ruleRight ruleLong r L R) {bound : Int → Int} {pat : Int} {pre x post : List Int} (el : l = pre ++ (x ++ post)) (hxx : Ex lfR x) (hy : ∀ y, Ex lfR y → Sq (pre ++ (y ++ post))) {g : Env} (hmt : mL L E0 x = some g) {K : Int → (Int → Int) → (Int → Int) → Int → Int → (Int → Int) → Int → Prop} (h0 : ¬ ((inst R g).length + cp l ≤ 300 + x.length) → ∀ bound' pat', K 0 row f many m bound' pat') (h1 : (inst R g).length + cp l ≤ 300 + x.length → ∀ row' f' many' m' bound' pat', WF row' many' (pre ++ (inst R g ++ post)) → K 1 row' f' many' m' bound' pat') : wp_applies row f many m rule ruleRight ruleLong bound pat r pre.length K := by
  have hlen := h.len
  have hmany := h.2.2.1
  have hcp := h.2.2.2.2
  have hcs := h.2.2.2.1
  have elen : l.length = pre.length + (x.length + post.length) := by rw [el]; simp
  have ecp : cp l = cp pre + (x.length + cp post) := by rw [el, cp_app, cp_app, hxx.cpz]
  have ecs : cs l = cs pre + cs post := by rw [el, cs_app, cs_app, hxx.csz]; omega
  have at0 := h.2.1
  rw [el] at at0
  obtain ⟨apre, a2⟩ := At_app.mp at0
  rw [Int.zero_add] at a2
  obtain ⟨ax, apost⟩ := At_app.mp a2
  have epre : (pre.length : Int) = pre.length := rfl
  have hx : XP row pre.length x := ⟨hxx, ax, by omega, by omega⟩
  have hx' := hx.2.2.2
  obtain ⟨eL, eR, aLR, eRight, eLong, le40, hsub⟩ := hr
  obtain ⟨aL, aR⟩ := At_app.mp aLR
  have e00 : EnvOK E0 := fun _ => Or.inl rfl
  obtain ⟨ok, _, bnds⟩ := mL_env eL E0 x g hxx e00 hmt
  have ey : Ex lfR (sub g R) := inst_ex ok eR (fun c hc c0 c1 => bnds c (hsub c hc c0 c1) c0 c1)
  refine matches_x r0 r1 eL aL (by omega) hx (fun g' bd q hbd pt => ?_) (fun q => by rw [hmt] at q; cases q)
  have : g' = g := by rw [hmt] at q; exact (Option.some.inj q).symm
  subst this
  have xl : ∀ c ∈ R, 30 ≤ c → c ≤ 32 → XP row (bd (c - 30)) (g' (c - 30)) := by
    intro c hc c0 c1
    rcases hbd (c - 30) (by omega) (by omega) with z | z
    · exact absurd z.1 (bnds c (hsub c hc c0 c1) c0 c1)
    · exact z.2
  rw [show inst R g' = sub g' R from rfl] at h0 h1
  generalize hpp : (pre.length : Int) = p at *
  refine (parts_ok h.2.1 hmany (by omega) (hx.endOf ⟨⟨by omega, by omega⟩, ⟨by omega, by omega⟩, ?_⟩))
  rw [show (cp l : Int) - (p + (x.length : Int) - p) = cp l - x.length by omega, eRight]
  -- how long it would be
  refine wl2_rule (fun (n i : Int) => ∃ a b : List Int, R = a ++ b ∧ i = L.length + a.length ∧ n = cp l - x.length + (sub g' a).length ∧ ((sub g' a).length : Int) ≤ 460 * a.length) (fun (_ i : Int) => (40 - i).toNat) ?_ ⟨[], R, rfl, by simp, by simp [sub], by simp [sub]⟩
  rintro P n i ⟨a, b, eab, rfl, rfl, hb460⟩ ih
  have hRl : R.length = a.length + b.length := by rw [eab]; simp
  unfold wp_applies_28
  rw [eLong]
  refine ⟨⟨by omega, by omega⟩, fun hend => ⟨fun hle => ?_, fun hbig => h0 (by
    have hbn : b = [] := List.length_eq_zero_iff.mp (by omega)
    have hRa : a = R := by rw [eab, hbn, List.append_nil]
    rw [hRa] at hbig
    omega) _ _⟩, fun hlt => ?_⟩
  · -- it is written
    have hbn : b = [] := List.length_eq_zero_iff.mp (by omega)
    subst hbn
    rw [List.append_nil] at eab
    subst eab
    have apre : At row 0 pre := by have := h.2.1; rw [el] at this; exact (At_app.mp this).1
    refine writes_ok apre (by omega) (by omega) (by omega) (by omega) (by omega) (fun f1 m1 w1 => ⟨⟨by omega, by omega⟩, ?_⟩)
    have k1 := w1.1
    rw [eRight]
    refine wl3_rule (fun (i : Int) f2 m2 => ∃ a b : List Int, R = a ++ b ∧ i = L.length + a.length ∧ Wr f1 m1 (sub g' a) f2 m2) (fun (i : Int) _ _ => (40 - i).toNat) ?_ ⟨[], R, rfl, by simp, Wr.nil⟩
    rintro P' i f2 m2 ⟨a, b, eab, rfl, w2⟩ ih2
    have hRl : R.length = a.length + b.length := by rw [eab]; simp
    have hsl : (sub g' R).length = (sub g' a).length + (sub g' b).length := by rw [eab, sub_app, List.length_append]
    have k2 := w2.1
    unfold wp_applies_131
    rw [eLong]
    refine ⟨⟨by omega, by omega⟩, fun hend2 => ?_, fun hlt2 => ?_⟩
    · have hbn : b = [] := List.length_eq_zero_iff.mp (by omega)
      subst hbn
      rw [List.append_nil] at eab
      subst eab
      refine hx.endOf (writes_ok apost (by omega) (by omega) (by omega) (by omega) (by omega) (fun f3 m3 w3 => ?_))
      have wall := w1.app (w2.app w3)
      refine turns_ok (l := pre ++ (sub g' R ++ post)) wall.2.1 (by rw [wall.1]; omega) (by have := wall.1; simp only [List.length_append] at this; omega) (fun row' hrow => h1 (by omega) _ _ _ _ _ _ ⟨hy _ ey, hrow, ?_, ?_, ?_⟩)
      · rw [wall.1]; omega
      · rw [cs_app, cs_app, ey.csz]; omega
      · rw [cp_app, cp_app, ey.cpz]; omega
    · cases b with
      | nil => simp at hRl; omega
      | cons c b =>
        have hcR : c ∈ R := by rw [eab]; exact List.mem_append_right _ List.mem_cons_self
        have ac : rule (40 * r + (L.length + a.length)) = c := by
          rw [eab] at aR
          have := (At_app.mp aR).2.1
          rw [show 40 * r + (L.length : Int) + a.length = 40 * r + (L.length + a.length) by omega] at this
          exact this
        have hs1 : sub g' (a ++ [c]) = sub g' a ++ sb g' c := by rw [sub_app, sub_one]
        have hs2 : (sub g' (c :: b)).length = (sb g' c).length + (sub g' b).length := by
          rw [show c :: b = [c] ++ b from rfl, sub_app, sub_one, List.length_append]
        simp only [List.length_cons] at hRl
        refine ⟨⟨by omega, by omega⟩, isIn_c (fun c0 c1 => t1 ?_) (fun hn => t0 ?_)⟩
        · rw [ac] at c0 c1 ⊢
          have hxc := xl c hcR c0 c1
          have es : sb g' c = g' (c - 30) := if_pos ⟨c0, c1⟩
          have hx3 := hxc.2.2
          refine ⟨⟨by omega, by omega⟩, ⟨by omega, by omega⟩, hxc.endOf (writes_ok hxc.2.1 rfl hxc.2.2.1 (by omega) (by omega) (by rw [es] at hs2; omega) (fun f3 m3 w3 => ⟨⟨by omega, by omega⟩, ih2 _ _ _ ⟨a ++ [c], b, by rw [eab]; simp, by simp only [List.length_append, List.length_cons, List.length_nil]; omega, ?_⟩ (by omega)⟩))⟩
          rw [hs1, es]
          exact w2.app w3
        · rw [ac] at hn ⊢
          have es : sb g' c = [c] := if_neg hn
          rw [es] at hs2
          simp only [List.length_cons, List.length_nil] at hs2
          refine write_ok (by omega) (by omega) (fun f3 m3 w3 => ⟨⟨by omega, by omega⟩, ih2 _ _ _ ⟨a ++ [c], b, by rw [eab]; simp, by simp only [List.length_append, List.length_cons, List.length_nil]; omega, ?_⟩ (by omega)⟩)
          rw [hs1, es]
          exact w2.app w3
  · cases b with
    | nil => simp at hRl; omega
    | cons c b =>
      have hcR : c ∈ R := by rw [eab]; exact List.mem_append_right _ List.mem_cons_self
      have ac : rule (40 * r + (L.length + a.length)) = c := by
        rw [eab] at aR
        have := (At_app.mp aR).2.1
        rw [show 40 * r + (L.length : Int) + a.length = 40 * r + (L.length + a.length) by omega] at this
        exact this
      have hs1 : sub g' (a ++ [c]) = sub g' a ++ sb g' c := by rw [sub_app, sub_one]
      have hl1 : (sub g' (a ++ [c])).length = (sub g' a).length + (sb g' c).length := by rw [hs1, List.length_append]
      simp only [List.length_cons] at hRl
      refine ⟨⟨by omega, by omega⟩, isIn_c (fun c0 c1 => t1 ?_) (fun hn => t0 ?_)⟩
      · rw [ac] at c0 c1 ⊢
        have hxc := xl c hcR c0 c1
        have es : sb g' c = g' (c - 30) := if_pos ⟨c0, c1⟩
        have hx3 := hxc.2.2
        rw [es] at hl1
        refine ⟨⟨by omega, by omega⟩, hxc.endOf ⟨⟨by omega, by omega⟩, ⟨by omega, by omega⟩, ⟨by omega, by omega⟩, ih _ _ ⟨a ++ [c], b, by rw [eab]; simp, by simp only [List.length_append, List.length_cons, List.length_nil]; omega, by omega, by simp only [List.length_append, List.length_cons, List.length_nil] at hl1 ⊢; omega⟩ (by omega)⟩⟩
      · rw [ac] at hn
        have es : sb g' c = [c] := if_neg hn
        rw [es] at hl1
        simp only [List.length_cons, List.length_nil] at hl1
        exact ⟨⟨by omega, by omega⟩, ⟨by omega, by omega⟩, ih _ _ ⟨a ++ [c], b, by rw [eab]; simp, by simp only [List.length_append, List.length_cons, List.length_nil]; omega, by omega, by simp only [List.length_append, List.length_cons, List.length_nil] at hl1 ⊢; omega⟩ (by omega)⟩
