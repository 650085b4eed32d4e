def RW (rule ruleRight ruleLong : Int → Int) (r : Int) (L R : List Int) : Prop := Ex lfU L ∧ Ex lfU R ∧ At rule (40 * r) (L ++ R) ∧ ruleRight r = L.length ∧ ruleLong r = L.length + R.length ∧ L.length + R.length ≤ 40 ∧ ∀ c ∈ R, 30 ≤ c → c ≤ 32 → c ∈ L
/-- the rule matches at p: always the same answer -/
def Mt (row rule : Int → Int) (r p : Int) (L : List Int) : Prop := ∃ g : Int → Int, BVa row g ∧ alb L g ∧ ∀ (bound : Int → Int) (pat : Int), ∃ (bound' : Int → Int) (pat' : Int), agr bound' g ∧ ∀ K : Int → (Int → Int) → Int → Prop, K 1 bound' pat' → wp_matches row rule bound pat r p K
def Mn (row rule : Int → Int) (r p : Int) : Prop := ∀ (bound : Int → Int) (pat : Int), ∃ (bound' : Int → Int) (pat' : Int), ∀ K : Int → (Int → Int) → Int → Prop, K 0 bound' pat' → wp_matches row rule bound pat r p K
theorem reset3 {row rule bound : Int → Int} {pat r p : Int} {K : Int → (Int → Int) → Int → Prop} (h : ∀ P : Int → (Int → Int) → Prop, wp_matches_7 K row rule r p P 3 (uZ (uZ (uZ bound 0 (-1)) 1 (-1)) 2 (-1))) : wp_matches row rule bound pat r p K := by
  intro P hP
  exact hP _ _ ⟨fun c => absurd c (by decide), fun _ => ⟨by decide, by decide, hP _ _ ⟨fun c => absurd c (by decide), fun _ => ⟨by decide, by decide, hP _ _ ⟨fun c => absurd c (by decide), fun _ => ⟨by decide, by decide, hP _ _ (h P)⟩⟩⟩⟩⟩⟩
theorem matches_ev {row : Int → Int} {many : Int} {l : List Int} (h : WF row many l) {rule ruleRight ruleLong : Int → Int} {r : Int} {L R : List Int} (r0 : 0 ≤ r) (r1 : r ≤ 11) (hr : RW rule ruleRight ruleLong r L R) {p : Int} (p0 : 0 ≤ p) (p1 : p < many) : (isP (row p) = true ∧ Mt row rule r p L) ∨ Mn row rule r p := by
  have hl := h.len
  have hm := h.2.2.1
  by_cases hc : isP (row p) = true
  · obtain ⟨pre, x, post, _, _, hx, _⟩ := h.xp p0 p1 hc
    have ha := (At_app.mp hr.2.2.1).1
    have hlen := hr.2.2.2.2.2.1
    obtain ⟨b, pat', g, hb, hg, _, hk, hw⟩ := fits_ev r0 r1 hr.1 100 p 0 (fun _ => -1) (by omega) (by rw [show 40 * r + 0 = 40 * r by omega]; exact ha) (by omega) (by omega) ⟨x, hx⟩ (fun _ _ _ => Or.inl rfl)
    have ag : ∀ bound : Int → Int, agr (uZ (uZ (uZ bound 0 (-1)) 1 (-1)) 2 (-1)) (fun _ => -1) := by
      intro bound k k0 k1
      unfold uZ
      by_cases h2 : k = 2
      · rw [if_pos h2]
      · rw [if_neg h2]
        by_cases h1 : k = 1
        · rw [if_pos h1]
        · rw [if_neg h1, if_pos (by omega)]
    rcases hb with rfl | rfl
    · refine Or.inr (fun bound pat => ?_)
      obtain ⟨bound', _, hw'⟩ := hw _ (ag bound)
      exact ⟨bound', pat', fun K hK => reset3 (fun P => ⟨fun _ => ⟨⟨by omega, by omega⟩, isPart_c (fun _ => t1 (hw' _ (t0 hK))) (fun q => absurd hc (by rw [q]; decide))⟩, fun q => absurd q (by decide)⟩)⟩
    · obtain ⟨_, hal⟩ := hk rfl
      refine Or.inl ⟨hc, g, hg, hal, fun bound pat => ?_⟩
      obtain ⟨bound', hag, hw'⟩ := hw _ (ag bound)
      exact ⟨bound', pat', hag, fun K hK => reset3 (fun P => ⟨fun _ => ⟨⟨by omega, by omega⟩, isPart_c (fun _ => t1 (hw' _ (t1 hK))) (fun q => absurd hc (by rw [q]; decide))⟩, fun q => absurd q (by decide)⟩)⟩
  · have hf : isP (row p) = false := by cases hz : isP (row p) with
      | false => rfl
      | true => exact absurd hz hc
    exact Or.inr (fun bound pat => ⟨_, 0, fun K hK => reset3 (fun P => ⟨fun _ => ⟨⟨by omega, by omega⟩, isPart_c (fun q => absurd q hc) (fun _ => t0 hK)⟩, fun q => absurd q (by decide)⟩)⟩)
theorem match_ok {row : Int → Int} {many : Int} {l : List Int} (h : WF row many l) {rule ruleRight ruleLong : Int → Int} {r : Int} {L R : List Int} (r0 : 0 ≤ r) (r1 : r ≤ 11) (hr : RW rule ruleRight ruleLong r L R) {bound : Int → Int} {pat k : Int} {K : Int → (Int → Int) → Int → Prop} (hK : ∀ p bound' pat', (p = -1 ∨ (0 ≤ p ∧ p < many ∧ isP (row p) = true ∧ Mt row rule r p L)) → K p bound' pat') : wp_match row many rule bound pat r k K := by
  have hl := h.len
  have hm := h.2.2.1
  refine wl4_rule (fun (n i : Int) (_ : Int → Int) (_ : Int) => 0 ≤ n ∧ n ≤ i ∧ i ≤ many) (fun (_ i : Int) _ _ => (many - i).toNat) ?_ ⟨by omega, by omega, by omega⟩
  rintro P n i bd pt ⟨n0, n1, n2⟩ ih
  refine ⟨fun _ => hK _ _ _ (Or.inl rfl), fun hlt => ⟨⟨by omega, by omega⟩, isPart_c (fun hc => t1 ?_) (fun _ => t0 ⟨⟨by omega, by omega⟩, ih _ _ _ _ ⟨by omega, by omega, by omega⟩ (by omega)⟩)⟩⟩
  rcases matches_ev h r0 r1 hr (p := i) (by omega) hlt with ⟨hp, hmt⟩ | hmn
  · obtain ⟨g, hg, hal, hw⟩ := id hmt
    obtain ⟨bd', pt', _, hw'⟩ := hw bd pt
    exact hw' _ ⟨fun _ => ⟨fun _ => ⟨⟨by omega, by omega⟩, ⟨by omega, by omega⟩, ih _ _ _ _ ⟨by omega, by omega, by omega⟩ (by omega)⟩, fun _ => hK _ _ _ (Or.inr ⟨by omega, hlt, hp, hmt⟩)⟩, fun q => absurd q (by decide)⟩
  · obtain ⟨bd', pt', hw'⟩ := hmn bd pt
    exact hw' _ ⟨fun q => absurd rfl q, fun _ => ⟨⟨by omega, by omega⟩, ih _ _ _ _ ⟨by omega, by omega, by omega⟩ (by omega)⟩⟩
-- ===== the right side
def sb (X : Int → List Int) (c : Int) : List Int := if 30 ≤ c ∧ c ≤ 32 then X (c - 30) else [c]
def sub (X : Int → List Int) (R : List Int) : List Int := R.flatMap (sb X)
theorem sub_app {X : Int → List Int} {a b : List Int} : sub X (a ++ b) = sub X a ++ sub X b := List.flatMap_append
theorem sub_one {X : Int → List Int} {c : Int} : sub X [c] = sb X c := by unfold sub; simp
theorem Ex.sub {X : Int → List Int} {R : List Int} (hR : Ex lfU R) : (∀ c ∈ R, 30 ≤ c → c ≤ 32 → Ex lfR (X (c - 30))) → Ex lfR (sub X R) := by
  refine Ex.ind (P := fun R => (∀ c ∈ R, 30 ≤ c → c ≤ 32 → Ex lfR (X (c - 30))) → Ex lfR (_)) ?_ ?_ hR
  · intro c hc h
    show Ex lfR (List.flatMap (sb X) [c])
    have : List.flatMap (sb X) [c] = sb X c := by simp
    rw [this]
    unfold sb
    split
    · next hl => exact h c List.mem_cons_self hl.1 hl.2
    · next hl => exact Ex.leaf (by unfold lfU at hc; unfold lfR; omega)
  · intro o a b ho _ _ iha ihb h
    have e : List.flatMap (sb X) (o :: (a ++ b)) = o :: (List.flatMap (sb X) a ++ List.flatMap (sb X) b) := by
      rw [List.flatMap_cons, List.flatMap_append]
      have : sb X o = [o] := if_neg (by unfold opC at ho; omega)
      rw [this]; rfl
    show Ex lfR (List.flatMap (sb X) (o :: (a ++ b)))
    rw [e]
    exact Ex.op ho (iha (fun c hc => h c (List.mem_cons_of_mem _ (List.mem_append_left _ hc)))) (ihb (fun c hc => h c (List.mem_cons_of_mem _ (List.mem_append_right _ hc))))
theorem applies_ok {row f : Int → Int} {many m : Int} {l : List Int} (h : WF row many l) {rule ruleRight ruleLong : Int → Int} {r : Int} {L R : List Int} (r0 : 0 ≤ r) (r1 : r ≤ 11) (hr : RW rule ruleRight ruleLong r L R) {bound : Int → Int} {pat p : Int} (p0 : 0 ≤ p) (p1 : p < many) (hp : isP (row p) = true) (hmt : Mt row rule r p L) {K : Int → (Int → Int) → (Int → Int) → Int → Int → (Int → Int) → Int → Prop} (h0 : ∀ bound' pat', K 0 row f many m bound' pat') (h1 : ∀ row' f' many' m' bound' pat' l', WF row' many' l' → K 1 row' f' many' m' bound' pat') : wp_applies row f many m rule ruleRight ruleLong bound pat r p K := by
  have hlen := h.len
  have hmany := h.2.2.1
  have hcp := h.2.2.2.2
  have hcs := h.2.2.2.1
  obtain ⟨pre, x, post, el, epre, hx, apost, epost, hy⟩ := h.xp p0 p1 hp
  have hx' := hx.2.2.2
  obtain ⟨g, hg, hal, hw⟩ := hmt
  obtain ⟨bd, pt, hag, hw'⟩ := hw bound pat
  obtain ⟨eL, eR, aLR, eRight, eLong, le40, hsub⟩ := hr
  obtain ⟨aL, aR⟩ := At_app.mp aLR
  -- the parts that stand for the letters
  have ch : ∀ k : Int, ∃ z : List Int, (0 ≤ k → k ≤ 2 → g k ≠ -1 → XP row (g k) z) := by
    intro k
    by_cases hk : 0 ≤ k ∧ k ≤ 2 ∧ g k ≠ -1
    · obtain ⟨z, hz⟩ := (hg k hk.1 hk.2.1).resolve_left hk.2.2
      exact ⟨z, fun _ _ _ => hz⟩
    · exact ⟨[], fun a b c => absurd ⟨a, b, c⟩ hk⟩
  obtain ⟨X, hX⟩ := Classical.axiomOfChoice ch
  have xl : ∀ c ∈ R, 30 ≤ c → c ≤ 32 → XP row (bd (c - 30)) (X (c - 30)) := by
    intro c hc c0 c1
    rw [hag (c - 30) (by omega) (by omega)]
    exact hX (c - 30) (by omega) (by omega) (hal c (hsub c hc c0 c1) c0 c1)
  have ey : Ex lfR (sub X R) := eR.sub (fun c hc c0 c1 => (xl c hc c0 c1).1)
  have elen : l.length = pre.length + (x.length + post.length) := by rw [el]; simp
  have ecp : cp l = cp pre + (x.length + cp post) := by rw [el, cp_app, cp_app, hx.1.cpz]
  have ecs : cs l = cs pre + cs post := by rw [el, cs_app, cs_app, hx.1.csz]; omega
  refine hw' _ (parts_ok h.2.1 hmany (by omega) (hx.endOf ⟨⟨by omega, by omega⟩, ⟨by omega, by omega⟩, ?_⟩))
  rw [show (cp l : Int) - (p + (x.length : Int) - p) = cp l - x.length by omega, eRight]
  -- how long it would be
  refine wl2_rule (fun (n i : Int) => ∃ a b : List Int, R = a ++ b ∧ i = L.length + a.length ∧ n = cp l - x.length + (sub X a).length ∧ ((sub X a).length : Int) ≤ 460 * a.length) (fun (_ i : Int) => (40 - i).toNat) ?_ ⟨[], R, rfl, by simp, by simp [sub], by simp [sub]⟩
  rintro P n i ⟨a, b, eab, rfl, rfl, hb460⟩ ih
  have hRl : R.length = a.length + b.length := by rw [eab]; simp
  unfold wp_applies_28
  rw [eLong]
  refine ⟨⟨by omega, by omega⟩, fun hend => ⟨fun hle => ?_, fun _ => h0 _ _⟩, fun hlt => ?_⟩
  · -- it is written
    have hbn : b = [] := List.length_eq_zero_iff.mp (by omega)
    subst hbn
    rw [List.append_nil] at eab
    subst eab
    have apre : At row 0 pre := by have := h.2.1; rw [el] at this; exact (At_app.mp this).1
    refine writes_ok apre (by omega) (by omega) (by omega) (by omega) (by omega) (fun f1 m1 w1 => ⟨⟨by omega, by omega⟩, ?_⟩)
    have k1 := w1.1
    rw [eRight]
    refine wl3_rule (fun (i : Int) f2 m2 => ∃ a b : List Int, R = a ++ b ∧ i = L.length + a.length ∧ Wr f1 m1 (sub X a) f2 m2) (fun (i : Int) _ _ => (40 - i).toNat) ?_ ⟨[], R, rfl, by simp, Wr.nil⟩
    rintro P' i f2 m2 ⟨a, b, eab, rfl, w2⟩ ih2
    have hRl : R.length = a.length + b.length := by rw [eab]; simp
    have hsl : (sub X R).length = (sub X a).length + (sub X b).length := by rw [eab, sub_app, List.length_append]
    have k2 := w2.1
    unfold wp_applies_131
    rw [eLong]
    refine ⟨⟨by omega, by omega⟩, fun hend2 => ?_, fun hlt2 => ?_⟩
    · have hbn : b = [] := List.length_eq_zero_iff.mp (by omega)
      subst hbn
      rw [List.append_nil] at eab
      subst eab
      refine hx.endOf (writes_ok apost (by omega) (by omega) (by omega) (by omega) (by omega) (fun f3 m3 w3 => ?_))
      have wall := w1.app (w2.app w3)
      refine turns_ok (l := pre ++ (sub X R ++ post)) wall.2.1 (by rw [wall.1]; omega) (by have := wall.1; simp only [List.length_append] at this; omega) (fun row' hrow => h1 _ _ _ _ _ _ (pre ++ (sub X R ++ post)) ⟨hy _ ey, hrow, ?_, ?_, ?_⟩)
      · rw [wall.1]; omega
      · rw [cs_app, cs_app, ey.csz]; omega
      · rw [cp_app, cp_app, ey.cpz]; omega
    · cases b with
      | nil => simp at hRl; omega
      | cons c b =>
        have hcR : c ∈ R := by rw [eab]; exact List.mem_append_right _ List.mem_cons_self
        have ac : rule (40 * r + (L.length + a.length)) = c := by
          rw [eab] at aR
          have := (At_app.mp aR).2.1
          rw [show 40 * r + (L.length : Int) + a.length = 40 * r + (L.length + a.length) by omega] at this
          exact this
        have hs1 : sub X (a ++ [c]) = sub X a ++ sb X c := by rw [sub_app, sub_one]
        have hs2 : (sub X (c :: b)).length = (sb X c).length + (sub X b).length := by
          rw [show c :: b = [c] ++ b from rfl, sub_app, sub_one, List.length_append]
        simp only [List.length_cons] at hRl
        refine ⟨⟨by omega, by omega⟩, isIn_c (fun c0 c1 => t1 ?_) (fun hn => t0 ?_)⟩
        · rw [ac] at c0 c1 ⊢
          have hxc := xl c hcR c0 c1
          have es : sb X c = X (c - 30) := if_pos ⟨c0, c1⟩
          have hx3 := hxc.2.2
          refine ⟨⟨by omega, by omega⟩, ⟨by omega, by omega⟩, hxc.endOf (writes_ok hxc.2.1 rfl hxc.2.2.1 (by omega) (by omega) (by rw [es] at hs2; omega) (fun f3 m3 w3 => ⟨⟨by omega, by omega⟩, ih2 _ _ _ ⟨a ++ [c], b, by rw [eab]; simp, by simp only [List.length_append, List.length_cons, List.length_nil]; omega, ?_⟩ (by omega)⟩))⟩
          rw [hs1, es]
          exact w2.app w3
        · rw [ac] at hn ⊢
          have es : sb X c = [c] := if_neg hn
          rw [es] at hs2
          simp only [List.length_cons, List.length_nil] at hs2
          refine write_ok (by omega) (by omega) (fun f3 m3 w3 => ⟨⟨by omega, by omega⟩, ih2 _ _ _ ⟨a ++ [c], b, by rw [eab]; simp, by simp only [List.length_append, List.length_cons, List.length_nil]; omega, ?_⟩ (by omega)⟩)
          rw [hs1, es]
          exact w2.app w3
  · cases b with
    | nil => simp at hRl; omega
    | cons c b =>
      have hcR : c ∈ R := by rw [eab]; exact List.mem_append_right _ List.mem_cons_self
      have ac : rule (40 * r + (L.length + a.length)) = c := by
        rw [eab] at aR
        have := (At_app.mp aR).2.1
        rw [show 40 * r + (L.length : Int) + a.length = 40 * r + (L.length + a.length) by omega] at this
        exact this
      have hs1 : sub X (a ++ [c]) = sub X a ++ sb X c := by rw [sub_app, sub_one]
      have hl1 : (sub X (a ++ [c])).length = (sub X a).length + (sb X c).length := by rw [hs1, List.length_append]
      simp only [List.length_cons] at hRl
      refine ⟨⟨by omega, by omega⟩, isIn_c (fun c0 c1 => t1 ?_) (fun hn => t0 ?_)⟩
      · rw [ac] at c0 c1 ⊢
        have hxc := xl c hcR c0 c1
        have es : sb X c = X (c - 30) := if_pos ⟨c0, c1⟩
        have hx3 := hxc.2.2
        rw [es] at hl1
        refine ⟨⟨by omega, by omega⟩, hxc.endOf ⟨⟨by omega, by omega⟩, ⟨by omega, by omega⟩, ⟨by omega, by omega⟩, ih _ _ ⟨a ++ [c], b, by rw [eab]; simp, by simp only [List.length_append, List.length_cons, List.length_nil]; omega, by omega, by simp only [List.length_append, List.length_cons, List.length_nil] at hl1 ⊢; omega⟩ (by omega)⟩⟩
      · rw [ac] at hn
        have es : sb X c = [c] := if_neg hn
        rw [es] at hl1
        simp only [List.length_cons, List.length_nil] at hl1
        exact ⟨⟨by omega, by omega⟩, ⟨by omega, by omega⟩, ih _ _ ⟨a ++ [c], b, by rw [eab]; simp, by simp only [List.length_append, List.length_cons, List.length_nil]; omega, by omega, by simp only [List.length_append, List.length_cons, List.length_nil] at hl1 ⊢; omega⟩ (by omega)⟩
theorem again_ok {row f : Int → Int} {many m : Int} {l : List Int} (h : WF row many l) {rule ruleRight ruleLong : Int → Int} {r : Int} {L R : List Int} (r0 : 0 ≤ r) (r1 : r ≤ 11) (hr : RW rule ruleRight ruleLong r L R) {bound : Int → Int} {pat : Int} {K : Int → (Int → Int) → (Int → Int) → Int → Int → (Int → Int) → Int → Prop} (hK : ∀ b row' f' many' m' bound' pat' l', (b = 0 ∨ b = 1) → WF row' many' l' → K b row' f' many' m' bound' pat') : wp_again row f many m rule ruleRight ruleLong bound pat r K := by
  refine wl7_rule (fun (n : Int) row _ many _ _ _ => 0 ≤ n ∧ ∃ l, WF row many l) (fun (n : Int) _ _ _ _ _ _ => (50 - n).toNat) ?_ ⟨by omega, l, h⟩
  rintro P n row f many m bd pt ⟨n0, l, h⟩ ih
  refine ⟨fun _ => hK 1 _ _ _ _ _ _ l (Or.inr rfl) h, fun hlt => match_ok h r0 r1 hr (fun p bd' pt' hp => ⟨fun hne => ?_, fun _ => hK 1 _ _ _ _ _ _ l (Or.inr rfl) h⟩)⟩
  obtain ⟨p0, p1, hpp, hmt⟩ := hp.resolve_left hne
  exact applies_ok h r0 r1 hr p0 p1 hpp hmt (fun bd2 pt2 => ⟨fun q => absurd rfl q, fun _ => hK 0 _ _ _ _ _ _ l (Or.inl rfl) h⟩) (fun row' f' many' m' bd2 pt2 l' h' => ⟨fun _ => ⟨⟨by omega, by omega⟩, ih _ _ _ _ _ _ _ ⟨by omega, l', h'⟩ (by omega)⟩, fun q => absurd q (by decide)⟩)
