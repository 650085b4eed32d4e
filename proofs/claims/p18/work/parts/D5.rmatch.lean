-- ===== matching in the reference
theorem same_x {row : Int → Int} {p q : Int} {x y : List Int} {K : Int → Prop} (hx : XP row p x) (hy : XP row q y) (k1 : x = y → K 1) (k0 : x ≠ y → K 0) : wp_sameParts row p q K := by
  have x0 := hx.2.2.1
  have x1 := hx.2.2.2
  have y0 := hy.2.2.1
  have y1 := hy.2.2.2
  have key : ∀ s : Int, (s = 0 ∧ x ≠ y ∨ s = 1 ∧ x.length = y.length) → wp_sameParts_24 K row p q (p + x.length) s := by
    intro s hs
    refine wl2_rule (fun (s k : Int) => 0 ≤ k ∧ (s = 0 ∧ x ≠ y ∨ s = 1 ∧ ∃ u x2 y2, x = u ++ x2 ∧ y = u ++ y2 ∧ k = (u.length : Int) ∧ x2.length = y2.length)) (fun (_ k : Int) => ((x.length : Int) - k).toNat) ?_ ⟨by omega, hs.imp id (fun z => ⟨z.1, [], x, y, rfl, rfl, rfl, z.2⟩)⟩
    rintro P s k ⟨hk, hs⟩ ih
    refine ⟨⟨by omega, by omega⟩, fun z => ?_, fun z => ⟨fun z0 => ?_, fun z0 => ?_⟩⟩
    · rcases hs with ⟨rfl, hn⟩ | ⟨rfl, u, x2, y2, ex, ey, ek, el⟩
      · exact ⟨Or.inl rfl, k0 hn⟩
      · have lx : x.length = u.length + x2.length := by rw [ex, List.length_append]
        have e2 : x2 = [] := List.length_eq_zero_iff.mp (by omega)
        have e3 : y2 = [] := List.length_eq_zero_iff.mp (by omega)
        exact ⟨Or.inr rfl, k1 (by rw [ex, ey, e2, e3])⟩
    · rcases hs with ⟨rfl, hn⟩ | ⟨rfl, _⟩
      · exact ⟨Or.inl rfl, k0 hn⟩
      · exact absurd z0 (by decide)
    · rcases hs with ⟨rfl, hn⟩ | ⟨rfl, u, x2, y2, ex, ey, ek, el⟩
      · exact absurd rfl z0
      · have lx : x.length = u.length + x2.length := by rw [ex, List.length_append]
        have ly : y.length = u.length + y2.length := by rw [ey, List.length_append]
        cases x2 with
        | nil => simp only [List.length_nil] at lx; omega
        | cons c x2 =>
          cases y2 with
          | nil => cases el
          | cons d y2 =>
            have ax := hx.2.1
            have ay := hy.2.1
            rw [ex] at ax
            rw [ey] at ay
            have ec : row (p + k) = c := by rw [ek]; exact (At_app.mp ax).2.1
            have ed : row (q + k) = d := by rw [ek]; exact (At_app.mp ay).2.1
            rw [ec, ed]
            refine ⟨⟨by omega, by omega⟩, ⟨by omega, by omega⟩, fun g => ⟨⟨by omega, by omega⟩, ih _ _ ⟨by omega, Or.inl ⟨rfl, fun z => g ?_⟩⟩ (by omega)⟩, fun g => ⟨⟨by omega, by omega⟩, ih _ _ ⟨by omega, Or.inr ⟨rfl, u ++ [c], x2, y2, by rw [ex]; simp, by rw [ey, g]; simp, by rw [List.length_append, ek]; rfl, Nat.succ.inj el⟩⟩ (by omega)⟩⟩
            rw [ex, ey] at z
            exact (List.cons.inj (List.append_cancel_left z)).1
  refine hx.endOf (hy.endOf ⟨⟨by omega, by omega⟩, ⟨by omega, by omega⟩, fun z => key 0 (Or.inl ⟨rfl, fun q => z (by rw [q]; omega)⟩), fun z => key 1 (Or.inr ⟨rfl, by omega⟩)⟩)
def EnvR (row bound : Int → Int) (g : Env) : Prop := ∀ k : Int, 0 ≤ k → k ≤ 2 → (g k = [] ∧ bound k = -1) ∨ (g k ≠ [] ∧ XP row (bound k) (g k))
theorem fits_x {row rule : Int → Int} {r : Int} (r0 : 0 ≤ r) (r1 : r ≤ 11) : ∀ {X : List Int}, Ex lfU X → ∀ (n : Nat) (p pat : Int) (g : Env) (e : List Int) (bound : Int → Int) (K : Int → (Int → Int) → Int → Prop), X.length ≤ n → At rule (40 * r + pat) X → 0 ≤ pat → pat + X.length ≤ 40 → XP row p e → EnvR row bound g → (∀ g' b', mL X g e = some g' → EnvR row b' g' → K 1 b' (pat + X.length)) → (mL X g e = none → ∀ b' p', K 0 b' p') → wp_fits n row rule bound pat r p K := by
  intro X hX
  refine Ex.ind (P := fun X => ∀ (n : Nat) (p pat : Int) (g : Env) (e : List Int) (bound : Int → Int) (K : Int → (Int → Int) → Int → Prop), X.length ≤ n → At rule (40 * r + pat) X → 0 ≤ pat → pat + X.length ≤ 40 → XP row p e → EnvR row bound g → (∀ g' b', mL X g e = some g' → EnvR row b' g' → K 1 b' (pat + X.length)) → (mL X g e = none → ∀ b' p', K 0 b' p') → wp_fits n row rule bound pat r p K) ?_ ?_ hX
  · intro c hc n p pat g e bound K hn ha h0 h1 hx hg k1 k0
    simp only [List.length_cons, List.length_nil] at hn h1
    obtain ⟨n, rfl⟩ : ∃ k, n = k + 1 := ⟨n - 1, by omega⟩
    have e1 : rule (40 * r + pat) = c := ha.1
    have hxp := hx.2.2
    have hxl := hx.1.pos
    rw [wp_fits_s]
    unfold wp_fits_b
    rw [e1]
    have hc' := hc
    unfold lfU at hc'
    refine ⟨⟨by omega, by omega⟩, ⟨by omega, by omega⟩, isIn_c (fun l0 l1 => t1 ⟨⟨by omega, by omega⟩, fun z => ⟨⟨by omega, by omega⟩, ?_⟩, fun z => ⟨⟨by omega, by omega⟩, ?_⟩⟩) (fun hl => t0 ⟨⟨by omega, by omega⟩, fun z => ⟨fun z2 => absurd z2 (by omega), fun _ => ?_⟩, fun z => ?_⟩)⟩
    · rw [mL_one ⟨l0, l1⟩ hx.1] at k1 k0
      have gk : g (c - 30) = [] := by
        rcases hg (c - 30) (by omega) (by omega) with q | q
        · exact q.1
        · have := q.2.2.2.1; omega
      refine k1 (upE g (c - 30) e) _ (if_pos gk) (fun k kk0 kk1 => ?_)
      by_cases hk : k = c - 30
      · rw [hk, show upE g (c - 30) e (c - 30) = e from if_pos rfl, show uZ bound (c - 30) p (c - 30) = p from if_pos rfl]
        exact Or.inr ⟨hx.1.ne, hx⟩
      · rw [show upE g (c - 30) e k = g k from if_neg hk, show uZ bound (c - 30) p k = bound k from if_neg hk]
        exact hg k kk0 kk1
    · rw [mL_one ⟨l0, l1⟩ hx.1] at k1 k0
      rcases hg (c - 30) (by omega) (by omega) with q | ⟨gk, q⟩
      · exact absurd q.2 z
      have eb : bnd g (c - 30) e = if g (c - 30) = e then some g else none := if_neg gk
      rw [eb] at k1 k0
      exact same_x q hx (fun s => ⟨Or.inr rfl, k1 g bound (if_pos s) hg⟩) (fun s => ⟨Or.inl rfl, k0 (if_neg s) bound _⟩)
    · obtain ⟨d, y, rfl⟩ : ∃ d y, e = d :: y := by
        cases e with
        | nil => exact absurd rfl hx.1.ne
        | cons d y => exact ⟨d, y, rfl⟩
      have ed : d = c := hx.2.1.1.symm.trans z
      have hy : y = [] := by
        rcases hx.1.cases with ⟨d', _, e2⟩ | ⟨o, _, _, ho, _, _, e2⟩
        · exact (List.cons.inj e2).2
        · have := (List.cons.inj e2).1
          unfold opC at ho; omega
      rw [hy, mL_cell hl, if_pos ed] at k1
      exact k1 g bound rfl hg
    · obtain ⟨d, y, rfl⟩ : ∃ d y, e = d :: y := by
        cases e with
        | nil => exact absurd rfl hx.1.ne
        | cons d y => exact ⟨d, y, rfl⟩
      have ed : d ≠ c := fun q => z (hx.2.1.1.trans q)
      rw [mL_cell hl, if_neg ed] at k0
      exact k0 rfl bound _
  · intro o A B ho hA hB iA iB n p pat g e bound K hn ha h0 h1 hx hg k1 k0
    simp only [List.length_cons, List.length_append] at hn h1
    obtain ⟨n, rfl⟩ : ∃ k, n = k + 1 := ⟨n - 1, by omega⟩
    have e1 : rule (40 * r + pat) = o := ha.1
    obtain ⟨a1, a2⟩ := At_app.mp ha.2
    rw [show 40 * r + pat + 1 = 40 * r + (pat + 1) by omega] at a1 a2
    have ho' := ho
    unfold opC at ho'
    have hxp := hx.2.2
    have hxl := hx.1.pos
    have hl : ¬ (30 ≤ o ∧ o ≤ 32) := by omega
    rw [wp_fits_s]
    unfold wp_fits_b
    rw [e1]
    refine ⟨⟨by omega, by omega⟩, ⟨by omega, by omega⟩, isIn_c (fun l0 l1 => absurd ⟨l0, l1⟩ hl) (fun _ => t0 ⟨⟨by omega, by omega⟩, fun z => ⟨fun _ => ⟨⟨by omega, by omega⟩, ?_⟩, fun z2 => absurd z2 (by omega)⟩, fun z => ?_⟩)⟩
    · rcases hx.1.cases with ⟨d, hd, rfl⟩ | ⟨o', x1, x2, ho2, hx1, hx2, rfl⟩
      · have := hx.2.1.1
        unfold lfR at hd; omega
      have eo : o' = o := hx.2.1.1.symm.trans z
      obtain ⟨b1, b2⟩ := At_app.mp hx.2.1.2
      simp only [List.length_cons, List.length_append] at hxp
      have X1 : XP row (p + 1) x1 := ⟨hx1, b1, by omega, by omega⟩
      have X2 : XP row (p + 1 + x1.length) x2 := ⟨hx2, b2, by omega, by omega⟩
      rw [mL_cell hl, if_pos eo, mL_app hA _ _ _ _ hx1] at k1 k0
      refine iA n (p + 1) (pat + 1) g x1 bound _ (by omega) a1 (by omega) (by omega) X1 hg (fun g1 b1' q1 hg1 => ⟨fun c => absurd c (by decide), fun _ => X1.endOf ?_⟩) (fun q1 b' p' => ⟨fun _ => k0 (by rw [q1]; rfl) b' p', fun c => absurd rfl c⟩)
      rw [q1] at k1 k0
      refine iB n (p + 1 + x1.length) (pat + 1 + A.length) g1 x2 b1' _ (by omega) (by rw [show 40 * r + (pat + 1 + (A.length : Int)) = 40 * r + (pat + 1) + A.length by omega]; exact a2) (by omega) (by omega) X2 hg1 (fun g2 b2' q2 hg2 => ⟨fun c => absurd c (by decide), fun _ => ?_⟩) (fun q2 b' p' => ⟨fun _ => k0 q2 b' p', fun c => absurd rfl c⟩)
      have := k1 g2 b2' q2 hg2
      rw [show pat + (((o :: (A ++ B)).length : Nat) : Int) = pat + 1 + A.length + B.length by simp only [List.length_cons, List.length_append]; omega] at this
      exact this
    · obtain ⟨d, y, rfl⟩ : ∃ d y, e = d :: y := by
        cases e with
        | nil => exact absurd rfl hx.1.ne
        | cons d y => exact ⟨d, y, rfl⟩
      have ed : d ≠ o := fun q => z (hx.2.1.1.trans q)
      rw [mL_cell hl, if_neg ed] at k0
      exact k0 rfl bound _
