-- ===== feeding, ending
theorem feed_ok {tape : Int → Int} {taped x0 x1 x2 x3 x4 : Int} (h0 : 0 ≤ taped) (h8 : taped ≤ 800) {K : Int → (Int → Int) → Int → Prop} (hK : ∀ r f t, 0 ≤ t → t ≤ 800 → K r f t) : wp_feed tape taped x0 x1 x2 x3 x4 K := by
  refine ⟨⟨by omega, by omega⟩, fun hle => ?_, fun _ => hK _ _ _ h0 h8⟩
  refine wl3_rule (fun (k : Int) (_ : Int → Int) (t : Int) => 0 ≤ k ∧ k ≤ 20 ∧ t = taped + k) (fun (k : Int) _ _ => (20 - k).toNat) ?_ ⟨by omega, by omega, by omega⟩
  rintro P k f t ⟨k0, k20, rfl⟩ ih
  have st : k < 20 → ∀ s, wp_feed_71 k f (taped + k) P s := fun h s => ⟨⟨by omega, by omega⟩, ⟨by omega, by omega⟩, ⟨by omega, by omega⟩, ih _ _ _ ⟨by omega, by omega, by omega⟩ (by omega)⟩
  exact ⟨fun _ => hK _ _ _ (by omega) (by omega), fun h => ⟨fun _ => ⟨fun _ => ⟨fun _ => ⟨fun _ => st h _, fun _ => st h _⟩, fun _ => st h _⟩, fun _ => st h _⟩, fun _ => st h _⟩⟩
theorem end_ok {taped x0 : Int} (h0 : 0 ≤ taped) (h8 : taped ≤ 800) {K : Int → Int → Prop} (hK : ∀ r t, 0 ≤ t → t ≤ 800 → K r t) : wp_end taped x0 K :=
  isIn_c (fun a b => u1 (hK _ _ a (by omega))) (fun _ => u0 (hK _ _ h0 h8))
theorem ends_ok {taped w wa fk fp : Int} {K : Int → Int → Int → Prop} (hK : ∀ a b, K 0 a b) : wp_ends taped w wa fk fp K := ⟨fun _ => hK _ _, fun _ => hK _ _⟩
theorem program_ok {slot slotLong row fresh tape : Int → Int} {many made taped a t ta v w wa fk d c cst pm ll fp ir ri x0 : Int} {K : Int → (Int → Int) → (Int → Int) → (Int → Int) → (Int → Int) → Int → Int → Int → Int → Int → Int → Int → Int → Int → Int → Int → Int → Int → Int → Int → Int → Int → Int → Prop} (hS : SW slot slotLong) (h0 : 0 ≤ taped) (h8 : taped ≤ 800) (v0 : 0 ≤ v) (v1 : v ≤ 9999) (hK : ∀ r f g row fresh many made a t ta v w wa fk d c cst pm ll fp ir ri, SW f g → 0 ≤ v → v ≤ 9999 → K r f g row fresh many made 0 a t ta v w wa fk d c cst pm ll fp ir ri) : wp_program slot slotLong row fresh many made tape taped a t ta v w wa fk d c cst pm ll fp ir ri x0 K := by
  refine isSlot_c (fun s0 s5 => ⟨fun _ => ⟨Or.inl rfl, ?_⟩, fun q => absurd q (by decide)⟩) (fun _ => ⟨fun q => absurd rfl q, fun _ => ends_ok (fun _ _ => hK _ _ _ _ _ _ _ _ _ _ _ _ _ _ _ _ _ _ _ _ _ _ hS v0 v1)⟩)
  refine next0_ok h8 (by omega) h0 v0 v1 (fun a' t' ta' v' b1 b2 b3 b4 b5 b6 => ?_)
  refine wl13_rule (fun (g : Int) (f' : Int → Int) (m' a' t' _ v' _ _ d' c' k' ll' : Int) => 0 ≤ v' ∧ v' ≤ 9999 ∧ (g ≠ 0 → g = 1 ∧ d' = 0 ∧ ∃ B, Sq B ∧ Wr fresh 0 B f' m' ∧ c' = cp B ∧ c' ≤ 300 ∧ k' = cs B ∧ k' ≤ 40 ∧ SC taped 0 a' t' v' ∧ 0 ≤ ll' ∧ ll' ≤ 7)) (fun (g : Int) _ _ (a' t' : Int) _ _ _ _ _ _ _ _ => if g = 0 then 0 else mz a' t' + 1) ?_ ⟨b5, b6, fun _ => ⟨rfl, rfl, [], Sq.nil, Wr.nil, by rw [cp_nil]; rfl, by omega, by rw [cs_nil]; rfl, by omega, ⟨by omega, b2, b4, b5, b6⟩, by omega, by omega⟩⟩
  rintro P g f2 m2 a3 t3 ta3 v3 w3 wa3 d3 c3 k3 ll3 ⟨q0, q1, hg⟩ ih
  have b47 : wp_program_47 K slot slotLong row many taped fk fp x0 a3 c3 k3 d3 f2 0 0 g ll3 m2 300 ta3 t3 v3 wa3 w3 := by
    refine ends_ok (fun fk' fp' => ⟨fun hne => ?_, fun _ => hK _ _ _ _ _ _ _ _ _ _ _ _ _ _ _ _ _ _ _ _ _ _ hS q0 q1⟩)
    obtain ⟨rfl, rfl, B, hB, hw, hc, hc2, hk, hk2, s3, l03, l73⟩ := hg hne
    have hl := hB.len
    have hm := hw.1
    refine turns_ok hw.2.1 (by omega) (by omega) (fun r hr => ?_)
    have hWF : WF r m2 B := ⟨hB, hr, by omega, by omega, by omega⟩
    refine putsW hS hWF s0 s5 (fun f g hS' => statements_ok hr (by omega) (by omega) (hK _ _ _ _ _ _ _ _ _ _ _ _ _ _ _ _ _ _ _ _ _ _ hS' q0 q1))
  refine ⟨fun _ => b47, fun hne => ⟨fun _ => b47, fun ht => ?_⟩⟩
  obtain ⟨rfl, rfl, B, hB, hw, hc, hc2, hk, hk2, s3, l03, l73⟩ := hg hne
  have hl := hB.len
  have hm := hw.1
  refine statement_ok h8 f2 m2 a3 t3 ta3 v3 w3 wa3 0 c3 k3 ll3 _ s3 (by omega) (by omega) (by omega) (by omega) hc2 (by omega) (by omega) hk2 (by omega) (by omega) l03 l73 (fun f m a t ta v w wa d c cst ll q0 q1 => ?_) (fun s f4 m4 a4 t4 ta4 v4 w4 wa4 c4 k4 ll4 hs hw4 hc4 hc5 hk4 hk5 s5 s6 l04 l74 => ?_)
  · exact ih _ _ _ _ _ _ _ _ _ _ _ _ _ ⟨q0, q1, fun q => absurd rfl q⟩ (by rw [if_pos rfl, if_neg hne]; omega)
  · exact ih _ _ _ _ _ _ _ _ _ _ _ _ _ ⟨s5.2.2.2.1, s5.2.2.2.2, fun _ => ⟨rfl, rfl, B ++ s, Sq.app hB (Sq.one hs), hw.app hw4, by rw [cp_app]; omega, hc5, by rw [cs_app]; omega, hk5, s5, l04, l74⟩⟩ (by rw [if_neg (by decide), if_neg (by decide)]; omega)
theorem bk0 {k : Int} (k0 : 0 ≤ k) (k2 : k ≤ 2) : ¬ bk 0 k := by
  obtain ⟨a, rfl⟩ : ∃ n : Fin 3, k = (n.val : Int) := ⟨⟨k.toNat, by omega⟩, by show k = (k.toNat : Int); omega⟩
  revert a; unfold bk; decide
theorem RWa.add {rules : Int} {rule rR rL f : Int → Int} {L R : List Int} {x y : Int} (h : RWa rules rule rR rL) (hlt : rules < 12) (hf : ∀ j : Int, j < 40 * rules → f j = rule j) (hL : Ex lfU L) (hR : Ex lfU R) (hA : At f (40 * rules) (L ++ R)) (hx : x = L.length) (hy : y = L.length + R.length) (hlen : L.length + R.length ≤ 40) (hsub : ∀ c ∈ R, 30 ≤ c → c ≤ 32 → c ∈ L) : RWa (rules + 1) f (uZ rR rules x) (uZ rL rules y) := by
  obtain ⟨h0, h1, h2⟩ := h
  refine ⟨by omega, by omega, fun r r0 r1 => ?_⟩
  by_cases hr : r = rules
  · subst hr
    exact ⟨L, R, hL, hR, hA, by rw [show uZ rR r x r = x from if_pos rfl]; exact hx, by rw [show uZ rL r y r = y from if_pos rfl]; exact hy, hlen, hsub⟩
  · obtain ⟨L', R', g1, g2, g3, g4, g5, g6, g7⟩ := h2 r r0 (by omega)
    refine ⟨L', R', g1, g2, ?_, by rw [show uZ rR rules x r = rR r from if_neg hr]; exact g4, by rw [show uZ rL rules y r = rL r from if_neg hr]; exact g5, g6, g7⟩
    refine At_congr (g := rule) (p := 40 * r) (fun i i0 i1 => hf _ ?_) g3
    rw [List.length_append] at i1
    omega
theorem IW.mono {r r' : Int} {f g : Int → Int} (h : IW r f g) (hle : r ≤ r') : IW r' f g := fun k k0 k5 => ⟨(h k k0 k5).1, (h k k0 k5).2.1, fun i i0 i1 => (h k k0 k5).2.2 i i0 i1 |>.elim (fun q => Or.inl ⟨q.1, by omega⟩) Or.inr⟩
theorem rule_ok {fresh tape rule rR rL lt : Int → Int} {made taped a t ta v w wa fk d c cst pm ll fp ir ri rules : Int} {K : Int → (Int → Int) → Int → Int → Int → Int → Int → Int → Int → Int → Int → Int → Int → Int → Int → Int → Int → Int → Int → Int → (Int → Int) → (Int → Int) → (Int → Int) → (Int → Int) → Prop} (hR : RWa rules rule rR rL) (h0 : 0 ≤ taped) (h8 : taped ≤ 800) (v0 : 0 ≤ v) (v1 : v ≤ 9999) (hK : ∀ r fresh made a t ta v w wa fk d c cst pm ll fp ir ri rules' f g h lt, RWa rules' f g h → rules ≤ rules' → 0 ≤ v → v ≤ 9999 → K r fresh made 0 a t ta v w wa fk d c cst pm ll fp ir ri rules' f g h lt) : wp_rule fresh made tape taped a t ta v w wa fk d c cst pm ll fp ir ri rules rule rR rL lt K := by
  have hR' := hR
  obtain ⟨r0, r12, _⟩ := hR'
  refine ⟨fun hne => ⟨Or.inr rfl, ?_⟩, fun _ => ends_ok (fun _ _ => hK _ _ _ _ _ _ _ _ _ _ _ _ _ _ _ _ _ _ _ _ _ _ _ hR (Int.le_refl _) v0 v1)⟩
  have b89 : ∀ f m a t ta v w wa d c ll m28, 0 ≤ v → v ≤ 9999 → wp_rule_89 K taped fk fp rules rule rR rL lt 0 1 m28 40 f m a t ta v w wa d c ll := by
    intro f m a t ta v w wa d c ll m28 q0 q1
    unfold wp_rule_89 wp_rule_90
    exact ends_ok (fun _ _ => ⟨fun q => absurd rfl q, fun _ => hK _ _ _ _ _ _ _ _ _ _ _ _ _ _ _ _ _ _ _ _ _ _ _ hR (Int.le_refl _) q0 q1⟩)
  have b47 : ∀ c d f ll m a t ta v w wa, 0 ≤ v → v ≤ 9999 → wp_rule_47 K tape taped fk fp rules rule rR rL lt c 0 d f 1 ll m 40 a t ta v w wa := fun c d f ll m a t ta v w wa q0 q1 => ⟨fun _ => b89 _ _ _ _ _ _ _ _ _ _ _ _ q0 q1, fun q => absurd rfl q⟩
  refine next0_ok h8 (by omega) h0 v0 v1 (fun a1 t1' ta1 v1' b1 b2 b3 b4 b5 b6 => ?_)
  refine sumUp_ok h8 ⟨by omega, b2, b4, b5, b6⟩ (by omega) (by omega) (by omega) (by omega) (by omega) (by omega) (by omega) (by omega) (by omega) (fun f m a t ta v w wa d c ll q0 q1 => t0 (b47 _ _ _ _ _ _ _ _ _ _ _ q0 q1)) (fun L f2 m2 a2 t2 ta2 v2 w2 wa2 c2 ll2 hL hw2 hc2 hc3 s2 s3 hlb => t1 ?_)
  have hm2 := hw2.1
  refine needS h8 s2 (by decide) (fun a t ta v w wa q0 q1 => t0 (b47 _ _ _ _ _ _ _ _ _ _ _ q0 q1)) (fun _ a3 t3 ta3 v3 s4 s5 => t1 ?_)
  refine ⟨fun q => absurd q (by decide), fun _ => ?_⟩
  refine sumUp_ok h8 s4 (by omega) (by omega) (by omega) hc3 (by omega) (by omega) (by omega) hlb.1 hlb.2.1 (fun f m a t ta v w wa d c ll q0 q1 => t0 (b89 _ _ _ _ _ _ _ _ _ _ _ _ q0 q1)) (fun R f4 m4 a4 t4 ta4 v4 w4 wa4 c4 ll4 hRe hw4 hc4 hc5 s6 s7 hlb4 => t1 ?_)
  have hm4 := hw4.1
  refine ⟨fun _ => ?_, fun _ => t0 (b89 _ _ _ _ _ _ _ _ _ _ _ _ s6.2.2.2.1 s6.2.2.2.2)⟩
  unfold wp_rule_85 wp_rule_90
  refine ends_ok (fun fk' fp' => ⟨fun _ => ?_, fun q => absurd q (by decide)⟩)
  have hA := (hw2.app hw4).2.1
  have hlen : (L ++ R).length = L.length + R.length := List.length_append
  refine wl2_rule (fun (i : Int) (f : Int → Int) => ∃ x y : List Int, L ++ R = x ++ y ∧ i = x.length ∧ At f (40 * rules) x ∧ ∀ j : Int, j < 40 * rules → f j = rule j) (fun (i : Int) _ => (m4 - i).toNat) ?_ ⟨[], L ++ R, rfl, rfl, trivial, fun _ _ => rfl⟩
  rintro P i f ⟨x, y, hxy, rfl, hx, hf⟩ ih
  have hl2 : (L ++ R).length = x.length + y.length := by rw [hxy, List.length_append]
  refine ⟨fun hge => ?_, fun hlt => ?_⟩
  · have hy : y = [] := List.length_eq_zero_iff.mp (by omega)
    subst hy
    rw [List.append_nil] at hxy
    refine ⟨⟨by omega, by omega⟩, ⟨by omega, by omega⟩, ⟨by omega, by omega⟩, ⟨by omega, by omega⟩, ⟨by omega, by omega⟩, ?_⟩
    refine hK _ _ _ _ _ _ _ _ _ _ _ _ _ _ _ _ _ _ _ _ _ _ _ (RWa.add hR (by omega) hf (lfx1 (by decide) hL) (lfx1 (by decide) hRe) (by rw [hxy]; exact hx) (by omega) (by omega) (by omega) (fun c hc q0 q1 => ?_)) (by omega) s6.2.2.2.1 s6.2.2.2.2
    rcases hlb.2.2.1 (c - 30) (by omega) (by omega) (hlb4.2.2.2 (by decide) c hc q0 q1) with q | q
    · exact absurd q (bk0 (by omega) (by omega))
    · rwa [show 30 + (c - 30) = c by omega] at q
  · cases y with
    | nil => simp only [List.length_nil] at hl2; omega
    | cons z y =>
      refine ⟨⟨by omega, by omega⟩, ⟨by omega, by omega⟩, ⟨by omega, by omega⟩, ih _ _ ⟨x ++ [z], y, by rw [hxy, List.append_assoc]; rfl, by rw [List.length_append]; simp, ?_, fun j hj => ?_⟩ (by omega)⟩
      · have hz : f4 (x.length : Int) = z := by
          have := hA
          rw [hxy, At_app] at this
          have h := this.2.1
          rwa [Int.zero_add] at h
        rw [At_app]
        refine ⟨At_congr (g := f) (p := 40 * rules) (fun i i0 i1 => if_neg (by omega)) hx, ?_, trivial⟩
        rw [show uZ f (40 * rules + x.length) (f4 x.length) (40 * rules + x.length) = f4 x.length from if_pos rfl]
        exact hz
      · rw [show uZ f (40 * rules + x.length) (f4 x.length) j = f j from if_neg (by omega)]
        exact hf j hj
