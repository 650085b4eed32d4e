-- ===== the reference's dealing is the least one too
def pwN (s k : Int) : Nat → Int
  | 0 => 1
  | v + 1 => if bt s v = 0 then pwN s k v else pwN s k v * k
def nmN (s k : Int) (a : Int → Int) : Nat → Int
  | 0 => 0
  | v + 1 => if bt s v = 0 then nmN s k a v else nmN s k a v * k + a v
theorem bt_bit {s v : Int} : bt s v ≠ 0 ↔ bitR s v := Iff.rfl
section F9
variable {s k : Int} {a b : Int → Int}
theorem pwN_le (k0 : 0 ≤ k) (k6 : k ≤ 6) : ∀ v : Nat, 0 ≤ pwN s k v ∧ pwN s k v ≤ 6 ^ v := by
  intro v
  induction v with
  | zero => exact ⟨by show (0 : Int) ≤ 1; decide, by show (1 : Int) ≤ 6 ^ 0; decide⟩
  | succ v ih =>
    unfold pwN
    rw [Int.pow_succ]
    by_cases h : bt s v = 0
    · rw [if_pos h]; omega
    · rw [if_neg h]
      exact ⟨Int.mul_nonneg ih.1 k0, Int.le_trans (Int.mul_le_mul_of_nonneg_right ih.2 k0) (Int.mul_le_mul_of_nonneg_left k6 (by omega))⟩
theorem pwN_6 (k0 : 0 ≤ k) (k6 : k ≤ 6) {v : Nat} (hv : v ≤ 6) : 0 ≤ pwN s k v ∧ pwN s k v ≤ 46656 := by
  have h := pwN_le (s := s) k0 k6 v
  have : (6 : Int) ^ v ≤ 46656 := by
    have : v = 0 ∨ v = 1 ∨ v = 2 ∨ v = 3 ∨ v = 4 ∨ v = 5 ∨ v = 6 := by omega
    rcases this with h | h | h | h | h | h | h <;> rw [h] <;> decide
  omega
theorem nmN_b (k0 : 0 ≤ k) (ha : Tot s k a) : ∀ v : Nat, v ≤ 6 → 0 ≤ nmN s k a v ∧ nmN s k a v < pwN s k v := by
  intro v
  induction v with
  | zero => exact fun _ => ⟨by show (0 : Int) ≤ 0; decide, by show (0 : Int) < 1; decide⟩
  | succ v ih =>
    intro hv
    have h := ih (by omega)
    unfold nmN pwN
    by_cases hb : bt s v = 0
    · rw [if_pos hb, if_pos hb]; exact h
    · rw [if_neg hb, if_neg hb]
      have hd := (ha v ⟨by omega, by omega⟩).1 hb
      have h1 := Int.mul_nonneg h.1 k0
      have h2 := Int.mul_le_mul_of_nonneg_right (show nmN s k a v + 1 ≤ pwN s k v by omega) k0
      rw [Int.add_mul, Int.one_mul] at h2
      omega
theorem nmN_eq : ∀ v : Nat, (∀ w : Int, 0 ≤ w → w < v → b w = a w) → nmN s k b v = nmN s k a v := by
  intro v
  induction v with
  | zero => exact fun _ => rfl
  | succ v ih =>
    intro h
    unfold nmN
    rw [ih (fun w w0 w1 => h w w0 (by omega)), h v (by omega) (by omega)]
theorem nmN_lt (k0 : 0 ≤ k) (ha : Tot s k a) (hb : Tot s k b) {j : Nat} (hj : ∀ w : Int, 0 ≤ w → w < j → b w = a w) (hl : b j < a j) : ∀ v : Nat, v ≤ 6 → j < v → nmN s k b v < nmN s k a v := by
  intro v
  induction v with
  | zero => exact fun _ h => absurd h (by omega)
  | succ v ih =>
    intro hv hjv
    unfold nmN
    have bvv : bv (v : Int) := ⟨by omega, by omega⟩
    by_cases e : j = v
    · have eq := nmN_eq (s := s) (k := k) v (a := a) (b := b) (fun w w0 w1 => hj w w0 (by omega))
      rw [e] at hl
      by_cases hz : bt s v = 0
      · have h1 := (ha v bvv).2 (fun q => q hz)
        have h2 := (hb v bvv).2 (fun q => q hz)
        omega
      · rw [if_neg hz, if_neg hz, eq]; omega
    · have h := ih (by omega) (by omega)
      by_cases hz : bt s v = 0
      · rw [if_pos hz, if_pos hz]; exact h
      · rw [if_neg hz, if_neg hz]
        have hd := (ha v bvv).1 hz
        have hd2 := (hb v bvv).1 hz
        have h2 := Int.mul_le_mul_of_nonneg_right (show nmN s k b v + 1 ≤ nmN s k a v by omega) k0
        rw [Int.add_mul, Int.one_mul] at h2
        omega
theorem nmN_lx (k0 : 0 ≤ k) (ha : Tot s k a) (hb : Tot s k b) (h : Lx b a) : nmN s k b 6 < nmN s k a 6 := by
  obtain ⟨j, hj, j1, j2⟩ := h
  have ej : ((j.toNat : Nat) : Int) = j := by unfold bv at hj; omega
  exact nmN_lt k0 ha hb (j := j.toNat) (fun w w0 w1 => j1 w w0 (by omega)) (by rw [ej]; exact j2) 6 (by decide) (by unfold bv at hj; omega)
theorem nmN_inj (k0 : 0 ≤ k) (ha : Tot s k a) (hb : Tot s k b) (h : nmN s k b 6 = nmN s k a 6) : ∀ w, bv w → b w = a w := by
  rcases Lx.tri b a with q | q | q
  · have := nmN_lx k0 ha hb q; omega
  · have := nmN_lx k0 hb ha q; omega
  · exact q
theorem Vdl.cg {f : Int → Int} (h : Vdl f b) (e : ∀ w, bv w → b w = a w) : Vdl f a := fun v w hv w0 w1 h1 h2 => h v w hv w0 w1 (by rw [e v hv]; exact h1) (by rw [e v hv, e w ⟨w0, by unfold bv at hv; omega⟩]; exact h2)
/-- one pair is in order -/
def okP (f d : Int → Int) (v u : Int) : Prop := d v ≠ -1 → d v = d u → ¬ bitR (f v) u
theorem deals_x {f d : Int → Int} (k0 : 0 ≤ k) (k6 : k ≤ 6) {K : Int → (Int → Int) → Prop} (k1 : ∀ d', WinE s k f 0 d' d' → K 1 d') (kn : (∀ b, Tot s k b → ¬ Vdl f b) → ∀ d', K 0 d') : wp_deals f d s k K := by
  refine wl2_rule (fun (p v : Int) => 0 ≤ v ∧ v ≤ 6 ∧ p = pwN s k v.toNat) (fun (_ v : Int) => (6 - v).toNat) ?_ ⟨by decide, by decide, rfl⟩
  rintro P p v ⟨v0, v6, ep⟩ ih
  have ev : ((v.toNat : Nat) : Int) = v := by omega
  refine ⟨fun hv6 => ?_, fun hlt => ?_⟩
  · have hv : v = 6 := by omega
    rw [hv] at ep
    have ep : p = pwN s k 6 := ep
    have hp := pwN_6 (s := s) k0 k6 (v := 6) (by decide)
    refine wl2_rule (fun (w : Int) (_ : Int → Int) => 0 ≤ w ∧ ∀ b, Tot s k b → nmN s k b 6 < w → ¬ Vdl f b) (fun (w : Int) _ => (p - w).toNat) ?_ ⟨Int.le_refl 0, fun b hb h => by have := nmN_b k0 hb 6 (by decide); omega⟩
    rintro P2 w d2 ⟨w0, inv⟩ ih2
    refine ⟨fun hge => kn (fun b hb => inv b hb (by have := nmN_b k0 hb 6 (by decide); omega)) d2, fun hltw => ?_⟩
    refine wl3_rule (fun (x : Int) (i : Int) (d3 : Int → Int) => (-1 ≤ i ∧ i ≤ 5) ∧ (0 ≤ x ∧ x < pwN s k (i + 1).toNat) ∧ (∀ u, bv u → i < u → (bitR s u → 0 ≤ d3 u ∧ d3 u < k) ∧ (¬ bitR s u → d3 u = -1)) ∧ ∀ a' : Int → Int, (∀ u, bv u → i < u → a' u = d3 u) → nmN s k a' (i + 1).toNat = x → nmN s k a' 6 = w) (fun (_ : Int) (i : Int) _ => (i + 1).toNat) ?_ ⟨⟨by decide, by decide⟩, ⟨w0, by show w < pwN s k 6; omega⟩, fun u hu h => by unfold bv at hu; omega, fun a' _ h => h⟩
    rintro P3 x i d3 ⟨⟨i0, i1⟩, ⟨x0, x1⟩, hT, hn⟩ ih3
    refine ⟨fun hneg => ?_, fun hpos => ?_⟩
    · -- decoded
      have hi : i = -1 := by omega
      rw [hi] at x1 hT hn
      have x1 : x < 1 := x1
      have hTd : Tot s k d3 := fun u hu => hT u hu (by unfold bv at hu; omega)
      have hnd : nmN s k d3 6 = w := hn d3 (fun _ _ _ => rfl) (by show (0 : Int) = x; omega)
      refine wl2_rule (fun (g v : Int) => (g = 0 ∨ g = 1) ∧ 0 ≤ v ∧ (g = 1 → ∀ y u, 0 ≤ u → u < y → y < v → y ≤ 5 → okP f d3 y u) ∧ (g = 0 → ∃ y u, bv y ∧ 0 ≤ u ∧ u < y ∧ ¬ okP f d3 y u)) (fun (_ v : Int) => (6 - v).toNat) ?_ ⟨Or.inr rfl, Int.le_refl 0, fun _ y u u0 u1 u2 => by omega, fun q => absurd q (by decide)⟩
      rintro P4 g v ⟨hg, hv0, g1, g0⟩ ih4
      refine ⟨fun h6 => ⟨fun z => ⟨⟨by omega, by omega⟩, ih2 _ _ ⟨by omega, fun b hb hlt2 => ?_⟩ (by omega)⟩, fun z => ?_⟩, fun hlt4 => ?_⟩
      · by_cases q : nmN s k b 6 < w
        · exact inv b hb q
        · intro hvd
          have hv3 := hvd.cg (nmN_inj k0 hTd hb (by omega))
          obtain ⟨y, u, hy, u0, u1, hno⟩ := g0 z
          exact hno (fun q1 q2 => hv3 y u hy u0 u1 q1 q2)
      · have eg : g = 1 := hg.resolve_left z
        refine k1 d3 ⟨hTd, fun u u0 u1 => by omega, fun y u hy u0 u1 q1 q2 => g1 eg y u u0 u1 (by unfold bv at hy; omega) (by unfold bv at hy; omega) q1 q2, fun b hb _ hl => inv b hb (by have := nmN_lx k0 hTd hb hl; omega)⟩
      · refine wl2_rule (fun (g u : Int) => (g = 0 ∨ g = 1) ∧ 0 ≤ u ∧ (g = 1 → (∀ y u, 0 ≤ u → u < y → y < v → y ≤ 5 → okP f d3 y u) ∧ ∀ u', 0 ≤ u' → u' < u → u' < v → okP f d3 v u') ∧ (g = 0 → ∃ y u, bv y ∧ 0 ≤ u ∧ u < y ∧ ¬ okP f d3 y u)) (fun (_ u : Int) => (v - u).toNat) ?_ ⟨hg, Int.le_refl 0, fun q => ⟨g1 q, fun u' h0 h1 => by omega⟩, g0⟩
        rintro P5 g u ⟨hg, hu0, g1, g0⟩ ih5
        refine ⟨fun hge => ⟨⟨by omega, by omega⟩, ih4 _ _ ⟨hg, by omega, fun q y u' u0 u1 u2 y5 => ?_, g0⟩ (by omega)⟩, fun hltu => ⟨fun z => ⟨⟨by omega, by omega⟩, ih5 _ _ ⟨Or.inl rfl, by omega, fun q => absurd q (by decide), fun _ => g0 z⟩ (by omega)⟩, fun z => ?_⟩⟩
        · by_cases e : y = v
          · rw [e] at u1 ⊢; exact (g1 q).2 u' u0 (by omega) u1
          · exact (g1 q).1 y u' u0 u1 (by omega) y5
        · have eg : g = 1 := hg.resolve_left z
          have nx1 : okP f d3 v u → ∀ u', 0 ≤ u' → u' < u + 1 → u' < v → okP f d3 v u' := fun hok u' h0 h1 h2 => by
            by_cases e : u' = u
            · rw [e]; exact hok
            · exact (g1 eg).2 u' h0 (by omega) h2
          have next1 : okP f d3 v u → rng (u + 1) ∧ P5 1 (u + 1) := fun hok => ⟨⟨by omega, by omega⟩, ih5 _ _ ⟨Or.inr rfl, by omega, fun _ => ⟨(g1 eg).1, nx1 hok⟩, fun q => absurd q (by decide)⟩ (by omega)⟩
          refine ⟨⟨by omega, by omega⟩, fun c1 => next1 (fun q => absurd c1 q), fun c1 => ⟨⟨by omega, by omega⟩, ⟨by omega, by omega⟩, fun c2 => next1 (fun _ q => absurd q c2), fun c2 => ⟨⟨by omega, by omega⟩, fun c3 => ⟨⟨by omega, by omega⟩, ih5 _ _ ⟨Or.inl rfl, by omega, fun q => absurd q (by decide), fun _ => ⟨v, u, ⟨hv0, by omega⟩, hu0, hltu, fun q => q c1 c2 c3⟩⟩ (by omega)⟩, fun c3 => next1 (fun _ _ q => q c3)⟩⟩⟩
    · have en : (i + 1).toNat = i.toNat + 1 := by omega
      have ei : ((i.toNat : Nat) : Int) = i := by omega
      have em : (i - 1 + 1).toNat = i.toNat := by omega
      rw [en] at x1 hn
      unfold pwN at x1
      unfold nmN at hn
      rw [ei] at x1 hn
      have bi : bv i := ⟨hpos, i1⟩
      have hpn := pwN_6 (s := s) k0 k6 (v := i.toNat) (by omega)
      refine ⟨⟨hpos, by omega⟩, fun hbit => ?_, fun hbit => ?_⟩
      · have hb : ¬ bt s i = 0 := hbit
        rw [if_neg hb] at x1
        simp only [if_neg hb] at hn
        have hk : 0 < k := by
          rcases Int.lt_or_eq_of_le k0 with q | q
          · exact q
          · rw [← q, Int.mul_zero] at x1; omega
        have hx : x < 2147483648 := by
          have h6 := Int.mul_le_mul_of_nonneg_left k6 hpn.1
          omega
        obtain ⟨e1, e2⟩ := zdm x0 hx hk (by omega)
        have m0 : 0 ≤ x % k := Int.emod_nonneg _ (by omega)
        have m1 : x % k < k := Int.emod_lt_of_pos _ hk
        refine ⟨by omega, ⟨hpos, by omega⟩, fun f87 ef => ⟨by omega, ⟨by omega, by omega⟩, ?_⟩⟩
        rw [e2] at ef
        rw [e1]
        have f1 : f87 i = x % k := by rw [ef, uZ_eq]
        have f2 : ∀ u, u ≠ i → f87 u = d3 u := fun u hu => by rw [ef, uZ_ne hu, uZ_ne hu]
        refine ih3 _ _ _ ⟨⟨by omega, by omega⟩, ⟨Int.ediv_nonneg x0 (by omega), ?_⟩, fun u hu h => ?_, fun a' ha hna => hn a' (fun u hu h => ?_) ?_⟩ (by omega)
        · rw [em]
          exact Int.ediv_lt_of_lt_mul hk x1
        · by_cases e : u = i
          · rw [e, f1]; exact ⟨fun _ => ⟨m0, m1⟩, fun q => absurd hbit q⟩
          · rw [f2 u e]; exact hT u hu (by omega)
        · rw [ha u hu (by omega), f2 u (by omega)]
        · rw [em] at hna
          rw [hna, ha i bi (by omega), f1, Int.emod_def, Int.mul_comm k]
          omega
      · have hb : bt s i = 0 := hbit
        rw [if_pos hb] at x1
        simp only [if_pos hb] at hn
        refine ⟨⟨by omega, by omega⟩, ih3 _ _ _ ⟨⟨by omega, by omega⟩, ⟨x0, by rw [em]; exact x1⟩, fun u hu h => ?_, fun a' ha hna => hn a' (fun u hu h => ?_) (by rw [em] at hna; exact hna)⟩ (by omega)⟩
        · by_cases e : u = i
          · rw [e, uZ_eq]; exact ⟨fun q => absurd hb q, fun _ => rfl⟩
          · rw [uZ_ne e]; exact hT u hu (by omega)
        · rw [ha u hu (by omega), uZ_ne (by omega)]
  · have en : (v + 1).toNat = v.toNat + 1 := by omega
    have hp := pwN_6 (s := s) k0 k6 (v := v.toNat) (by omega)
    have hp1 := pwN_6 (s := s) k0 k6 (v := v.toNat + 1) (by omega)
    have es : pwN s k (v.toNat + 1) = if bt s v = 0 then pwN s k v.toNat else pwN s k v.toNat * k := by
      show (if bt s ((v.toNat : Nat) : Int) = 0 then pwN s k v.toNat else pwN s k v.toNat * k) = _
      rw [ev]
    refine ⟨fun hz => ?_, fun hz => ?_⟩
    · have hbz : bt s v = 0 := (bt01 s v).resolve_right hz
      rw [if_pos hbz] at es
      rw [Int.mul_one]
      exact ⟨⟨by omega, by omega⟩, ⟨by omega, by omega⟩, ih _ _ ⟨by omega, by omega, by rw [en, es]; exact ep⟩ (by omega)⟩
    · have hb1 : bt s v = 1 := hz
      rw [if_neg (by omega)] at es
      rw [es] at hp1
      rw [← ep] at hp1 es
      exact ⟨⟨by omega, by omega⟩, ⟨by omega, by omega⟩, ih _ _ ⟨by omega, by omega, by rw [en, es]⟩ (by omega)⟩
theorem enough_x {f d : Int → Int} {K : Int → (Int → Int) → Prop} (k : ∀ r d', FewE s f r d' → K r d') : wp_enough f d s K := by
  have x : ∀ g b : Int → Int, Ext 0 g b := fun g b w w0 w1 => by omega
  refine wl2_rule (fun (i : Int) (_ : Int → Int) => (0 ≤ i ∧ i ≤ 6) ∧ ∀ j, 0 ≤ j → j < i → ∀ b, Tot s j b → ¬ Vdl f b) (fun (i : Int) _ => (6 - i).toNat) ?_ ⟨by omega, fun j j0 j1 => by omega⟩
  rintro P i d2 ⟨hi, inv⟩ ih
  refine deals_x hi.1 hi.2 (fun d' win => ⟨fun _ => k i d' ⟨hi, win, inv⟩, fun z => absurd z (by decide)⟩) (fun no d' => ⟨fun z => absurd rfl z, fun _ => ?_⟩)
  have h6 : i < 6 := by
    rcases Int.lt_or_eq_of_le hi.2 with q | q
    · exact q
    · rw [q] at no; exact absurd (id6_ok (s := s) (f := f)).2 (no (id6 s) (id6_ok (f := f)).1)
  refine ⟨⟨by omega, by omega⟩, ih _ _ ⟨by omega, fun j j0 j1 b hb => ?_⟩ (by omega)⟩
  by_cases q : j = i
  · rw [q] at hb; exact no b hb
  · exact inv j j0 (by omega) b hb
end F9
