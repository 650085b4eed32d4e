-- ===== tokens
def TK (ir t : Int) : Prop := 320 ≤ t → (ir = 0 ∧ t ≤ 325) ∨ (ir ≠ 0 ∧ 330 ≤ t ∧ t ≤ 332)
theorem TK.low {ir t : Int} (h : t < 320) : TK ir t := fun q => absurd q (by omega)
theorem see_ok {tape : Int → Int} {taped k : Int} (h : taped ≤ 800) (k0 : 0 ≤ k) {K : Int → Prop} (h1 : taped ≤ k → K (-1)) (h2 : k < taped → K (tape k)) : wp_see tape taped k K := ⟨h1, fun q => ⟨⟨by omega, by omega⟩, h2 q⟩⟩
theorem isDigit_c {v : Int} {K : Int → Prop} (h1 : 48 ≤ v → v ≤ 57 → K 1) (h0 : ¬ (48 ≤ v ∧ v ≤ 57) → K 0) : wp_isDigit v K := isIn_c (fun a b => ⟨Or.inr rfl, h1 a b⟩) (fun a => ⟨Or.inl rfl, h0 a⟩)
def ltr (v : Int) : Prop := (97 ≤ v ∧ v ≤ 122) ∨ (65 ≤ v ∧ v ≤ 90)
theorem isLetter_c {v : Int} {K : Int → Prop} (h1 : ltr v → K 1) (h0 : ¬ ltr v → K 0) : wp_isLetter v K :=
  isIn_c (fun a b => u1 (h1 (Or.inl ⟨a, b⟩))) (fun n1 => u0 (isIn_c (fun a b => t1 (h1 (Or.inr ⟨a, b⟩))) (fun n2 => t0 (h0 (fun q => q.elim n1 n2)))))
theorem litN_le (i : Int) : 0 ≤ litN i ∧ litN i ≤ 5 := by
  unfold litN litL
  refine ⟨by omega, ?_⟩
  split
  · decide
  · split
    · decide
    · split
      · decide
      · split <;> decide
theorem is_ok {tape : Int → Int} {a ta i : Int} (h0 : 0 ≤ ta) (h1 : ta ≤ a) (h2 : a ≤ 800) {K : Int → Prop} (hK : ∀ r, (r = 0 ∨ r = 1) → K r) : wp_is tape a ta i K := by
  have hl := litN_le i
  have main : ∀ z, (z = 0 ∨ (z = 1 ∧ a - ta = litN i)) → wp_is_21 K tape ta i z := by
    intro z hz
    refine wl2_rule (fun (s k : Int) => 0 ≤ k ∧ (s = 0 ∨ (s = 1 ∧ a - ta = litN i))) (fun (_ k : Int) => (litN i - k).toNat) ?_ ⟨by omega, hz⟩
    rintro P s k ⟨k0, hs⟩ ih
    exact ⟨fun _ => ⟨by omega, hK _ (by omega)⟩, fun hlt => ⟨fun _ => ⟨by omega, hK _ (by omega)⟩, fun hne => ⟨⟨by omega, by omega⟩, ⟨by omega, by omega⟩, fun _ => ⟨⟨by omega, by omega⟩, ih _ _ ⟨by omega, Or.inl rfl⟩ (by omega)⟩, fun _ => ⟨⟨by omega, by omega⟩, ih _ _ ⟨by omega, Or.inr ⟨rfl, by omega⟩⟩ (by omega)⟩⟩⟩⟩
  exact ⟨⟨by omega, by omega⟩, fun _ => main 0 (Or.inl rfl), fun h => main 1 (Or.inr ⟨rfl, h⟩)⟩
theorem word_ok {tape : Int → Int} {a ta ir : Int} (h0 : 0 ≤ ta) (h1 : ta < a) (h2 : a ≤ 800) {K : Int → Prop} (hK : ∀ r, TK ir r → K r) : wp_word tape a ta ir K := by
  have low : ∀ r, r < 320 → K r := fun r h => hK r (TK.low h)
  have b52 : wp_word_52 K tape ta ir := ⟨fun _ => low 1 (by decide), fun hne => isIn_c (fun x y => t1 ⟨⟨by omega, by omega⟩, hK _ (fun _ => Or.inr ⟨hne, by omega, by omega⟩)⟩) (fun _ => t0 (low 1 (by decide)))⟩
  refine ⟨⟨by omega, by omega⟩, ⟨by omega, by omega⟩, fun _ => ?_, fun _ => ⟨fun _ => b52, fun he => isIn_c (fun x y => t1 ⟨⟨by omega, by omega⟩, hK _ (fun _ => Or.inl ⟨he, by omega⟩)⟩) (fun _ => t0 b52)⟩⟩
  exact is_ok h0 (by omega) h2 (fun _ _ => ⟨fun _ => is_ok h0 (by omega) h2 (fun _ _ => ⟨fun _ => is_ok h0 (by omega) h2 (fun _ _ => ⟨fun _ => is_ok h0 (by omega) h2 (fun _ _ => ⟨fun _ => is_ok h0 (by omega) h2 (fun _ _ => ⟨fun _ => low _ (by decide), fun _ => low _ (by decide)⟩), fun _ => low _ (by decide)⟩), fun _ => low _ (by decide)⟩), fun _ => low _ (by decide)⟩), fun _ => low _ (by decide)⟩)
theorem next0_ok {tape : Int → Int} {taped a t ta v ir : Int} (h8 : taped ≤ 800) (a0 : 0 ≤ a) (a1 : a ≤ taped) (v0 : 0 ≤ v) (v1 : v ≤ 9999) {K : Int → Int → Int → Int → Prop} (hK : ∀ a' t' ta' v', a ≤ a' → a' ≤ taped → (t' = 0 ∨ a < a') → TK ir t' → 0 ≤ v' → v' ≤ 9999 → K a' t' ta' v') : wp_next0 tape taped a t ta v ir K := by
  refine wl1_rule (fun (b : Int) => a ≤ b ∧ b ≤ taped) (fun (b : Int) => (taped - b).toNat) ?_ ⟨Int.le_refl _, a1⟩
  rintro P b ⟨b0, b1⟩ ih
  have adv : b < taped → rng (b + 1) ∧ P (b + 1) := fun h => ⟨⟨by omega, by omega⟩, ih _ ⟨by omega, by omega⟩ (by omega)⟩
  refine see_ok h8 (by omega) (fun hge => ⟨fun q => absurd q (by decide), fun _ => ?_⟩) (fun hlt => ⟨fun _ => adv hlt, fun n32 => ?_⟩)
  · -- the end
    have fin : K b 0 b v := hK _ _ _ _ (by omega) (by omega) (Or.inl rfl) (TK.low (by decide)) v0 v1
    refine see_ok h8 (by omega) (fun _ => ⟨fun _ => ?_, fun q => absurd q (by decide)⟩) (fun q => by omega)
    exact see_ok h8 (by omega) (fun _ => ⟨fun q => absurd rfl q, fun _ => fin⟩) (fun q => by omega)
  · refine see_ok h8 (by omega) (fun q => by omega) (fun _ => ⟨fun n10 => ?_, fun _ => adv hlt⟩)
    refine see_ok h8 (by omega) (fun q => by omega) (fun _ => ⟨fun nm1 => ?_, fun _ => hK _ _ _ _ (by omega) (by omega) (Or.inl rfl) (TK.low (by decide)) v0 v1⟩)
    refine isLetter_c (fun hL => t1 ?_) (fun nL => t0 (isDigit_c (fun d0 d1 => t1 ?_) (fun nD => t0 ?_)))
    · refine wl2_rule (fun (x y : Int) => y = b ∧ b ≤ x ∧ x ≤ taped) (fun (x _ : Int) => (taped - x).toNat) ?_ ⟨rfl, by omega, by omega⟩
      rintro P2 x y ⟨rfl, x0, x1⟩ ih2
      by_cases hx : x < taped
      · refine see_ok h8 (by omega) (fun q => by omega) (fun _ => isLetter_c (fun _ => t1 ⟨⟨by omega, by omega⟩, ih2 _ _ ⟨rfl, by omega, by omega⟩ (by omega)⟩) (fun nL2 => t0 ?_))
        have hxy : y < x := by
          by_cases h : x = y
          · rw [h] at nL2; exact absurd hL nL2
          · omega
        exact word_ok (by omega) hxy (by omega) (fun r hr => hK _ _ _ _ (by omega) (by omega) (Or.inr (by omega)) hr v0 v1)
      · refine see_ok h8 (by omega) (fun _ => isLetter_c (fun q => absurd q (by unfold ltr; omega)) (fun _ => t0 ?_)) (fun q => absurd q hx)
        exact word_ok (by omega) (by omega) (by omega) (fun r hr => hK _ _ _ _ (by omega) (by omega) (Or.inr (by omega)) hr v0 v1)
    · refine wl3_rule (fun (x y z : Int) => y = b ∧ b ≤ x ∧ x ≤ taped ∧ 0 ≤ z ∧ ((x = b ∧ z = 0) ∨ (x = b + 1 ∧ z ≤ 9) ∨ (x = b + 2 ∧ z ≤ 99) ∨ (x = b + 3 ∧ z ≤ 999) ∨ (b + 4 ≤ x ∧ z ≤ 9999))) (fun (x _ _ : Int) => (taped - x).toNat) ?_ ⟨rfl, by omega, by omega, by omega, by omega⟩
      rintro P2 x y z ⟨rfl, x0, x1, z0, hz⟩ ih2
      have stop : y < x → rng (x - y) ∧ (5 ≤ x - y → K x 1 y z) ∧ (x - y < 5 → K x 2 y z) := fun h => ⟨⟨by omega, by omega⟩, fun _ => hK _ _ _ _ (by omega) (by omega) (Or.inr (by omega)) (TK.low (by decide)) z0 (by omega), fun _ => hK _ _ _ _ (by omega) (by omega) (Or.inr (by omega)) (TK.low (by decide)) z0 (by omega)⟩
      by_cases hx : x < taped
      · refine see_ok h8 (by omega) (fun q => by omega) (fun _ => isDigit_c (fun e0 e1 => t1 ⟨⟨by omega, by omega⟩, fun _ => ⟨⟨by omega, by omega⟩, ih2 _ _ _ ⟨rfl, by omega, by omega, z0, by omega⟩ (by omega)⟩, fun _ => see_ok h8 (by omega) (fun q => by omega) (fun _ => ⟨⟨by omega, by omega⟩, ⟨by omega, by omega⟩, ih2 _ _ _ ⟨rfl, by omega, by omega, by omega, by omega⟩ (by omega)⟩)⟩) (fun nD2 => t0 (stop ?_)))
        by_cases h : x = y
        · rw [h] at nD2; exact absurd ⟨d0, d1⟩ nD2
        · omega
      · exact see_ok h8 (by omega) (fun _ => isDigit_c (fun q => absurd q (by omega)) (fun _ => t0 (stop (by omega)))) (fun q => absurd q hx)
    · -- a sign, or none
      have r52 : tape b < 320 ∨ 320 ≤ tape b := by omega
      have b306 : ∀ z, z < 320 → wp_next0_306 K tape taped v ir b (tape b) z := fun z hz => by
        have k1 : K (b + 1) z b v := hK _ _ _ _ (by omega) (by omega) (Or.inr (by omega)) (TK.low hz) v0 v1
        refine ⟨fun _ => k1, fun _ => ⟨fun _ => k1, fun _ => ?_⟩⟩
        exact see_ok h8 (by omega) (fun _ => ⟨fun _ => k1, fun q => absurd q (by decide)⟩) (fun hb => ⟨fun _ => k1, fun _ => ⟨⟨by omega, by omega⟩, hK _ _ _ _ (by omega) (by omega) (Or.inr (by omega)) (TK.low (by decide)) v0 v1⟩⟩)
      have b290 : tape b < 320 → wp_next0_290 K tape taped v ir b (tape b) := fun h => ⟨fun q => absurd q (by decide), fun _ => b306 _ h⟩
      refine ⟨⟨by omega, by omega⟩, fun _ => b290 (by omega), fun _ => ⟨fun _ => b290 (by omega), fun _ => ⟨fun _ => b290 (by omega), fun _ => ⟨fun _ => b290 (by omega), fun _ => ⟨fun _ => b290 (by omega), fun _ => ⟨fun _ => b290 (by omega), fun _ => ⟨fun _ => b290 (by omega), fun _ => ⟨fun _ => b290 (by omega), fun _ => ⟨fun _ => b290 (by omega), fun _ => ⟨fun _ => b290 (by omega), fun _ => ⟨fun _ => ⟨fun _ => b306 1 (by decide), fun q => absurd rfl q⟩, fun _ => b290 (by omega)⟩⟩⟩⟩⟩⟩⟩⟩⟩⟩⟩
/-- where the scanner is -/
def SC (taped ir a t v : Int) : Prop := 0 ≤ a ∧ a ≤ taped ∧ TK ir t ∧ 0 ≤ v ∧ v ≤ 9999
def mz (a t : Int) : Nat := (2 * (800 - a)).toNat + (if t = 0 then 0 else 1)
theorem mz_lt {a t a' t' taped : Int} (h8 : taped ≤ 800) (ha : a' ≤ taped) (h : a ≤ a') (ht : t ≠ 0) (hp : t' = 0 ∨ a < a') : mz a' t' < mz a t := by
  unfold mz
  rw [if_neg ht]
  by_cases h0 : t' = 0
  · rw [if_pos h0]; omega
  · rw [if_neg h0]
    have := hp.resolve_left h0
    omega
theorem nextS {tape : Int → Int} {taped a t ta v ir : Int} (h8 : taped ≤ 800) (hs : SC taped ir a t v) (ht : t ≠ 0) {K : Int → Int → Int → Int → Prop} (hK : ∀ a' t' ta' v', SC taped ir a' t' v' → mz a' t' < mz a t → K a' t' ta' v') : wp_next0 tape taped a t ta v ir K := by
  obtain ⟨a0, a1, hk, v0, v1⟩ := hs
  exact next0_ok h8 a0 a1 v0 v1 (fun a' t' ta' v' b1 b2 b3 b4 b5 b6 => hK _ _ _ _ ⟨by omega, b2, b4, b5, b6⟩ (mz_lt h8 b2 b1 ht b3))
theorem needS {tape : Int → Int} {taped a t ta v w wa ir x : Int} (h8 : taped ≤ 800) (hs : SC taped ir a t v) (hx : x ≠ 0) {K : Int → Int → Int → Int → Int → Int → Int → Prop} (h0 : ∀ a t ta v w wa, 0 ≤ v → v ≤ 9999 → K 0 a t ta v w wa) (h1 : t = x → ∀ a' t' ta' v', SC taped ir a' t' v' → mz a' t' < mz a t → K 1 a' t' ta' v' w wa) : wp_need tape taped a t ta v w wa ir x K :=
  ⟨fun he => nextS h8 hs (by omega) (fun a' t' ta' v' s1 s2 => h1 he a' t' ta' v' s1 s2), fun _ => ⟨Or.inl rfl, h0 _ _ _ _ _ _ hs.2.2.2.1 hs.2.2.2.2⟩⟩
theorem opensS {tape : Int → Int} {taped a t ta v w wa d ir x : Int} (h8 : taped ≤ 800) (hs : SC taped ir a t v) (hx : x ≠ 0) (d0 : 0 ≤ d) (d8 : d ≤ 8) {K : Int → Int → Int → Int → Int → Int → Int → Int → Prop} (h0 : ∀ a t ta v w wa d, 0 ≤ v → v ≤ 9999 → K 0 a t ta v w wa d) (h1 : d < 8 → ∀ a' t' ta' v', SC taped ir a' t' v' → mz a' t' < mz a t → K 1 a' t' ta' v' w wa (d + 1)) : wp_opens tape taped a t ta v w wa d ir x K :=
  ⟨fun he => ⟨fun hd => ⟨⟨by omega, by omega⟩, nextS h8 hs (by omega) (fun a' t' ta' v' s1 s2 => h1 (by omega) a' t' ta' v' s1 s2)⟩, fun _ => ⟨Or.inl rfl, h0 _ _ _ _ _ _ _ hs.2.2.2.1 hs.2.2.2.2⟩⟩, fun _ => ⟨Or.inl rfl, h0 _ _ _ _ _ _ _ hs.2.2.2.1 hs.2.2.2.2⟩⟩
theorem closesS {tape : Int → Int} {taped a t ta v w wa d ir x : Int} (h8 : taped ≤ 800) (hs : SC taped ir a t v) (hx : x ≠ 0) (d0 : 1 ≤ d) (d8 : d ≤ 9) {K : Int → Int → Int → Int → Int → Int → Int → Int → Prop} (h0 : ∀ a t ta v w wa d, 0 ≤ v → v ≤ 9999 → K 0 a t ta v w wa d) (h1 : ∀ a' t' ta' v', SC taped ir a' t' v' → mz a' t' < mz a t → K 1 a' t' ta' v' w wa (d - 1)) : wp_closes tape taped a t ta v w wa d ir x K :=
  needS h8 hs hx (fun a t ta v w wa v0 v1 => u0 (h0 _ _ _ _ _ _ _ v0 v1)) (fun _ a' t' ta' v' s1 s2 => u1 ⟨⟨by omega, by omega⟩, h1 _ _ _ _ s1 s2⟩)
theorem counts_ok {ta w wa c pm : Int} (c0 : 0 ≤ c) (c1 : c ≤ pm) (c2 : pm ≤ 300) {K : Int → Int → Int → Int → Prop} (h1 : c < pm → K 1 w wa (c + 1)) (h0 : ∀ w wa, K 0 w wa c) : wp_counts ta w wa c pm K := ⟨fun h => ⟨⟨by omega, by omega⟩, h1 (by omega)⟩, fun _ => ⟨Or.inl rfl, h0 _ _⟩⟩
theorem ahead_ok {f0 f : Int → Int} {m0 m h : Int} {e : List Int} (hw : Wr f0 m0 e f m) (z0 : 0 ≤ m0) (z1 : m < 2400) {K : (Int → Int) → Int → Prop} (hK : ∀ f', Wr f0 m0 (h :: e) f' (m + 1) → K f' (m + 1)) : wp_ahead f m m0 h K := by
  have hm := hw.1
  refine wl2_rule (fun (p : Int) (g : Int → Int) => m0 ≤ p ∧ p ≤ m ∧ (∀ j : Int, j ≤ p → g j = f j) ∧ ∀ j : Int, p < j → j ≤ m → g j = f (j - 1)) (fun (p : Int) _ => (p - m0).toNat) ?_ ⟨by omega, Int.le_refl _, fun _ _ => rfl, fun j j0 j1 => absurd j0 (by omega)⟩
  rintro P p g ⟨p0, p1, g1, g2⟩ ih
  refine ⟨fun hle => ⟨⟨by omega, by omega⟩, ⟨by omega, by omega⟩, hK _ ⟨by rw [hm]; simp only [List.length_cons]; omega, ⟨if_pos rfl, ?_⟩, fun j hj => ?_⟩⟩, fun hgt => ⟨⟨by omega, by omega⟩, ⟨by omega, by omega⟩, ⟨by omega, by omega⟩, ih _ _ ⟨by omega, by omega, fun j hj => ?_, fun j j0 j1 => ?_⟩ (by omega)⟩⟩
  · refine At_congr (g := f) (p := m0) (fun i i0 i1 => ?_) hw.2.1
    rw [show uZ g m0 h (m0 + 1 + i) = g (m0 + 1 + i) from if_neg (by omega), g2 _ (by omega) (by omega)]
    congr 1; omega
  · rw [show uZ g m0 h j = g j from if_neg (by omega), g1 j (by omega)]
    exact hw.2.2 j hj
  · rw [show uZ g p (g (p - 1)) j = g j from if_neg (by omega)]; exact g1 j (by omega)
  · by_cases hj : j = p
    · rw [hj, show uZ g p (g (p - 1)) p = g (p - 1) from if_pos rfl]; exact g1 _ (by omega)
    · rw [show uZ g p (g (p - 1)) j = g j from if_neg hj]; exact g2 j (by omega) j1
