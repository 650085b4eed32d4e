-- ===== rules told
theorem wp_ruleWorth_s {n : Nat} : wp_ruleWorth (n + 1) = wp_ruleWorth_b (wp_ruleWorth n) := rfl
theorem ruleWorth_ok {rule stands : Int → Int} {r : Int} (r0 : 0 ≤ r) (r11 : r ≤ 11) : ∀ {e : List Int}, Ex lfU e → ∀ (n : Nat) (c : Int) (K : Int → Int → Prop), At rule (40 * r + c) e → 0 ≤ c → c + e.length ≤ 40 → e.length ≤ n → (∀ v, K v (c + e.length)) → wp_ruleWorth n rule c stands r K := by
  intro e he
  refine Ex.ind (P := fun e => ∀ (n : Nat) (c : Int) (K : Int → Int → Prop), At rule (40 * r + c) e → 0 ≤ c → c + e.length ≤ 40 → e.length ≤ n → (∀ v, K v (c + e.length)) → wp_ruleWorth n rule c stands r K) ?_ ?_ he
  · intro v hv n c K ha h0 h1 hn hK
    simp only [List.length_cons, List.length_nil] at h1 hn hK
    obtain ⟨n, rfl⟩ : ∃ m, n = m + 1 := ⟨n - 1, by omega⟩
    have e1 : rule (40 * r + c) = v := ha.1
    unfold lfU at hv
    rw [wp_ruleWorth_s]
    exact ⟨⟨by omega, by omega⟩, ⟨by omega, by omega⟩, fun _ => ⟨fun q => absurd q (by omega), fun _ => ⟨⟨by omega, by omega⟩, hK _⟩⟩, fun _ => hK _⟩
  · intro o a b ho _ _ iha ihb n c K ha h0 h1 hn hK
    simp only [List.length_cons, List.length_append] at h1 hn hK
    obtain ⟨n, rfl⟩ : ∃ m, n = m + 1 := ⟨n - 1, by omega⟩
    have e1 : rule (40 * r + c) = o := ha.1
    obtain ⟨a1, a2⟩ := At_app.mp ha.2
    rw [show 40 * r + c + 1 = 40 * r + (c + 1) by omega] at a1 a2
    rw [show 40 * r + (c + 1) + (a.length : Int) = 40 * r + (c + 1 + a.length) by omega] at a2
    unfold opC at ho
    rw [wp_ruleWorth_s]
    refine ⟨⟨by omega, by omega⟩, ⟨by omega, by omega⟩, fun _ => ⟨fun _ => ?_, fun q => absurd q (by omega)⟩, fun q => absurd q (by omega)⟩
    refine iha n (c + 1) _ a1 (by omega) (by omega) (by omega) (fun v => ihb n _ _ a2 (by omega) (by omega) (by omega) (fun v2 => both_ok (fun v3 _ _ => ?_)))
    have := hK v3
    rwa [show c + ((a.length + b.length + 1 : Nat) : Int) = c + 1 + a.length + b.length by omega] at this
theorem isAlike_ok {rule ruleRight ruleLong stands : Int → Int} {r : Int} {L R : List Int} (r0 : 0 ≤ r) (r11 : r ≤ 11) (hr : RW rule ruleRight ruleLong r L R) {cur : Int} {K : Int → Int → Prop} (hK : ∀ z c, (z = 0 ∨ z = 1) → K z c) : wp_isAlike rule cur stands r K := by
  obtain ⟨aL, aR⟩ := At_app.mp hr.2.2.1
  have h40 := hr.2.2.2.2.2.1
  refine ruleWorth_ok r0 r11 hr.1 100 0 _ (by rw [show 40 * r + 0 = 40 * r by omega]; exact aL) (by omega) (by omega) (by omega) (fun v => ?_)
  refine ruleWorth_ok r0 r11 hr.2.1 100 _ _ (by rw [show 40 * r + (0 + (L.length : Int)) = 40 * r + L.length by omega]; exact aR) (by omega) (by omega) (by omega) (fun v2 => ⟨fun _ => hK _ _ (Or.inl rfl), fun _ => hK _ _ (Or.inr rfl)⟩)
theorem products_ok {form product : Int → Int} {isForm d : Int} (d0 : 0 ≤ d) (d1 : d ≤ 40) {K : (Int → Int) → Int → (Int → Int) → Prop} (hK : ∀ f i p, K f i p) : wp_products form isForm product d K := by
  refine wl2_rule (fun (k : Int) (_ : Int → Int) => 0 ≤ k) (fun (k : Int) _ => (512 - k).toNat) ?_ (Int.le_refl 0)
  rintro P k p hk ih
  refine ⟨fun _ => ?_, fun h => ⟨⟨by omega, by omega⟩, ⟨by omega, by omega⟩, ih _ _ (by omega) (by omega)⟩⟩
  refine wl3_rule (fun (i : Int) (_ : Int) (_ : Int → Int) => 0 ≤ i) (fun (i : Int) _ _ => (512 - i).toNat) ?_ (Int.le_refl 0)
  rintro P2 i fo p2 hi ih2
  refine ⟨fun _ => ?_, fun hlt => ⟨⟨by omega, by omega⟩, ?_⟩⟩
  · refine wl4_rule (fun (k : Int) (_ : Int → Int) (_ : Int) (_ : Int → Int) => 0 ≤ k) (fun (k : Int) _ _ _ => (512 - k).toNat) ?_ (Int.le_refl 0)
    rintro P3 k f3 i3 p3 hk ih3
    exact ⟨fun _ => hK _ _ _, fun h => ⟨⟨by omega, by omega⟩, ⟨by omega, by omega⟩, ⟨by omega, by omega⟩, ih3 _ _ _ _ (by omega) (by omega)⟩⟩
  · refine wl3_rule (fun (j : Int) (_ : Int) (_ : Int → Int) => 0 ≤ j) (fun (j : Int) _ _ => (512 - j).toNat) ?_ (Int.le_refl 0)
    rintro P3 j fo3 p3 hj ih3
    have next : j < 512 → ∀ (a : Int) (q : Int → Int), rng (j + 1) ∧ P3 (j + 1) a q := fun h a q => ⟨⟨by omega, by omega⟩, ih3 _ _ _ (by omega) (by omega)⟩
    have out : ∀ (a : Int) (q : Int → Int), rng (i + 1) ∧ P2 (i + 1) a q := fun a q => ⟨⟨by omega, by omega⟩, ih2 _ _ _ (by omega) (by omega)⟩
    refine ⟨fun _ => out _ _, fun hj2 => ⟨fun _ => out _ _, fun _ => ⟨⟨by omega, by omega⟩, fun _ => ?_, fun _ => next hj2 _ _⟩⟩⟩
    have zi := zdm (x := i) (y := 64) hi (by omega) (by omega) (by omega)
    have zj := zdm (x := j) (y := 64) hj (by omega) (by omega) (by omega)
    have zi8 := zdm (x := i) (y := 8) hi (by omega) (by omega) (by omega)
    have zj8 := zdm (x := j) (y := 8) hj (by omega) (by omega) (by omega)
    have yi := zdm (x := i / 8) (y := 8) (by omega) (by omega) (by omega) (by omega)
    have yj := zdm (x := j / 8) (y := 8) (by omega) (by omega) (by omega) (by omega)
    rw [zi.1, zj.1, zi8.1, zj8.1, yi.2, yj.2, zi8.2, zj8.2]
    exact ⟨⟨by omega, by omega⟩, fun _ => next hj2 _ _, fun h1 => ⟨⟨by omega, by omega⟩, fun _ => next hj2 _ _, fun h2 => ⟨⟨by omega, by omega⟩, fun h3 => ⟨⟨by omega, by omega⟩, ⟨by omega, by omega⟩, next hj2 _ _⟩, fun _ => next hj2 _ _⟩⟩⟩
theorem wp_forms_s {n : Nat} : wp_forms (n + 1) = wp_forms_b (wp_forms n) := rfl
theorem forms_ok {rule : Int → Int} {r : Int} (r0 : 0 ≤ r) (r11 : r ≤ 11) : ∀ {e : List Int}, Ex lfU e → ∀ (n : Nat) (c d : Int) (f : Int → Int) (i : Int) (p : Int → Int) (K : Int → (Int → Int) → Int → (Int → Int) → Prop), At rule (40 * r + c) e → 0 ≤ c → c + e.length ≤ 40 → e.length ≤ n → 0 ≤ d → d + e.length ≤ 42 → (∀ f i p, K (c + e.length) f i p) → wp_forms n rule c f i p r d K := by
  intro e he
  refine Ex.ind (P := fun e => ∀ (n : Nat) (c d : Int) (f : Int → Int) (i : Int) (p : Int → Int) (K : Int → (Int → Int) → Int → (Int → Int) → Prop), At rule (40 * r + c) e → 0 ≤ c → c + e.length ≤ 40 → e.length ≤ n → 0 ≤ d → d + e.length ≤ 42 → (∀ f i p, K (c + e.length) f i p) → wp_forms n rule c f i p r d K) ?_ ?_ he
  · intro v hv n c d f i p K ha h0 h1 hn d0 d1 hK
    simp only [List.length_cons, List.length_nil] at h1 hn hK d1
    obtain ⟨n, rfl⟩ : ∃ m, n = m + 1 := ⟨n - 1, by omega⟩
    have e1 : rule (40 * r + c) = v := ha.1
    unfold lfU at hv
    rw [wp_forms_s]
    refine ⟨⟨by omega, by omega⟩, ⟨by omega, by omega⟩, wl2_rule (fun (k : Int) (_ : Int → Int) => 0 ≤ k) (fun (k : Int) _ => (512 - k).toNat) ?_ (Int.le_refl 0)⟩
    rintro P k f2 hk ih
    exact ⟨fun _ => ⟨fun _ => ⟨fun q => absurd q (by omega), fun _ => ⟨fun _ => ⟨fun _ => ⟨⟨by omega, by omega⟩, hK _ _ _⟩, fun _ => ⟨⟨by omega, by omega⟩, hK _ _ _⟩⟩, fun _ => ⟨⟨by omega, by omega⟩, hK _ _ _⟩⟩⟩, fun _ => ⟨⟨by omega, by omega⟩, hK _ _ _⟩⟩, fun h => ⟨⟨by omega, by omega⟩, ⟨by omega, by omega⟩, ih _ _ (by omega) (by omega)⟩⟩
  · intro o a b ho hea heb iha ihb n c d f i p K ha h0 h1 hn d0 d1 hK
    simp only [List.length_cons, List.length_append] at h1 hn hK d1
    have pa := hea.pos
    have pb := heb.pos
    obtain ⟨n, rfl⟩ : ∃ m, n = m + 1 := ⟨n - 1, by omega⟩
    have e1 : rule (40 * r + c) = o := ha.1
    obtain ⟨a1, a2⟩ := At_app.mp ha.2
    rw [show 40 * r + c + 1 = 40 * r + (c + 1) by omega] at a1 a2
    rw [show 40 * r + (c + 1) + (a.length : Int) = 40 * r + (c + 1 + a.length) by omega] at a2
    unfold opC at ho
    rw [wp_forms_s]
    have hK' : ∀ f i p, K (c + 1 + a.length + b.length) f i p := by
      intro f i p
      have := hK f i p
      rwa [show c + ((a.length + b.length + 1 : Nat) : Int) = c + 1 + a.length + b.length by omega] at this
    refine ⟨⟨by omega, by omega⟩, ⟨by omega, by omega⟩, wl2_rule (fun (k : Int) (_ : Int → Int) => 0 ≤ k) (fun (k : Int) _ => (512 - k).toNat) ?_ (Int.le_refl 0)⟩
    rintro P k f2 hk ih
    refine ⟨fun _ => ⟨fun _ => ⟨fun _ => ?_, fun q => absurd q (by omega)⟩, fun q => absurd q (by omega)⟩, fun h => ⟨⟨by omega, by omega⟩, ⟨by omega, by omega⟩, ih _ _ (by omega) (by omega)⟩⟩
    refine iha n (c + 1) d _ _ _ _ a1 (by omega) (by omega) (by omega) d0 (by omega) (fun f3 i3 p3 => ⟨⟨by omega, by omega⟩, ?_⟩)
    refine ihb n _ (d + 1) _ _ _ _ a2 (by omega) (by omega) (by omega) (by omega) (by omega) (fun f4 i4 p4 => ⟨fun _ => products_ok d0 (by omega) (fun f5 i5 p5 => hK' _ _ _), fun _ => ?_⟩)
    refine wl2_rule (fun (k : Int) (_ : Int → Int) => 0 ≤ k) (fun (k : Int) _ => (512 - k).toNat) ?_ (Int.le_refl 0)
    rintro P2 k f5 hk ih2
    exact ⟨fun _ => hK' _ _ _, fun h => ⟨⟨by omega, by omega⟩, ⟨by omega, by omega⟩, both_ok (fun v _ _ => ⟨⟨by omega, by omega⟩, ⟨by omega, by omega⟩, ih2 _ _ (by omega) (by omega)⟩)⟩⟩
theorem ruleOf_ok {rules x0 x1 : Int} {rule ruleRight ruleLong letters : Int → Int} (hR : RWa rules rule ruleRight ruleLong) {cur isForm : Int} {stands form product : Int → Int} {K : Int → Int → (Int → Int) → (Int → Int) → Int → (Int → Int) → Prop} (hK : ∀ r a b c d e, K r a b c d e) : wp_ruleOf rules rule letters cur stands form isForm product x0 x1 K := by
  have r0 := hR.1
  have r12 := hR.2.1
  refine ⟨⟨by omega, by omega⟩, isIn_c (fun a0 a1 => t1 (isIn_c (fun b0 b1 => u1 ⟨fun _ => ?_, fun _ => ?_⟩) (fun _ => u0 (hK _ _ _ _ _ _)))) (fun _ => t0 (hK _ _ _ _ _ _))⟩
  · obtain ⟨L, R, hr⟩ := hR.2.2 x0 a0 (by omega)
    refine wl5_rule (fun (_ n w : Int) (_ : Int) (_ : Int → Int) => 0 ≤ n ∧ n ≤ w) (fun (_ _ w : Int) _ _ => (4096 - w).toNat) ?_ ⟨by omega, by omega⟩
    rintro P f n w c st ⟨n0, n1⟩ ih
    refine ⟨fun _ => ⟨fun _ => ⟨fun _ => hK _ _ _ _ _ _, fun _ => hK _ _ _ _ _ _⟩, fun _ => ⟨fun _ => hK _ _ _ _ _ _, fun _ => hK _ _ _ _ _ _⟩⟩, fun hlt g _ g2 _ => ?_⟩
    refine wl2_rule (fun (z k : Int) => (z = 0 ∨ z = 1) ∧ 0 ≤ k) (fun (_ k : Int) => (3 - k).toNat) ?_ ⟨Or.inr rfl, by omega⟩
    rintro P2 z k ⟨hz, hk⟩ ih2
    refine ⟨fun _ => ⟨fun _ => ⟨⟨by omega, by omega⟩, ih _ _ _ _ _ ⟨by omega, by omega⟩ (by omega)⟩, fun _ => isAlike_ok a0 (by omega) hr (fun b c2 _ => ⟨fun _ => ⟨fun _ => ⟨⟨by omega, by omega⟩, ⟨by omega, by omega⟩, ih _ _ _ _ _ ⟨by omega, by omega⟩ (by omega)⟩, fun _ => ⟨⟨by omega, by omega⟩, ⟨by omega, by omega⟩, ih _ _ _ _ _ ⟨by omega, by omega⟩ (by omega)⟩⟩, fun _ => ⟨⟨by omega, by omega⟩, ih _ _ _ _ _ ⟨by omega, by omega⟩ (by omega)⟩⟩)⟩, fun hlt2 => ⟨fun _ => ⟨⟨by omega, by omega⟩, ih2 _ _ ⟨Or.inl rfl, by omega⟩ (by omega)⟩, fun _ => ⟨⟨by omega, by omega⟩, fun _ => ⟨⟨by omega, by omega⟩, ih2 _ _ ⟨Or.inr rfl, by omega⟩ (by omega)⟩, fun _ => ⟨⟨by omega, by omega⟩, fun _ => ⟨⟨by omega, by omega⟩, ih2 _ _ ⟨Or.inl rfl, by omega⟩ (by omega)⟩, fun _ => ⟨⟨by omega, by omega⟩, ih2 _ _ ⟨Or.inr rfl, by omega⟩ (by omega)⟩⟩⟩⟩⟩
  · obtain ⟨L, R, hr⟩ := hR.2.2 x0 a0 (by omega)
    obtain ⟨aL, aR⟩ := At_app.mp hr.2.2.1
    have h40 := hr.2.2.2.2.2.1
    refine forms_ok a0 (by omega) hr.1 100 0 0 _ _ _ _ (by rw [show 40 * x0 + 0 = 40 * x0 by omega]; exact aL) (by omega) (by omega) (by omega) (by omega) (by omega) (fun f i p => ?_)
    refine forms_ok a0 (by omega) hr.2.1 100 _ 1 _ _ _ _ (by rw [show 40 * x0 + (0 + (L.length : Int)) = 40 * x0 + L.length by omega]; exact aR) (by omega) (by omega) (by omega) (by omega) (by omega) (fun f2 i2 p2 => ⟨fun _ => ?_, fun _ => hK _ _ _ _ _ _⟩)
    refine wl1_rule (fun (k : Int) => 0 ≤ k) (fun (k : Int) => (512 - k).toNat) ?_ (Int.le_refl 0)
    rintro P k hk ih
    exact ⟨fun _ => hK _ _ _ _ _ _, fun h => ⟨⟨by omega, by omega⟩, ⟨by omega, by omega⟩, fun _ => ⟨⟨by omega, by omega⟩, ih _ (by omega) (by omega)⟩, fun _ => hK _ _ _ _ _ _⟩⟩
