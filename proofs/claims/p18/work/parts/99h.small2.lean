theorem end_both {σ : Sg} {x : Int} (h0 : 0 ≤ σ.1 3 1) (h8 : σ.1 3 1 ≤ 800) :
    ∃ r σ', (∀ K, K r σ' → wp5_S_end σ x K) ∧ (∀ K, K r (σ'.1 3 1) → wp_end (σ.1 3 1) x K) ∧ (∀ a b, (a ≠ 3 ∨ b ≠ 1) → σ'.1 a b = σ.1 a b) ∧ σ'.2 = σ.2 ∧ (0 ≤ σ'.1 3 1 ∧ σ'.1 3 1 ≤ 800) := by
  by_cases h : 0 ≤ x ∧ x ≤ σ.1 3 1
  · refine ⟨1, pU σ 3 1 x, fun K hK => ?_, fun K hK => ?_, fun a b z => pU_ne z, rfl, ⟨h.1, by show x ≤ 800; omega⟩⟩
    · unfold wp5_S_end wp5_T_shorten
      exact ⟨fun z => absurd z (by omega), fun _ => ⟨fun _ => ⟨Or.inr rfl, hK⟩, fun z => absurd z (by omega)⟩⟩
    · unfold wp_end wp_isIn
      exact ⟨fun z => absurd z (by omega), fun _ => ⟨fun z => absurd z (by omega), fun _ => ⟨fun _ => hK, fun z => absurd z (by decide)⟩⟩⟩
  · refine ⟨0, σ, fun K hK => ?_, fun K hK => ?_, fun _ _ _ => rfl, rfl, ⟨h0, h8⟩⟩
    · unfold wp5_S_end wp5_T_shorten
      exact ⟨fun _ => ⟨Or.inl rfl, hK⟩, fun z => ⟨fun z2 => absurd ⟨z, z2⟩ h, fun _ => ⟨Or.inl rfl, hK⟩⟩⟩
    · unfold wp_end wp_isIn
      exact ⟨fun _ => ⟨fun z => absurd rfl z, fun _ => hK⟩, fun z => ⟨fun _ => ⟨fun z => absurd rfl z, fun _ => hK⟩, fun z2 => absurd ⟨z, z2⟩ h⟩⟩
theorem fault_both {σ : Sg} {x : Int} : ∃ r, (∀ K, K r → wp5_S_fault σ x K) ∧ ∀ K, K r → wp_fault (σ.1 2 1) (σ.1 2 2) x K := by
  obtain ⟨r, hr⟩ : ∃ r : Int, (x = 0 → r = σ.1 2 1) ∧ (x = 1 → r = σ.1 2 2) ∧ (x ≠ 0 → x ≠ 1 → r = -1) := by
    by_cases z0 : x = 0
    · exact ⟨σ.1 2 1, fun _ => rfl, fun z => by omega, fun z => absurd z0 z⟩
    · by_cases z1 : x = 1
      · exact ⟨σ.1 2 2, fun z => absurd z z0, fun _ => rfl, fun _ z => absurd z1 z⟩
      · exact ⟨-1, fun z => absurd z z0, fun z => absurd z z1, fun _ _ => rfl⟩
  refine ⟨r, fun K hK => ?_, fun K hK => ?_⟩
  · unfold wp5_S_fault
    exact ⟨fun z => ⟨fun z1 => by rw [← hr.2.2 z z1]; exact hK, fun z1 => by rw [← hr.2.1 z1]; exact hK⟩, fun z => by rw [← hr.1 z]; exact hK⟩
  · unfold wp_fault
    exact ⟨fun z => ⟨fun z1 => by rw [← hr.2.2 z z1]; exact hK, fun z1 => by rw [← hr.2.1 z1]; exact hK⟩, fun z => by rw [← hr.1 z]; exact hK⟩
def FrI (σ σ' : Sg) : Prop := σ'.1 = σ.1 ∧ (∀ a, a ≠ 69 → σ'.2.1 a = σ.2.1 a) ∧ σ'.2.2.1 = σ.2.2.1 ∧ (∀ c, c ≠ 1 → σ'.2.2.2 c = σ.2.2.2 c) ∧ ∀ k : Int, (k < 0 ∨ 5 < k) → σ'.2.1 69 k = σ.2.1 69 k
/-- the items of both -/
def IL (σ : Sg) (items : Int → Int) : Prop := ∀ k, 0 ≤ k → k ≤ 5 → ∀ i, 0 ≤ i → i < σ.2.1 69 k → items (8 * k + i) = σ.2.2.2 1 k i
theorem beqF {a b : Nat} (z : a ≠ b) : Nat.beq a b = false := Bool.eq_false_iff.mpr (fun q => z (Nat.eq_of_beq_eq_true q))
theorem clear_both {σ : Sg} {items : Int → Int} {x : Int} (hI : IW (σ.1 0 1) items (σ.2.1 69)) :
    ∃ r σ', (∀ K, K r σ' → wp5_S_clear σ x K) ∧ (∀ K, K r (σ'.2.1 69) → wp_clear (σ.2.1 69) x K) ∧ FrI σ σ' ∧ IW (σ'.1 0 1) items (σ'.2.1 69) ∧ (IL σ items → IL σ' items) := by
  by_cases h : 0 ≤ x ∧ x ≤ 5
  · have e69 : (pF σ 69 (uZ (σ.2.1 69) x 0)).2.1 69 = uZ (σ.2.1 69) x 0 := rfl
    refine ⟨1, pF σ 69 (uZ (σ.2.1 69) x 0), fun K hK => ?_, fun K hK => ?_, ⟨rfl, fun a z => ?_, rfl, fun _ _ => rfl, fun k z => uZ_ne (f := σ.2.1 69) (n := x) (v := 0) (m := k) (by omega)⟩, fun k k0 k5 => ?_, fun hL k k0 k5 i i0 i1 => ?_⟩
    · unfold wp5_S_clear wp5_P_dropItems wp5_P_isPass
      exact ⟨fun z => absurd z (by omega), fun _ => ⟨fun z => absurd z (by omega), fun _ => ⟨fun _ => ⟨⟨by omega, by omega⟩, Or.inr rfl, hK⟩, fun z => absurd z (by decide)⟩⟩⟩
    · unfold wp_clear wp_isPass wp_isIn
      exact ⟨fun z => absurd z (by omega), fun _ => ⟨fun z => absurd z (by omega), fun _ => ⟨Or.inr rfl, fun _ => ⟨⟨by omega, by omega⟩, hK⟩, fun z => absurd z (by decide)⟩⟩⟩
    · show (bif Nat.beq a 69 then _ else σ.2.1 a) = _
      rw [beqF z]; rfl
    · show 0 ≤ uZ (σ.2.1 69) x 0 k ∧ uZ (σ.2.1 69) x 0 k ≤ 8 ∧ ∀ i, 0 ≤ i → i < uZ (σ.2.1 69) x 0 k → (0 ≤ items (8 * k + i) ∧ items (8 * k + i) < σ.1 0 1) ∨ (20 ≤ items (8 * k + i) ∧ items (8 * k + i) ≤ 24)
      by_cases q : k = x
      · rw [q, uZ_eq]
        exact ⟨by omega, by omega, fun i i0 i1 => by omega⟩
      · rw [uZ_ne q]; exact hI k k0 k5
    · rw [e69] at i1
      by_cases q : k = x
      · rw [q, uZ_eq] at i1; omega
      · rw [uZ_ne q] at i1; exact hL k k0 k5 i i0 i1
  · refine ⟨0, σ, fun K hK => ?_, fun K hK => ?_, ⟨rfl, fun _ _ => rfl, rfl, fun _ _ => rfl, fun _ _ => rfl⟩, hI, fun q => q⟩
    · unfold wp5_S_clear wp5_P_dropItems wp5_P_isPass
      exact ⟨fun _ => ⟨fun z => absurd rfl z, fun _ => ⟨Or.inl rfl, hK⟩⟩, fun z => ⟨fun _ => ⟨fun z => absurd rfl z, fun _ => ⟨Or.inl rfl, hK⟩⟩, fun z2 => absurd (show 0 ≤ x ∧ x ≤ 5 by omega) h⟩⟩
    · unfold wp_clear wp_isPass wp_isIn
      exact ⟨fun _ => ⟨Or.inl rfl, fun z => absurd rfl z, fun _ => hK⟩, fun z => ⟨fun _ => ⟨Or.inl rfl, fun z => absurd rfl z, fun _ => hK⟩, fun z2 => absurd ⟨z, z2⟩ h⟩⟩
theorem item_both {σ : Sg} {items : Int → Int} {x y : Int} (hI : IW (σ.1 0 1) items (σ.2.1 69)) (hr : 0 ≤ σ.1 0 1 ∧ σ.1 0 1 ≤ 12) :
    ∃ r σ' items', (∀ K, K r σ' → wp5_S_item σ x y K) ∧ (∀ K, K r items' (σ'.2.1 69) → wp_item (σ.1 0 1) items (σ.2.1 69) x y K) ∧ FrI σ σ' ∧ IW (σ'.1 0 1) items' (σ'.2.1 69) ∧ (IL σ items → IL σ' items') := by
  have no : (¬ ((0 ≤ x ∧ x ≤ 5) ∧ ((0 ≤ y ∧ y < σ.1 0 1) ∨ (20 ≤ y ∧ y ≤ 24))) ∨ (0 ≤ x ∧ x ≤ 5 ∧ σ.2.1 69 x = 8)) → ∃ r σ' items', (∀ K, K r σ' → wp5_S_item σ x y K) ∧ (∀ K, K r items' (σ'.2.1 69) → wp_item (σ.1 0 1) items (σ.2.1 69) x y K) ∧ FrI σ σ' ∧ IW (σ'.1 0 1) items' (σ'.2.1 69) ∧ (IL σ items → IL σ' items') := by
    intro h
    refine ⟨-1, σ, items, fun K hK => ?_, fun K hK => ?_, ⟨rfl, fun _ _ => rfl, rfl, fun _ _ => rfl, fun _ _ => rfl⟩, hI, fun q => q⟩
    · have p : ∀ s, (s ≠ 0 → ((0 ≤ y ∧ y < σ.1 0 1) ∨ (20 ≤ y ∧ y ≤ 24))) → True := fun _ _ => trivial
      have h48 : ((0 ≤ y ∧ y < σ.1 0 1) ∨ (20 ≤ y ∧ y ≤ 24)) → wp5_S_item_48 K σ x y := by
        intro hy
        unfold wp5_S_item_48 wp5_P_addItem wp5_P_isPass
        refine ⟨fun z => ⟨fun _ => hK, fun z => absurd rfl z⟩, fun z => ⟨fun _ => ⟨fun _ => hK, fun z => absurd rfl z⟩, fun z2 => ⟨fun z => absurd z (by decide), fun _ => ⟨⟨by omega, by omega⟩, fun z3 => ?_, fun _ => hK⟩⟩⟩⟩
        rcases h with h | h
        · exact absurd ⟨⟨z, by omega⟩, hy⟩ h
        · omega
      have h35 : ∀ s1 s2, (s1 ≠ 0 → (0 ≤ y ∧ y < σ.1 0 1)) → (s2 ≠ 0 → (20 ≤ y ∧ y ≤ 24)) → wp5_S_item_35 K σ x y s1 s2 := by
        intro s1 s2 a1 a2
        unfold wp5_S_item_35
        exact ⟨fun z => h48 (Or.inl (a1 z)), fun _ => ⟨fun z => h48 (Or.inr (a2 z)), fun _ => hK⟩⟩
      have h17 : ∀ s1, (s1 ≠ 0 → (0 ≤ y ∧ y < σ.1 0 1)) → wp5_S_item_17 K σ x y s1 := by
        intro s1 a1
        unfold wp5_S_item_17 wp5_S_item_34
        exact ⟨fun _ => h35 _ _ a1 (fun z => absurd rfl z), fun z => ⟨fun _ => h35 _ _ a1 (fun z => absurd rfl z), fun z2 => h35 _ _ a1 (fun _ => ⟨z, z2⟩)⟩⟩
      unfold wp5_S_item wp5_S_item_16
      exact ⟨fun _ => h17 0 (fun z => absurd rfl z), fun z => ⟨fun _ => h17 0 (fun z => absurd rfl z), fun z2 => h17 1 (fun _ => ⟨z, z2⟩)⟩⟩
    · have h32 : (0 ≤ x ∧ x ≤ 5) → ((0 ≤ y ∧ y < σ.1 0 1) ∨ (20 ≤ y ∧ y ≤ 24)) → wp_item_32 K items (σ.2.1 69) x y := by
        intro hx hy
        unfold wp_item_32
        refine ⟨⟨by omega, by omega⟩, fun z => ?_, fun _ => hK⟩
        rcases h with h | h
        · exact absurd ⟨hx, hy⟩ h
        · exact absurd h.2.2 z
      have in2 : (0 ≤ x ∧ x ≤ 5) → wp_isIn y 20 24 (fun r26 => (r26 = 0 → K (-1) items (σ.2.1 69)) ∧ (r26 ≠ 0 → wp_item_32 K items (σ.2.1 69) x y)) := by
        intro hx
        unfold wp_isIn
        exact ⟨fun _ => ⟨fun _ => hK, fun z => absurd rfl z⟩, fun z => ⟨fun _ => ⟨fun _ => hK, fun z => absurd rfl z⟩, fun z2 => ⟨fun z => absurd z (by decide), fun _ => h32 hx (Or.inr ⟨z, z2⟩)⟩⟩⟩
      unfold wp_item wp_isPass
      refine ⟨fun z => ⟨Or.inl rfl, fun _ => hK, fun z => absurd rfl z⟩, fun z => ⟨fun _ => ⟨Or.inl rfl, fun _ => hK, fun z => absurd rfl z⟩, fun z2 => ⟨Or.inr rfl, fun z => absurd z (by decide), fun _ => ⟨⟨by omega, by omega⟩, fun _ => ⟨fun z => absurd rfl z, fun _ => in2 ⟨z, z2⟩⟩, fun y0 => ⟨fun _ => ⟨fun z => absurd rfl z, fun _ => in2 ⟨z, z2⟩⟩, fun y1 => ⟨fun _ => h32 ⟨z, z2⟩ (Or.inl ⟨y0, by omega⟩), fun z => absurd z (by decide)⟩⟩⟩⟩⟩⟩
  by_cases h : (0 ≤ x ∧ x ≤ 5) ∧ ((0 ≤ y ∧ y < σ.1 0 1) ∨ (20 ≤ y ∧ y ≤ 24))
  · obtain ⟨hx, hy⟩ := h
    have hc := hI x hx.1 hx.2
    by_cases h8 : σ.2.1 69 x = 8
    · exact no (Or.inr ⟨hx.1, hx.2, h8⟩)
    · obtain ⟨σ', e'⟩ : ∃ σ', σ' = pF (pZ σ 1 x (uZ (σ.2.2.2 1 x) (σ.2.1 69 x) y)) 69 (uZ (σ.2.1 69) x (σ.2.1 69 x + 1)) := ⟨_, rfl⟩
      have e69 : σ'.2.1 69 = uZ (σ.2.1 69) x (σ.2.1 69 x + 1) := by rw [e']; rfl
      have eit : ∀ k, σ'.2.2.2 1 k = uF (σ.2.2.2 1) x (uZ (σ.2.2.2 1 x) (σ.2.1 69 x) y) k := fun k => by rw [e']; rfl
      refine ⟨uZ (σ.2.1 69) x (σ.2.1 69 x + 1) x, σ', uZ items (8 * x + σ.2.1 69 x) y, fun K hK => ?_, fun K hK => ?_, ⟨by rw [e']; rfl, fun a z => ?_, by rw [e']; rfl, fun c z => ?_, fun k z => by rw [e69]; exact uZ_ne (by omega)⟩, fun k k0 k5 => ?_, fun hL k k0 k5 i i0 i1 => ?_⟩
      · have h48 : wp5_S_item_48 K σ x y := by
          unfold wp5_S_item_48 wp5_P_addItem wp5_P_isPass
          rw [e'] at hK
          exact ⟨fun z => absurd z (by omega), fun _ => ⟨fun z => absurd z (by omega), fun _ => ⟨fun z => absurd z (by decide), fun _ => ⟨⟨by omega, by omega⟩, fun _ => ⟨⟨by omega, by omega⟩, ⟨by omega, by omega⟩, hK⟩, fun z => absurd z (by omega)⟩⟩⟩⟩
        unfold wp5_S_item wp5_S_item_16 wp5_S_item_17 wp5_S_item_34 wp5_S_item_35
        have y1 : ((1 : Int) ≠ 0 → wp5_S_item_48 K σ x y) := fun _ => h48
        refine ⟨fun z => ⟨fun z2 => False.elim (by omega), fun z2 => ⟨fun z3 => False.elim (by omega), fun z3 => ⟨fun _ => h48, fun _ => ⟨fun _ => h48, fun z => absurd z (by decide)⟩⟩⟩⟩, fun z => ⟨fun z1 => ⟨fun z2 => False.elim (by omega), fun z2 => ⟨fun z3 => False.elim (by omega), fun z3 => ⟨fun _ => h48, fun _ => ⟨fun _ => h48, fun z => absurd z (by decide)⟩⟩⟩⟩, fun z1 => ⟨fun z2 => ⟨fun _ => h48, fun z => absurd z (by decide)⟩, fun z2 => ⟨fun z3 => ⟨fun _ => h48, fun z => absurd z (by decide)⟩, fun z3 => ⟨fun _ => h48, fun z => absurd z (by decide)⟩⟩⟩⟩⟩
      · have h32 : wp_item_32 K items (σ.2.1 69) x y := by
          unfold wp_item_32
          rw [e69] at hK
          exact ⟨⟨by omega, by omega⟩, fun _ => ⟨⟨by omega, by omega⟩, ⟨by omega, by omega⟩, ⟨by omega, by omega⟩, ⟨by omega, by omega⟩, ⟨by omega, by omega⟩, ⟨by omega, by omega⟩, hK⟩, fun z => absurd z h8⟩
        unfold wp_item wp_isPass wp_isIn
        have i2 : (y < 20 → (0 : Int) = 0 → K (-1) items (σ.2.1 69)) → True := fun _ => trivial
        refine ⟨fun z => absurd z (by omega), fun _ => ⟨fun z => absurd z (by omega), fun _ => ⟨Or.inr rfl, fun z => absurd z (by decide), fun _ => ⟨⟨by omega, by omega⟩, fun y0 => ⟨fun z => absurd rfl z, fun _ => ⟨fun z => False.elim (by omega), fun z => ⟨fun z => False.elim (by omega), fun _ => ⟨fun z => absurd z (by decide), fun _ => h32⟩⟩⟩⟩, fun y0 => ⟨fun y1 => ⟨fun z => absurd rfl z, fun _ => ⟨fun z => False.elim (by omega), fun z => ⟨fun z => False.elim (by omega), fun _ => ⟨fun z => absurd z (by decide), fun _ => h32⟩⟩⟩⟩, fun y1 => ⟨fun _ => h32, fun z => absurd z (by decide)⟩⟩⟩⟩⟩⟩
      · rw [e']
        show (bif Nat.beq a 69 then _ else σ.2.1 a) = _
        rw [beqF z]; rfl
      · rw [e']
        show (bif Nat.beq c 1 then _ else σ.2.2.2 c) = _
        rw [beqF z]; rfl
      · have e01 : σ'.1 0 1 = σ.1 0 1 := by rw [e']; rfl
        rw [e69, e01]
        have hk := hI k k0 k5
        by_cases q : k = x
        · rw [q, uZ_eq]
          refine ⟨by omega, by omega, fun i i0 i1 => ?_⟩
          by_cases qi : i = σ.2.1 69 x
          · rw [qi, uZ_eq]
            rcases hy with hy | hy
            · exact Or.inl hy
            · exact Or.inr hy
          · rw [uZ_ne (by omega)]; exact hc.2.2 i i0 (by omega)
        · rw [uZ_ne q]
          refine ⟨hk.1, hk.2.1, fun i i0 i1 => ?_⟩
          rw [uZ_ne (by omega)]; exact hk.2.2 i i0 i1
      · rw [e69] at i1
        rw [eit]
        have hk := hI k k0 k5
        by_cases q : k = x
        · rw [q, uZ_eq] at i1
          rw [q, uF_eq]
          by_cases qi : i = σ.2.1 69 x
          · rw [qi, uZ_eq, uZ_eq]
          · rw [uZ_ne (by omega), uZ_ne qi]; exact hL x hx.1 hx.2 i i0 (by omega)
        · rw [uZ_ne q] at i1
          rw [uF_ne q, uZ_ne (by omega)]
          exact hL k k0 k5 i i0 i1
  · exact no (Or.inl h)
