-- ===== rule(): class and reference
theorem pY_pY {σ : Sg} {c : Nat} {n a b : Int} : pY (pY σ c n a) c n b = pY σ c n b := by
  refine Prod.ext rfl (Prod.ext rfl (Prod.ext ?_ rfl))
  funext x
  show (bif Nat.beq x c then uZ (bif Nat.beq c c then uZ (σ.2.2.1 c) n a else σ.2.2.1 c) n b else bif Nat.beq x c then uZ (σ.2.2.1 c) n a else σ.2.2.1 x) = bif Nat.beq x c then uZ (σ.2.2.1 c) n b else σ.2.2.1 x
  rw [Nat.beq_refl]
  cases Nat.beq x c
  · rfl
  · funext j
    show uZ (uZ (σ.2.2.1 c) n a) n b j = uZ (σ.2.2.1 c) n b j
    unfold uZ
    by_cases h : j = n
    · rw [if_pos h, if_pos h]
    · rw [if_neg h, if_neg h, if_neg h]
def lf (g : Int → Int) : Nat → Int
  | 0 => 0
  | k + 1 => if 20 ≤ g k ∧ g k < 23 then zior (lf g k) (zishl 1 (g k - 20)) else zior (lf g k) 0
theorem lf_spec (g : Int → Int) : ∀ k : Nat, (0 ≤ lf g k ∧ lf g k ≤ 7) ∧ ∀ b, 0 ≤ b → b < 3 → (bitR (lf g k) b ↔ ∃ j, 0 ≤ j ∧ j < k ∧ g j = 20 + b)
  | 0 => ⟨by show (0 : Int) ≤ 0 ∧ (0 : Int) ≤ 7; decide, fun b b0 b3 => ⟨fun q => absurd q (bit_0 b ⟨b0, b3⟩).2, fun ⟨j, j0, j1, _⟩ => by omega⟩⟩
  | k + 1 => by
    obtain ⟨h1, h2⟩ := lf_spec g k
    unfold lf
    by_cases c : 20 ≤ g k ∧ g k < 23
    · rw [if_pos c]
      refine ⟨(bit_or h1 (a := g k - 20) (by omega) (b := g k - 20) (by omega)).2.2, fun b b0 b3 => ((bit_or h1 (a := g k - 20) (by omega) ⟨b0, b3⟩).2.1).trans ⟨fun q => ?_, fun ⟨j, j0, j1, j2⟩ => ?_⟩⟩
      · rcases q with q | q
        · exact ⟨k, by omega, by omega, by omega⟩
        · obtain ⟨j, j0, j1, j2⟩ := (h2 b b0 b3).mp q
          exact ⟨j, j0, by omega, j2⟩
      · by_cases e : j = k
        · rw [e] at j2; exact Or.inl (by omega)
        · exact Or.inr ((h2 b b0 b3).mpr ⟨j, j0, by omega, j2⟩)
    · rw [if_neg c, bit_or0 h1]
      refine ⟨h1, fun b b0 b3 => (h2 b b0 b3).trans ⟨fun ⟨j, j0, j1, j2⟩ => ⟨j, j0, by omega, j2⟩, fun ⟨j, j0, j1, j2⟩ => ?_⟩⟩
      by_cases e : j = k
      · rw [e] at j2; omega
      · exact ⟨j, j0, by omega, j2⟩
theorem note_at {τ : Sg} {r : Int} (h0 : 0 ≤ τ.2.2.1 0 (11 + 2 * r)) (h1 : τ.2.2.1 0 (11 + 2 * r) ≤ capI (11 + 2 * r)) {P : Sg → Prop} (h : P (pY τ 1 r (lf (τ.2.2.2 0 (11 + 2 * r)) (τ.2.2.1 0 (11 + 2 * r)).toNat))) : wp5_U_noteLetters τ r P := by
  have hc := capI_pos (11 + 2 * r)
  unfold wp5_U_noteLetters
  refine wl2_rule (fun k s => 0 ≤ k ∧ k ≤ τ.2.2.1 0 (11 + 2 * r) ∧ s = pY τ 1 r (lf (τ.2.2.2 0 (11 + 2 * r)) k.toNat)) (fun k _ => (τ.2.2.1 0 (11 + 2 * r) - k).toNat) ?_ ⟨by omega, h0, rfl⟩
  intro Q k s ⟨k0, k1, e⟩ ih
  subst e
  unfold wp5_U_noteLetters_7
  refine ⟨fun z => ?_, fun z => ?_⟩
  · have z : τ.2.2.1 0 (11 + 2 * r) ≤ k := z
    have e : k = τ.2.2.1 0 (11 + 2 * r) := by omega
    rw [e]; exact h
  · have z : k < τ.2.2.1 0 (11 + 2 * r) := z
    unfold wp5_W_cell
    refine ⟨fun y => absurd y (by omega), fun _ => ⟨fun y => absurd y (by show ¬ τ.2.2.1 0 (11 + 2 * r) ≤ k; omega), fun _ => ⟨⟨k0, by omega⟩, ?_⟩⟩⟩
    have ek : ((k.toNat : Nat) : Int) = k := Int.toNat_of_nonneg k0
    have go : ∀ v, lf (τ.2.2.2 0 (11 + 2 * r)) (k + 1).toNat = zior (lf (τ.2.2.2 0 (11 + 2 * r)) k.toNat) v → rng (k + 1) ∧ Q (k + 1) (pY (pY τ 1 r (lf (τ.2.2.2 0 (11 + 2 * r)) k.toNat)) 1 r (zior ((pY τ 1 r (lf (τ.2.2.2 0 (11 + 2 * r)) k.toNat)).2.2.1 1 r) v)) := fun v hv => ⟨⟨by omega, by omega⟩, ih _ _ ⟨by omega, by omega, by rw [pY_pY, show (pY τ 1 r (lf (τ.2.2.2 0 (11 + 2 * r)) k.toNat)).2.2.1 1 r = lf (τ.2.2.2 0 (11 + 2 * r)) k.toNat from uZ_eq, hv]⟩ (by omega)⟩
    have el : lf (τ.2.2.2 0 (11 + 2 * r)) (k + 1).toNat = if 20 ≤ τ.2.2.2 0 (11 + 2 * r) k ∧ τ.2.2.2 0 (11 + 2 * r) k < 23 then zior (lf (τ.2.2.2 0 (11 + 2 * r)) k.toNat) (zishl 1 (τ.2.2.2 0 (11 + 2 * r) k - 20)) else zior (lf (τ.2.2.2 0 (11 + 2 * r)) k.toNat) 0 := by
      rw [show (k + 1).toNat = k.toNat + 1 by omega]
      show (if 20 ≤ τ.2.2.2 0 (11 + 2 * r) ((k.toNat : Nat) : Int) ∧ τ.2.2.2 0 (11 + 2 * r) ((k.toNat : Nat) : Int) < 23 then zior (lf (τ.2.2.2 0 (11 + 2 * r)) k.toNat) (zishl 1 (τ.2.2.2 0 (11 + 2 * r) ((k.toNat : Nat) : Int) - 20)) else zior (lf (τ.2.2.2 0 (11 + 2 * r)) k.toNat) 0) = _
      rw [ek]
    show wp5_U_letterOf (τ.2.2.2 0 (11 + 2 * r) k) _
    unfold wp5_U_letterOf
    refine ⟨fun y => ⟨fun q => absurd rfl q, fun _ => go 0 ?_⟩, fun y => ⟨fun y2 => ⟨fun q => absurd rfl q, fun _ => go 0 ?_⟩, fun y2 => ⟨⟨by omega, by omega⟩, ⟨fun _ => go _ ?_, fun q => absurd q (by omega)⟩⟩⟩⟩
    · rw [el, if_neg (by omega)]
    · rw [el, if_neg (by omega)]
    · rw [el, if_pos (by omega)]
/-- the state in which rule r is begun -/
def bg0 (σ : Sg) (r : Int) : Sg := pU (pU (pU (pU (pU (pU (pU (pU (pU (pY (pU (pU (pU (pY (pY (pY σ 0 (11 + 2 * r) 0) 0 (12 + 2 * r) 0) 1 r 0) 2 1 0) 2 2 (-1)) 2 3 (11 + 2 * r)) 0 (11 + 2 * r) 0) 2 4 r) 2 7 0) 2 8 0) 2 9 40) 2 13 0) 3 5 0) 3 4 0) 3 2 0) 3 3 0
def bgS (σ : Sg) (r : Int) : Sg := pU (pU (pU (pU (bg0 σ r) 2 6 3) 2 10 ((bg0 σ r).2.2.1 0 (11 + 2 * r))) 2 11 ((bg0 σ r).2.2.1 0 (11 + 2 * r))) 2 5 5
theorem begin_at {σ : Sg} {r : Int} (hr : 0 ≤ r ∧ r < 12) {P : Sg → Prop} (h : P (bgS σ r)) : wp5_R_beginRule σ r P := by
  unfold wp5_R_beginRule wp5_U_forget wp5_R_begin wp5_T_rewind wp5_R_beginExpression
  exact ⟨by show 0 ≤ 11 + 2 * r ∧ 11 + 2 * r < 35; omega, h⟩
theorem bg_left (σ : Sg) (r : Int) : (bgS σ r).2.2.1 0 (11 + 2 * r) = 0 := by
  show uZ _ (11 + 2 * r) 0 (11 + 2 * r) = 0
  exact uZ_eq
theorem bg0_left (σ : Sg) (r : Int) : (bg0 σ r).2.2.1 0 (11 + 2 * r) = 0 := bg_left σ r
theorem bg_right (σ : Sg) (r : Int) : (bgS σ r).2.2.1 0 (12 + 2 * r) = 0 := by
  show uZ (uZ (uZ (σ.2.2.1 0) (11 + 2 * r) 0) (12 + 2 * r) 0) (11 + 2 * r) 0 (12 + 2 * r) = 0
  rw [uZ_ne (by omega), uZ_eq]
theorem bg_row (σ : Sg) {r n : Int} (h1 : n ≠ 11 + 2 * r) (h2 : n ≠ 12 + 2 * r) : (bgS σ r).2.2.1 0 n = σ.2.2.1 0 n := by
  show uZ (uZ (uZ (σ.2.2.1 0) (11 + 2 * r) 0) (12 + 2 * r) 0) (11 + 2 * r) 0 n = _
  rw [uZ_ne h1, uZ_ne h2, uZ_ne h1]
theorem bg_let (σ : Sg) {r n : Int} (h : n ≠ r) : (bgS σ r).2.2.1 1 n = σ.2.2.1 1 n := by
  show uZ (σ.2.2.1 1) r 0 n = _
  exact uZ_ne h
theorem cap_rule {r : Int} (h : 0 ≤ r) : capI (11 + 2 * r) = 40 ∧ capI (12 + 2 * r) = 40 := by
  unfold capI
  exact ⟨by rw [if_neg (by omega), if_neg (by omega)], by rw [if_neg (by omega), if_neg (by omega)]⟩
/-- the class's end of reading -/
theorem read_fault {K : Int → Sg → Prop} {i : Int} {σ σ' : Sg} (hf : σ'.1 2 1 ≠ 0) (hl : 0 ≤ σ'.1 3 1) (cs : CS K 0 σ i σ') (h : K 0 (pU σ' 3 1 0)) : wp5_R_readAll σ K := by
  unfold wp5_R_readAll
  intro L hL
  refine cs K L hL (hL _ _ ?_)
  have e : wp5_R_readAll_140 K σ' := by
    unfold wp5_R_readAll_140 wp5_T_shorten
    exact ⟨fun z => absurd z (by decide), fun _ => ⟨fun _ => ⟨fun _ => h, fun z => absurd z hf⟩, fun z => absurd z (by omega)⟩⟩
  unfold wp5_R_readAll_2
  exact ⟨fun _ => e, fun _ => ⟨fun _ => e, fun z => absurd z hf⟩⟩
theorem read_over {K : Int → Sg → Prop} {i : Int} {σ σ' : Sg} (hf : σ'.1 2 1 = 0) (hk : σ'.1 3 2 = 1) (hl : 0 ≤ σ'.1 3 1) (cs : CS K 0 σ i σ') (h : K 1 (pU σ' 3 1 0)) : wp5_R_readAll σ K := by
  unfold wp5_R_readAll
  intro L hL
  refine cs K L hL (hL _ _ ?_)
  have e : wp5_R_readAll_140 K σ' := by
    unfold wp5_R_readAll_140 wp5_T_shorten
    exact ⟨fun z => absurd z (by decide), fun _ => ⟨fun _ => ⟨fun z => absurd hf z, fun _ => h⟩, fun z => absurd z (by omega)⟩⟩
  unfold wp5_R_readAll_2
  exact ⟨fun _ => e, fun _ => ⟨fun z => absurd hf z, fun _ => ⟨fun _ => e, fun z => absurd hk z⟩⟩⟩
/-- what rule() leaves as it was, for rule r -/
def FrR (r : Int) (σ σ' : Sg) : Prop :=
  (∀ a b, a ≠ 2 → a ≠ 3 → σ'.1 a b = σ.1 a b) ∧ (∀ a, a ≠ 5 → a ≠ 6 → a ≠ 7 → σ'.2.1 a = σ.2.1 a) ∧
  (∀ n, n ≠ 11 + 2 * r → n ≠ 12 + 2 * r → σ'.2.2.1 0 n = σ.2.2.1 0 n ∧ σ'.2.2.2 0 n = σ.2.2.2 0 n) ∧ (∀ n, n ≠ r → σ'.2.2.1 1 n = σ.2.2.1 1 n) ∧ (∀ c, c ≠ 0 → c ≠ 1 → σ'.2.2.1 c = σ.2.2.1 c) ∧ (∀ c, c ≠ 0 → σ'.2.2.2 c = σ.2.2.2 c)
theorem FrR.trans {r : Int} {a b c : Sg} (h : FrR r a b) (h' : FrR r b c) : FrR r a c :=
  ⟨fun x y z1 z2 => (h'.1 x y z1 z2).trans (h.1 x y z1 z2), fun x z1 z2 z3 => (h'.2.1 x z1 z2 z3).trans (h.2.1 x z1 z2 z3), fun n z1 z2 => ⟨(h'.2.2.1 n z1 z2).1.trans (h.2.2.1 n z1 z2).1, (h'.2.2.1 n z1 z2).2.trans (h.2.2.1 n z1 z2).2⟩, fun n z => (h'.2.2.2.1 n z).trans (h.2.2.2.1 n z), fun c z1 z2 => (h'.2.2.2.2.1 c z1 z2).trans (h.2.2.2.2.1 c z1 z2), fun c z => (h'.2.2.2.2.2 c z).trans (h.2.2.2.2.2 c z)⟩
theorem FrR.bg (σ : Sg) (r : Int) : FrR r σ (bgS σ r) :=
  ⟨fun a b z1 z2 => by
    show (bgS σ r).1 a b = _
    unfold bgS bg0
    rw [pU_ne (Or.inl z1), pU_ne (Or.inl z1), pU_ne (Or.inl z1), pU_ne (Or.inl z1), pU_ne (Or.inl z2), pU_ne (Or.inl z2), pU_ne (Or.inl z2), pU_ne (Or.inl z2), pU_ne (Or.inl z1), pU_ne (Or.inl z1), pU_ne (Or.inl z1), pU_ne (Or.inl z1), pU_ne (Or.inl z1)]
    show (pU (pU (pU σ 2 1 0) 2 2 (-1)) 2 3 (11 + 2 * r)).1 a b = _
    rw [pU_ne (Or.inl z1), pU_ne (Or.inl z1), pU_ne (Or.inl z1)], fun _ _ _ _ => rfl, fun n z1 z2 => ⟨bg_row σ z1 z2, rfl⟩, fun n z => bg_let σ z, fun c z1 z2 => by
    show (bif Nat.beq c 0 then _ else bif Nat.beq c 1 then _ else bif Nat.beq c 0 then _ else bif Nat.beq c 0 then _ else σ.2.2.1 c) = _
    rw [show Nat.beq c 0 = false from Bool.eq_false_iff.mpr (fun q => z1 (Nat.eq_of_beq_eq_true q)), show Nat.beq c 1 = false from Bool.eq_false_iff.mpr (fun q => z2 (Nat.eq_of_beq_eq_true q))]; rfl, fun _ _ => rfl⟩
theorem FrR.of {r d b0 : Int} {σ σ' : Sg} (hr : σ.1 2 3 = 11 + 2 * r ∨ σ.1 2 3 = 12 + 2 * r) (h : Fr d b0 σ σ') : FrR r σ σ' :=
  ⟨fun a b z1 z2 => h.1 a b (Or.inl ⟨z1, z2⟩), h.2.1, fun n z1 z2 => h.2.2.2.1 n (by omega), fun n _ => by rw [(h.2.2.2.2.1 1 (by decide)).1], fun c z1 _ => (h.2.2.2.2.1 c z1).1, fun c z => (h.2.2.2.2.1 c z).2⟩
