def RdOk (σ : Sg) : Prop := (0 ≤ σ.1 2 7 ∧ σ.1 2 7 ≤ 40) ∧ (0 ≤ σ.1 2 9 ∧ σ.1 2 9 ≤ 1000) ∧ 0 ≤ σ.1 2 13 ∧ σ.1 2 13 ≤ 8
def RowOk (_ : Sg) : Prop := ∀ n : Int, 0 ≤ n → n < 35 → True
/-- as FrR, but for the number of RULES -/
def FrQ (r : Int) (σ σ' : Sg) : Prop :=
  (∀ a b, a ≠ 2 → a ≠ 3 → (a ≠ 0 ∨ b ≠ 1) → σ'.1 a b = σ.1 a b) ∧ (∀ a, a ≠ 5 → a ≠ 6 → a ≠ 7 → σ'.2.1 a = σ.2.1 a) ∧
  (∀ n, n ≠ 11 + 2 * r → n ≠ 12 + 2 * r → σ'.2.2.1 0 n = σ.2.2.1 0 n ∧ σ'.2.2.2 0 n = σ.2.2.2 0 n) ∧ (∀ n, n ≠ r → σ'.2.2.1 1 n = σ.2.2.1 1 n) ∧ (∀ c, c ≠ 0 → c ≠ 1 → σ'.2.2.1 c = σ.2.2.1 c) ∧ (∀ c, c ≠ 0 → σ'.2.2.2 c = σ.2.2.2 c)
def PostR (σ σ' : Sg) : Prop := σ'.1 3 1 = 0 ∧ (σ.1 0 1 ≤ σ'.1 0 1 ∧ σ'.1 0 1 ≤ 12) ∧ FrQ (σ.1 0 1) σ σ' ∧ RdOk σ' ∧ RowOk σ'
theorem FrQ.of {r : Int} {σ σ' τ : Sg} (h : FrR r σ τ) (h1 : ∀ a b, a ≠ 2 → a ≠ 3 → (a ≠ 0 ∨ b ≠ 1) → σ'.1 a b = τ.1 a b) (h2 : σ'.2 = τ.2) : FrQ r σ σ' := by
  refine ⟨fun a b z1 z2 z3 => (h1 a b z1 z2 z3).trans (h.1 a b z1 z2), ?_⟩
  rw [h2]; exact h.2
section RB
variable {K0 : Int → Sg → Prop} {σ : Sg} {r : Int}
/-- the start of a rule, in step -/
theorem rule_start {fresh : Int → Int} {token tokenAt value : Int} (g : Gl (σ.2.1 4) (σ.1 3 1)) (hr : 0 ≤ r ∧ r < 12) (hva : 0 ≤ value ∧ value ≤ 9999) :
    ∃ a tk ta va, Sy 5 1 0 40 0 0 (σ.2.1 4) (σ.1 3 1) (bgS σ r) 0 fresh 0 a tk ta va 0 0 0 ∧ ∀ P : Int → Int → Int → Int → Prop, P a tk ta va → wp_next0 (σ.2.1 4) (σ.1 3 1) 0 token tokenAt value 1 P := by
  obtain ⟨k', v', pl', nx', hT'⟩ := Tk.ex (σ.2.1 4) (σ.1 3 1) 1 0 0
  obtain ⟨tk', va', hR', hv', hb', ev⟩ := next0_at (t2 := σ.2.1 4) (tk := token) (ta := tokenAt) (va := value) (by omega) g.1 g.2.1 g.2.2 hT'
  have cr := cap_rule hr.1
  refine ⟨nx', tk', pl', va', ⟨rfl, ⟨⟨rfl, by show (0 : Int) ≠ 1; decide, rfl⟩, ⟨rfl, rfl⟩, ⟨by omega, by show (0 : Int) ≤ 0; omega, by show (0 : Int) ≤ σ.1 3 1; exact g.1⟩, ⟨hr.2, Or.inr ⟨rfl, hr.1⟩⟩, ⟨k', v', hT', hR', hv'⟩, (hb' hva).1, (hb' hva).2⟩, ?_, ?_, ?_⟩, ev⟩
  · refine ⟨⟨by show 0 ≤ 11 + 2 * r; omega, by show 11 + 2 * r < 35; omega⟩, ⟨by omega, by omega, by omega, ?_⟩, ?_, fun j z1 z2 => ?_⟩
    · show 0 ≤ (bg0 σ r).2.2.1 0 (11 + 2 * r)
      rw [bg0_left]; omega
    · show 0 = 0 + (bgS σ r).2.2.1 0 (11 + 2 * r)
      rw [bg_left]; omega
    · have z2 : j < (bgS σ r).2.2.1 0 (11 + 2 * r) := z2
      rw [bg_left] at z2; omega
  · unfold Ct
    show (0 = 0 ∧ (0 : Int) ≤ 0 ∧ (0 : Int) ≤ 8) ∧ ((0 : Int) = 0 ∧ (40 : Int) = 40 ∧ (0 : Int) ≤ 0 ∧ (0 : Int) ≤ 40 ∧ (40 : Int) ≤ 300 ∧ (bgS σ r).2.2.1 0 (11 + 2 * r) + (40 - 0) ≤ capI (11 + 2 * r)) ∧ (0 ≤ (bg0 σ r).2.2.1 0 (11 + 2 * r) ∧ (bg0 σ r).2.2.1 0 (11 + 2 * r) ≤ (bg0 σ r).2.2.1 0 (11 + 2 * r) ∧ (bg0 σ r).2.2.1 0 (11 + 2 * r) ≤ (bgS σ r).2.2.1 0 (11 + 2 * r))
    rw [bg_left, bg0_left, cr.1]
    decide
  · refine Or.inr ⟨rfl, by decide, Or.inl ⟨rfl, rfl, fun b b0 b3 => ⟨fun q => absurd q (bit_0 b ⟨b0, b3⟩).1, fun ⟨j, j0, j1, _⟩ => ?_⟩⟩⟩
    have j1 : j < (bgS σ r).2.2.1 0 (11 + 2 * r) := j1
    rw [bg_left] at j1; omega
/-- at the end of the left side: the arrow -/
theorem rule_arrow {i m a tk ta va c l : Int} {f : Int → Int} {t : Int → Int} {len : Int} (g : Gl t len) (S : Sy 6 1 0 40 0 0 t len σ i f m a tk ta va 0 c l) (hr : σ.1 2 4 = r ∧ σ.1 2 3 = 11 + 2 * r) (h0 : 0 ≤ r ∧ r < 12) (hrt : σ.2.2.1 0 (12 + 2 * r) = 0) (t9 : tk = 8) :
    ∃ σ' a' tk' ta' va', CS K0 i σ (i + 1) σ' ∧ Sy 5 1 1 40 m 0 t len σ' (i + 1) f m a' tk' ta' va' 0 c l ∧ FrR r σ σ' ∧ (σ'.1 2 3 = 12 + 2 * r ∧ σ'.1 2 10 = σ'.2.2.1 0 (σ'.1 2 3) ∧ σ'.2.2.1 0 (11 + 2 * r) = σ.2.2.1 0 (11 + 2 * r) ∧ σ'.1 2 7 = σ.1 2 7 ∧ σ'.1 2 9 = σ.1 2 9 ∧ σ'.2.2.2 0 (11 + 2 * r) = σ.2.2.2 0 (11 + 2 * r)) ∧ ∀ P : Int → Int → Int → Int → Prop, P a' tk' ta' va' → wp_next0 t len a tk ta va 1 P := by
  obtain ⟨k, v, H, hR, hv, hg⟩ := Tp.hd g S.2.1
  have cr := cap_rule h0.1
  obtain ⟨hs, hT, ⟨hq, hb, hm, hf⟩, ⟨hd, ⟨hc0, hcc⟩, hp⟩, hLe⟩ := S
  subst hc0
  have hva := hT.2.2.2.2.2
  have h35 := hT.2.2.1
  have k9 : k = 9 := by unfold RT at hR; omega
  obtain ⟨hl7, hpu, hbit⟩ : (0 ≤ l ∧ l ≤ 7) ∧ σ.1 2 6 = 3 ∧ ∀ b, 0 ≤ b → b < 3 → (bitL l b ↔ ∃ j, 0 ≤ j ∧ j < σ.2.2.1 0 (σ.1 2 3) ∧ σ.2.2.2 0 (σ.1 2 3) j = 20 + b) := by
    rcases hLe with h | ⟨_, h7, ⟨_, hp, hb⟩ | ⟨h, _⟩⟩
    · omega
    · exact ⟨h7, hp, hb⟩
    · omega
  rw [hr.2] at hbit hp hcc hm
  obtain ⟨L, eL⟩ : ∃ L, L = lf (σ.2.2.2 0 (11 + 2 * r)) (σ.2.2.1 0 (11 + 2 * r)).toNat := ⟨_, rfl⟩
  have hL := lf_spec (σ.2.2.2 0 (11 + 2 * r)) (σ.2.2.1 0 (11 + 2 * r)).toNat
  rw [← eL] at hL
  obtain ⟨τ, eτ⟩ : ∃ τ, τ = pU (pY (tpS σ k v ta a) 1 r L) 2 3 (12 + 2 * r) := ⟨_, rfl⟩
  have rl0 : τ.2.2.1 0 (12 + 2 * r) = 0 := by rw [eτ]; exact hrt
  obtain ⟨σ', e'⟩ : ∃ σ', σ' = pU (pU (pU (pU τ 2 6 4) 2 10 (τ.2.2.1 0 (12 + 2 * r))) 2 11 (τ.2.2.1 0 (12 + 2 * r))) 2 5 5 := ⟨_, rfl⟩
  have cs : CS K0 i σ (i + 1) σ' := by
    rw [e', eτ]
    refine CS_6 H hs (fun P hP => ?_)
    refine bo_out (by show σ.1 2 13 ≤ 8; omega) (fun z => absurd z (by show ¬ 0 < σ.1 2 13; omega)) ?_
    have h137 : wp5_R_endExpression_137 (fun s => P s) (tpS σ k v ta a) k := by
      unfold wp5_R_endExpression_137
      refine ⟨fun z => absurd hpu z, fun _ => ⟨fun z => absurd k9 z, fun _ => ⟨fun z => absurd z (by show ¬ σ.1 2 4 < 0; omega), fun _ => ⟨⟨by show 0 ≤ σ.1 2 4; omega, by show σ.1 2 4 < 12; omega⟩, ?_⟩⟩⟩⟩
      show wp5_U_noteLetters (tpS σ k v ta a) (σ.1 2 4) _
      rw [hr.1]
      refine note_at (by show 0 ≤ σ.2.2.1 0 (11 + 2 * r); omega) (by show σ.2.2.1 0 (11 + 2 * r) ≤ capI (11 + 2 * r); omega) ?_
      refine ⟨⟨by show 0 ≤ σ.1 2 4; omega, by show σ.1 2 4 < 12; omega⟩, ?_⟩
      unfold wp5_R_beginExpression
      show (0 ≤ 12 + 2 * σ.1 2 4 ∧ 12 + 2 * σ.1 2 4 < 35) ∧ P (pU (pU (pU (pU (pU (pY (tpS σ k v ta a) 1 r (lf (σ.2.2.2 0 (11 + 2 * r)) (σ.2.2.1 0 (11 + 2 * r)).toNat)) 2 3 (12 + 2 * σ.1 2 4)) 2 6 4) 2 10 (σ.2.2.1 0 (12 + 2 * σ.1 2 4))) 2 11 (σ.2.2.1 0 (12 + 2 * σ.1 2 4))) 2 5 5)
      rw [hr.1, ← eL]
      exact ⟨by omega, hP⟩
    unfold wp5_R_takeBehindOperand_43 wp5_R_endExpression wp5_R_endExpression_18 wp5_R_endExpression_23 wp5_R_endExpression_45 wp5_R_endExpression_103
    have n43 : k ≠ 43 := by omega
    have n45 : k ≠ 45 := by omega
    have n42 : k ≠ 42 := by omega
    have p0 : (tpS σ k v ta a).1 2 6 ≠ 0 := by show σ.1 2 6 ≠ 0; omega
    have p1 : (tpS σ k v ta a).1 2 6 ≠ 1 := by show σ.1 2 6 ≠ 1; omega
    have p2 : (tpS σ k v ta a).1 2 6 ≠ 2 := by show σ.1 2 6 ≠ 2; omega
    exact ⟨fun z => absurd z n43, fun _ => ⟨fun z => absurd z n45, fun _ => ⟨fun _ => ⟨fun z => absurd rfl z, fun _ => ⟨fun z => absurd z (by show ¬ k = 60; omega), fun _ => ⟨fun z => absurd z (by show ¬ k = 61; omega), fun _ => ⟨fun _ => ⟨fun _ => ⟨fun _ => ⟨fun _ => h137, fun z => absurd z p2⟩, fun z => absurd z p1⟩, fun z => absurd z p0⟩, fun z => absurd z (by show ¬ k = 62; omega)⟩⟩⟩⟩, fun z => absurd z n42⟩⟩⟩
  obtain ⟨a', tk', ta', va', hT', ev'⟩ := Tp.next (tk := tk) (va := va) (σ1 := σ') g H hva (by omega) (by omega) (by rw [e', eτ]; exact H.1.1) (by rw [e', eτ]; rfl) (by rw [e', eτ]; exact H.2.1.1) (by rw [e', eτ]; exact H.2.1.2.1) (by rw [e', eτ]; rfl) (by rw [e', eτ]; rfl) (by rw [e', eτ]; exact hT.1.2.2)
  have x3 : σ'.1 2 3 = 12 + 2 * r := by rw [e', eτ]; rfl
  have xl : σ'.2.2.1 0 (12 + 2 * r) = 0 := by rw [e']; exact rl0
  have x10 : σ'.1 2 10 = 0 := by rw [e']; exact rl0
  have x11 : σ'.1 2 11 = 0 := by rw [e']; exact rl0
  have ob := H.2.2.2.1
  refine ⟨σ', a', tk', ta', va', cs, ⟨by rw [e']; rfl, hT', ?_, ?_, ?_⟩, ?_, ⟨x3, by rw [x3, x10, xl], by rw [e', eτ]; rfl, by rw [e', eτ]; rfl, by rw [e', eτ]; rfl, by rw [e', eτ]; rfl⟩, ev'⟩
  · unfold Rw
    rw [x3, xl, x10]
    exact ⟨⟨by omega, by omega⟩, ⟨by omega, by omega, by omega, by omega⟩, by omega, fun j z1 z2 => by omega⟩
  · unfold Ct
    rw [x3, xl, x10, x11, cr.2, show σ'.1 2 13 = σ.1 2 13 by rw [e', eτ]; rfl, show σ'.1 2 8 = σ.1 2 8 by rw [e', eτ]; rfl, show σ'.1 2 9 = σ.1 2 9 by rw [e', eτ]; rfl]
    exact ⟨hd, ⟨rfl, hcc.1, hcc.2.1, hcc.2.2.1, hcc.2.2.2.1, by omega⟩, by omega, by omega, by omega⟩
  · refine Or.inr ⟨rfl, hl7, Or.inr ⟨rfl, by rw [e', eτ]; rfl, fun b b0 b3 => ?_⟩⟩
    have y1 : σ'.2.2.1 1 (σ'.1 2 4) = L := by
      rw [e', eτ]
      show uZ (σ.2.2.1 1) r L (σ.1 2 4) = L
      rw [hr.1]; exact uZ_eq
    rw [y1]
    refine (hbit b b0 b3).trans (Iff.trans ?_ (hL.2 b b0 b3).symm)
    exact ⟨fun ⟨j, j0, j1, j2⟩ => ⟨j.toNat, by omega, by omega, by rw [Int.toNat_of_nonneg j0]; exact j2⟩, fun ⟨j, j0, j1, j2⟩ => ⟨(j : Int), by omega, by omega, j2⟩⟩
  · rw [e', eτ]
    refine ⟨fun a b z1 z2 => ?_, fun _ _ _ _ => rfl, fun _ _ _ => ⟨rfl, rfl⟩, fun n z => uZ_ne z, fun c z1 z2 => ?_, fun _ _ => rfl⟩
    · rw [pU_ne (Or.inl z1), pU_ne (Or.inl z1), pU_ne (Or.inl z1), pU_ne (Or.inl z1), pU_ne (Or.inl z1)]
      show (tpS σ k v ta _).1 a b = _
      unfold tpS
      rw [pU_ne (Or.inl z2), pU_ne (Or.inl z2), pU_ne (Or.inl z2), pU_ne (Or.inl z2)]
    · show (bif Nat.beq c 1 then _ else σ.2.2.1 c) = _
      rw [show Nat.beq c 1 = false from Bool.eq_false_iff.mpr (fun q => z2 (Nat.eq_of_beq_eq_true q))]; rfl
/-- at the end of a side: what can't stand there -/
theorem rule_bad {rt off i m a tk ta va c l : Int} {f : Int → Int} {t : Int → Int} {len : Int} (g : Gl t len) (S : Sy 6 1 rt 40 off 0 t len σ i f m a tk ta va 0 c l) (ht : tk ≠ 42 ∧ tk ≠ 43 ∧ tk ≠ 45) (h1 : (rt = 0 ∧ tk ≠ 8) ∨ (rt = 1 ∧ tk ≠ 0)) :
    ∃ i' σ', CS K0 i σ i' σ' ∧ Ft t len σ' 1 ta ∧ Fr 0 0 σ σ' := by
  obtain ⟨k, v, H, hR, hv, hg⟩ := Tp.hd g S.2.1
  have S0 := S
  obtain ⟨hs, hT, ⟨hq, hb, hm, hf⟩, ⟨hd, ⟨hc0, hcc⟩, hp⟩, hLe⟩ := S
  have h35 := hT.2.2.1
  have hpu : (rt = 0 ∧ σ.1 2 6 = 3) ∨ (rt = 1 ∧ σ.1 2 6 = 4) := by
    rcases hLe with h | ⟨_, h7, ⟨q, hp, hb⟩ | ⟨q, hp, _⟩⟩
    · omega
    · exact Or.inl ⟨q, hp⟩
    · exact Or.inr ⟨q, hp⟩
  have o := lk_bad6 (K := K0) (rt := rt) (most := 40) (off := off) (b0 := 0) (f := f) (w := 0) (wa := 0) (d := 0) (c := c) (Q := fun _ _ => True) (f' := f) (m' := m) (a' := a) (tk' := tk) (ta' := ta) (va' := va) (d' := 0) (c' := c) (l' := l) H hs (x := 1) (by omega) (by omega) S0.rg hT.2.2.2.2.2 (fun P hP => by
    refine bo_out (by show σ.1 2 13 ≤ 8; omega) (fun z => absurd z (by show ¬ 0 < σ.1 2 13; omega)) ?_
    have n43 : k ≠ 43 := by unfold RT at hR; omega
    have n45 : k ≠ 45 := by unfold RT at hR; omega
    have n42 : k ≠ 42 := by unfold RT at hR; omega
    have n9 : rt = 0 → k ≠ 9 := by unfold RT at hR; omega
    have n1 : rt = 1 → k ≠ 1 := by unfold RT at hR; omega
    have p0 : (tpS σ k v ta a).1 2 6 ≠ 0 := by show σ.1 2 6 ≠ 0; omega
    have p1 : (tpS σ k v ta a).1 2 6 ≠ 1 := by show σ.1 2 6 ≠ 1; omega
    have p2 : (tpS σ k v ta a).1 2 6 ≠ 2 := by show σ.1 2 6 ≠ 2; omega
    have h184 : wp5_R_endExpression_184 (fun s => P s) (tpS σ k v ta a) k := by
      unfold wp5_R_endExpression_184 wp5_R_endExpression_197
      exact ⟨fun _ => hP, fun z => ⟨fun z1 => absurd z1 (n1 (by have z : σ.1 2 6 = 4 := z; omega)), fun _ => hP⟩⟩
    have h137 : wp5_R_endExpression_137 (fun s => P s) (tpS σ k v ta a) k := by
      unfold wp5_R_endExpression_137
      exact ⟨fun _ => h184, fun z => ⟨fun _ => h184, fun z9 => absurd z9 (n9 (by have z : σ.1 2 6 = 3 := z; omega))⟩⟩
    have h23 : ∀ s, wp5_R_endExpression_23 (fun s => P s) (tpS σ k v ta a) k s := by
      intro s
      unfold wp5_R_endExpression_23 wp5_R_endExpression_45 wp5_R_endExpression_103
      exact ⟨fun _ => ⟨fun _ => ⟨fun _ => h137, fun z => absurd z p2⟩, fun z => absurd z p1⟩, fun z => absurd z p0⟩
    unfold wp5_R_takeBehindOperand_43 wp5_R_endExpression wp5_R_endExpression_18
    exact ⟨fun z => absurd z n43, fun _ => ⟨fun z => absurd z n45, fun _ => ⟨fun _ => ⟨fun z => absurd rfl z, fun _ => ⟨fun _ => h23 1, fun _ => ⟨fun _ => h23 1, fun _ => ⟨fun _ => h23 0, fun _ => h23 1⟩⟩⟩⟩, fun z => absurd z n42⟩⟩⟩)
  rcases o with ⟨q, _⟩ | ⟨_, _, i', σ', cs, ft, fr⟩
  · exact absurd q (by decide)
  · exact ⟨i', σ', cs, ft, fr⟩
theorem rule_over {off i m a tk ta va c l : Int} {f : Int → Int} {t : Int → Int} {len : Int} (g : Gl t len) (S : Sy 6 1 1 40 off 0 t len σ i f m a tk ta va 0 c l) (t0 : tk = 0) :
    ∃ σ', CS K0 i σ (i + 1) σ' ∧ (σ'.1 3 2 = 1 ∧ σ'.1 2 1 = 0 ∧ σ'.1 3 1 = len) ∧ Fr 0 0 σ σ' ∧ (∀ b, σ'.1 2 b = σ.1 2 b) ∧ σ'.2 = σ.2 := by
  obtain ⟨k, v, H, hR, hv, hg⟩ := Tp.hd g S.2.1
  obtain ⟨hs, hT, ⟨hq, hb, hm, hf⟩, ⟨hd, ⟨hc0, hcc⟩, hp⟩, hLe⟩ := S
  have k1 : k = 1 := by unfold RT at hR; omega
  have hpu : σ.1 2 6 = 4 := by
    rcases hLe with h | ⟨_, h7, ⟨q, hp, hb⟩ | ⟨q, hp, _⟩⟩
    · omega
    · omega
    · exact hp
  refine ⟨tpS σ k v ta a, CS_6 H hs (fun P hP => ?_), ⟨k1, H.1.1, H.2.1.2.1⟩, tpS_fr, fun b => (tpS_Ot σ k v ta a).2 2 b (by omega), rfl⟩
  refine bo_out (by show σ.1 2 13 ≤ 8; omega) (fun z => absurd z (by show ¬ 0 < σ.1 2 13; omega)) ?_
  have p0 : (tpS σ k v ta a).1 2 6 ≠ 0 := by show σ.1 2 6 ≠ 0; omega
  have p1 : (tpS σ k v ta a).1 2 6 ≠ 1 := by show σ.1 2 6 ≠ 1; omega
  have p2 : (tpS σ k v ta a).1 2 6 ≠ 2 := by show σ.1 2 6 ≠ 2; omega
  have p3 : (tpS σ k v ta a).1 2 6 ≠ 3 := by show σ.1 2 6 ≠ 3; omega
  have p4 : (tpS σ k v ta a).1 2 6 = 4 := hpu
  unfold wp5_R_takeBehindOperand_43 wp5_R_endExpression wp5_R_endExpression_23 wp5_R_endExpression_45 wp5_R_endExpression_103 wp5_R_endExpression_137 wp5_R_endExpression_184
  exact ⟨fun z => absurd z (by show ¬ k = 43; omega), fun _ => ⟨fun z => absurd z (by show ¬ k = 45; omega), fun _ => ⟨fun _ => ⟨fun z => absurd rfl z, fun _ => ⟨fun z => absurd z (by show ¬ k = 60; omega), fun _ => ⟨fun z => absurd z (by show ¬ k = 61; omega), fun _ => ⟨fun _ => ⟨fun _ => ⟨fun _ => ⟨fun _ => ⟨fun _ => ⟨fun z => absurd p4 z, fun _ => ⟨fun _ => hP, fun z => absurd k1 z⟩⟩, fun z => absurd z p3⟩, fun z => absurd z p2⟩, fun z => absurd z p1⟩, fun z => absurd z p0⟩, fun z => absurd z (by show ¬ k = 62; omega)⟩⟩⟩⟩, fun z => absurd z (by show ¬ k = 42; omega)⟩⟩⟩
end RB
