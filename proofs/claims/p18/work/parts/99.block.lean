-- ===== a block: class and reference
def BkRes (n : Nat) (K : Int → Sg → Prop) (B : Int) (t : Int → Int) (len : Int) (σ : Sg) (i x : Int) (f : Int → Int) (m a tk ta va w wa d c kst l : Int) : Prop :=
  ∃ ok f' m' a' tk' ta' va' w' wa' d' c' k' l', (∀ P, P ok f' m' a' tk' ta' va' w' wa' d' c' k' l' → wp_block n f m t len a tk ta va w wa d c kst 300 l 0 0 P) ∧ BkOut K B t len σ i x w wa d ok f' m' a' tk' ta' va' w' wa' d' c' k' l' ∧ (ok = 1 → ∃ s, Sq s ∧ Wr f m s f' m' ∧ c' = c + cp s ∧ k' = kst + cs s)
section BK
variable {K : Int → Sg → Prop} {B len i x m a tk ta va w wa d c kst l : Int} {t f : Int → Int} {σ : Sg} {n : Nat}
theorem block_both (g : Gl t len) (hS : d < 8 → ∃ D, StOk K t len D n ∧ 8 - (d + 1) ≤ D) (hT : Tp 0 t len σ i a tk ta va) (hC : Cz B σ m d c kst l) (hrow : m = σ.2.2.1 0 (σ.1 2 3) ∧ ∀ j, 0 ≤ j → j < m → f j = σ.2.2.2 0 (σ.1 2 3) j) (hx : x ≠ 0)
    (stp : ∀ k v, Hd 0 t len σ i k v ta a → RT 0 k v tk → (k = 123 → ∀ σ', (∀ P : Sg → Prop, P σ' → wp5_R_openBlock (tpS σ k v ta a) x P) → CS K i σ (i + 1) σ') ∧ (k ≠ 123 → CS K i σ (i + 1) (rfS (tpS σ k v ta a) 1))) :
    BkRes (n + 1) K B t len σ i x f m a tk ta va w wa d c kst l := by
  obtain ⟨k, v, H, hR, hv, hg⟩ := Tp.hd g hT
  have hC0 := hC
  obtain ⟨hq, hd, hc, hk, hl, hB, h0⟩ := hC
  have h35 := hT.2.2.1
  have hva := hT.2.2.2.2.2
  have his := hR.is hg.1 hg.2.2.2.2.2.2.2.2.2 123 (by omega)
  obtain ⟨st1, st2⟩ := stp k v H hR
  have rg : RgS (tpS σ k v ta a) := ⟨by show 0 ≤ σ.1 2 13 ∧ σ.1 2 13 ≤ 8; omega, by show 0 ≤ σ.1 2 8 ∧ σ.1 2 8 ≤ 300; omega, by show 0 ≤ σ.2.2.1 0 (σ.1 2 3); exact h0, by show σ.2.2.1 0 (σ.1 2 3) ≤ capI (σ.1 2 3); rw [hq.2.2]; omega⟩
  have bad : ∀ y f' m' a' tk' d' c' k' l', 1 ≤ y ∧ y ≤ 3 → CS K i σ (i + 1) (rfS (tpS σ k v ta a) y) → BkOut K B t len σ i x w wa d 0 f' m' a' tk' ta va y ta d' c' k' l' := fun y f' m' a' tk' d' c' k' l' hy cs => Or.inr ⟨rfl, hva, i + 1, rfS (tpS σ k v ta a) y, cs, mkFt rfl H.2.1.1 H.2.1.2.1 rg hy (by omega), (tpS_fz (k := k) (v := v) (pl := ta) (nx := a)).trans (Int.le_refl _) rfS_fz, by show 0 ≤ σ.1 2 7; omega, by show σ.1 2 7 ≤ 40; omega⟩
  by_cases k123 : k = 123
  · have t123 := his.mpr k123
    by_cases d8 : d = 8
    · refine ⟨0, f, m, a, tk, ta, va, 3, ta, d, c, kst, l, fun P hP => ?_, bad 3 _ _ _ _ _ _ _ _ (by omega) (st1 k123 _ (fun P hP => ?_)), fun z => absurd z (by decide)⟩
      · rw [wp_block_s]
        unfold wp_block_b wp_opens wp_bad
        exact ⟨fun _ => ⟨fun z => absurd d8 z, fun _ => ⟨Or.inl rfl, fun z => absurd rfl z, fun _ => hP⟩⟩, fun z => absurd t123 z⟩
      · unfold wp5_R_openBlock
        exact open_no (by show 8 ≤ σ.1 2 13; omega) ⟨fun _ => hP, fun z => absurd rfl z⟩
    · obtain ⟨D, hSt, hD⟩ := hS (by omega)
      have k1 : k ≠ 1 := by omega
      have hta := hg.2.2.2.2.2.1 k1
      obtain ⟨σ1, e1⟩ : ∃ σ1, σ1 = pU (opS (tpS σ k v ta a) x) 2 5 0 := ⟨_, rfl⟩
      have cs1 : CS K i σ (i + 1) σ1 := by
        rw [e1]
        refine st1 k123 _ (fun P hP => ?_)
        unfold wp5_R_openBlock
        exact open_at (by show 0 ≤ σ.1 2 13; omega) (by show σ.1 2 13 < 8; omega) ⟨fun z => absurd z (by decide), fun _ => hP⟩
      have fz1 : Fz d σ σ1 := by
        rw [e1]
        exact (tpS_fz (k := k) (v := v) (pl := ta) (nx := a)).trans (Int.le_refl d) (((opS_fr (b0 := 0) (τ := tpS σ k v ta a) (x := x) (by show d ≤ σ.1 2 13; omega)).z).trans (Int.le_refl d) (Fz.up (fun a b z => pU_ne (by omega)) rfl))
      obtain ⟨a1, tk1, ta1, va1, hT1, ev1⟩ := Tp.next (tk := tk) (va := va) (σ1 := σ1) g H hva k1 (by omega) (by rw [e1]; exact H.1.1) (by rw [e1]; rfl) (by rw [e1]; exact H.2.1.1) (by rw [e1]; exact H.2.1.2.1) (by rw [e1]; rfl) (by rw [e1]; rfl) (by rw [e1]; exact hT.1.2.2)
      have ek : σ1.2.1 5 = uZ (σ.2.1 5) d x := by rw [e1, hd.1]; rfl
      have S1 : Sz B t len σ1 (i + 1) f m a1 tk1 ta1 va1 (d + 1) c kst l := by
        refine ⟨hT1, ⟨by rw [e1]; exact hq, ⟨by rw [e1, hd.1]; rfl, by omega, by omega, fun j j0 j1 => ?_⟩, by rw [e1]; exact hc, by rw [e1]; exact hk, hl, hB, by rw [e1]; exact h0⟩, Or.inl ⟨by rw [e1]; rfl, by rw [e1]; exact hrow⟩⟩
        rw [ek]
        by_cases z : j = d
        · rw [z, uZ_eq]; exact hx
        · rw [uZ_ne z]; exact hd.2.2.2 j j0 (by omega)
      obtain ⟨ok2, f2, m2, a2, tk2, ta2, va2, w2, wa2, d2, c2, k2, l2, ev2, out2, st2⟩ := bd_loop (K := K) (x := x) (w := w) (wa := wa) g hSt hD hd.2.1 (40 - kst).toNat σ1 (i + 1) f m a1 tk1 ta1 va1 c kst l (by omega) S1 (by rw [ek, uZ_eq])
      refine ⟨ok2, f2, m2, a2, tk2, ta2, va2, w2, wa2, d2, c2, k2, l2, fun P hP => ?_, out2.pre cs1 fz1, st2⟩
      clear out2 st2
      rw [wp_block_s]
      unfold wp_block_b wp_opens
      exact ⟨fun _ => ⟨fun _ => ⟨⟨by omega, by omega⟩, ev1 _ ⟨fun _ => ev2 P hP, fun z => absurd z (by decide)⟩⟩, fun z => absurd z d8⟩, fun z => absurd t123 z⟩
  · have t123 : tk ≠ 123 := fun z => k123 (his.mp z)
    refine ⟨0, f, m, a, tk, ta, va, 1, ta, d, c, kst, l, fun P hP => ?_, bad 1 _ _ _ _ _ _ _ _ (by omega) (st2 k123), fun z => absurd z (by decide)⟩
    rw [wp_block_s]
    unfold wp_block_b wp_opens wp_bad
    exact ⟨fun z => absurd z t123, fun _ => ⟨Or.inl rfl, fun z => absurd rfl z, fun _ => hP⟩⟩
/-- the opening behind a test -/
theorem stp_test (hs : σ.1 2 5 = 6) (hp : σ.1 2 6 = 2) (hd : σ.1 2 13 ≤ 8) (hkz : 0 < σ.1 2 13 → σ.2.1 5 (σ.1 2 13 - 1) ≠ 0) (hq : 0 ≤ σ.1 2 3 ∧ σ.1 2 3 < 35) (h12 : 1 ≤ σ.1 2 12 ∧ σ.1 2 12 ≤ σ.2.2.1 0 (σ.1 2 3) ∧ σ.2.2.1 0 (σ.1 2 3) ≤ capI (σ.1 2 3)) (hx : σ.2.2.2 0 (σ.1 2 3) (σ.1 2 12 - 1) = x) (oq : tk ≠ 42 ∧ tk ≠ 43 ∧ tk ≠ 45) :
    ∀ k v, Hd 0 t len σ i k v ta a → RT 0 k v tk → (k = 123 → ∀ σ', (∀ P : Sg → Prop, P σ' → wp5_R_openBlock (tpS σ k v ta a) x P) → CS K i σ (i + 1) σ') ∧ (k ≠ 123 → CS K i σ (i + 1) (rfS (tpS σ k v ta a) 1)) := by
  intro k v H hR
  have nk := hR.ops oq
  have cc := capI_pos (σ.1 2 3)
  refine ⟨fun k123 σ' ev => CS_6 H hs (fun P hP => bo_end (k := k) hd hkz rfl nk ?_), fun k123 => CS_6 H hs (fun P hP => bo_end (k := k) hd hkz rfl nk (end_bad hP (Or.inr (Or.inr ⟨hp, k123⟩))))⟩
  have ob : wp5_R_openBlock (tpS σ k v ta a) x (fun s => P s) := ev P hP
  have h103 : wp5_R_endExpression_103 P (tpS σ k v ta a) k := by
    unfold wp5_R_endExpression_103
    refine ⟨fun z => absurd hp z, fun _ => ⟨fun z => absurd k123 z, fun _ => ⟨hq, ⟨by show -2147483648 ≤ σ.1 2 12 - 1; omega, by show σ.1 2 12 - 1 < 2147483648; omega⟩, ?_⟩⟩⟩
    unfold wp5_W_cell
    refine ⟨fun z => absurd z (by show ¬ σ.1 2 12 - 1 < 0; omega), fun _ => ⟨fun z => absurd z (by show ¬ σ.2.2.1 0 (σ.1 2 3) ≤ σ.1 2 12 - 1; omega), fun _ => ⟨⟨by show 0 ≤ σ.1 2 12 - 1; omega, by show σ.1 2 12 - 1 < capI (σ.1 2 3); omega⟩, ?_⟩⟩⟩
    show wp5_R_openBlock (tpS σ k v ta a) (σ.2.2.2 0 (σ.1 2 3) (σ.1 2 12 - 1)) _
    rw [hx]; exact ob
  unfold wp5_R_endExpression wp5_R_endExpression_23 wp5_R_endExpression_45
  have p0 : (tpS σ k v ta a).1 2 6 ≠ 0 := by show σ.1 2 6 ≠ 0; omega
  have p1 : (tpS σ k v ta a).1 2 6 ≠ 1 := by show σ.1 2 6 ≠ 1; omega
  exact ⟨fun z => absurd z (by omega), fun _ => ⟨fun z => absurd z (by omega), fun _ => ⟨fun _ => ⟨fun _ => ⟨fun _ => h103, fun z => absurd z p1⟩, fun z => absurd z p0⟩, fun z => absurd z (by omega)⟩⟩⟩
/-- the opening behind an else -/
theorem stp_else (hs : σ.1 2 5 = 2) :
    ∀ k v, Hd 0 t len σ i k v ta a → RT 0 k v tk → (k = 123 → ∀ σ', (∀ P : Sg → Prop, P σ' → wp5_R_openBlock (tpS σ k v ta a) 113 P) → CS K i σ (i + 1) σ') ∧ (k ≠ 123 → CS K i σ (i + 1) (rfS (tpS σ k v ta a) 1)) := by
  intro k v H hR
  refine ⟨fun k123 σ' ev => CS_2 H hs (fun P hP => ?_), fun k123 => CS_2 H hs (fun P hP => ?_)⟩
  · unfold wp5_R_takeElseBrace
    exact ⟨fun z => absurd k123 z, fun _ => ev P hP⟩
  · unfold wp5_R_takeElseBrace
    exact ⟨fun _ => hP, fun z => absurd z k123⟩
end BK
