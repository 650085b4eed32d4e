-- ===== the PROGRAM read: class and reference
def PgR (K : Int → Sg → Prop) (t : Int → Int) (len : Int) (σ : Sg) (i : Int) (f : Int → Int) (m a tk ta va w wa c kst l : Int) : Prop :=
  ∃ ok f' m' a' tk' ta' va' w' wa' d' c' k' l', (∀ Kr slot slotLong row many fk fp x0, wp_program_47 Kr slot slotLong row many len fk fp x0 a' c' k' d' f' 0 0 ok l' m' 300 ta' tk' va' wa' w' → wl13 (wp_program_28 Kr slot slotLong row many t len fk fp x0 0 0 300) 1 f m a tk ta va w wa 0 c kst l) ∧ (0 ≤ va' ∧ va' ≤ 9999) ∧
    ((ok = 1 ∧ (w' = w ∧ wa' = wa) ∧ ∃ i' σ', CS K i σ i' σ' ∧ (σ'.1 2 1 = 0 ∧ σ'.1 2 2 = -1 ∧ σ'.1 3 2 = 1 ∧ σ'.1 3 1 = len) ∧ Cz 0 σ' m' 0 c' k' l' ∧ (σ'.2.2.1 0 (σ.1 2 3) = m' ∧ ∀ j, 0 ≤ j → j < m' → f' j = σ'.2.2.2 0 (σ.1 2 3) j) ∧ Fz 0 σ σ') ∨
     (ok = 0 ∧ ∃ i' σ', CS K i σ i' σ' ∧ Ft t len σ' w' wa' ∧ Fz 0 σ σ' ∧ 0 ≤ σ'.1 2 7 ∧ σ'.1 2 7 ≤ 40)) ∧
    (ok = 1 → ∃ s, Sq s ∧ Wr f m s f' m' ∧ c' = c + cp s ∧ k' = kst + cs s)
section PG
variable {K : Int → Sg → Prop} {len i m a tk ta va w wa c kst l : Int} {t f : Int → Int} {σ : Sg}
theorem pg_end (g : Gl t len) (S : Sz 0 t len σ i f m a tk ta va 0 c kst l) (t0 : tk = 0) : PgR K t len σ i f m a tk ta va w wa c kst l := by
  obtain ⟨k, v, τ, H, hR, hv, hg, hτ, step⟩ := st_tok g S
  obtain ⟨hT, hC, hE⟩ := S
  have rst := hR.st ⟨hg.1, hg.2.1⟩ hg.2.2.2.2.2.2.2.2.2
  have k1 : k = 1 := rst.2.2.2.2.2.2.2.1.mpr t0
  have hC0 := hC
  obtain ⟨hq, hd, hc, hk, hl, hB, h0⟩ := hC
  have e13 : τ.1 2 13 = 0 := (hτ.2.2.1 13 (by decide)).trans hd.1.symm
  have e3 : τ.1 2 3 = σ.1 2 3 := hτ.2.2.1 3 (by decide)
  have cs1 : CS K i σ (i + 1) τ := by
    refine step K _ (fun P hP => ?_)
    unfold wp5_R_takeStatement
    rw [hτ.2.1.1, e13]
    exact ⟨fun z => absurd k1 z, fun _ => ⟨fun z => absurd rfl z, fun _ => hP⟩⟩
  refine ⟨1, f, m, a, tk, ta, va, w, wa, 0, c, kst, l, fun Kr slot slotLong row many fk fp x0 h Q hQ => hQ _ _ _ _ _ _ _ _ _ _ _ _ _ ?_, hT.2.2.2.2.2, Or.inl ⟨rfl, ⟨rfl, rfl⟩, i + 1, τ, cs1, ⟨hτ.1.1, hτ.1.2.1, hτ.2.1.1.trans k1, hτ.2.1.2.2.2.2.1⟩, ⟨by rw [e3]; exact hq, ⟨e13.symm, hd.2.1, hd.2.2.1, fun j j0 j1 => by omega⟩, ⟨hc.1.trans (hτ.2.2.1 8 (by decide)).symm, (hτ.2.2.1 9 (by decide)).trans hc.2.1, hc.2.2⟩, ⟨hk.1.trans (hτ.2.2.1 7 (by decide)).symm, hk.2⟩, hl, hB, by rw [e3, hτ.2.2.2.1.1]; omega⟩, hτ.2.2.2.1, hτ.2.2.2.2 0⟩, fun _ => ⟨[], Sq.nil, Wr.nil, by rw [cp_nil]; omega, by rw [cs_nil]; omega⟩⟩
  unfold wp_program_28
  exact ⟨fun z => absurd z (by decide), fun _ => ⟨fun _ => h, fun z => absurd t0 z⟩⟩
theorem pg_step (g : Gl t len) (S : Sz 0 t len σ i f m a tk ta va 0 c kst l)
    (rec : ∀ σ2 i2 f2 m2 a2 tk2 ta2 va2 c2 k2 l2, kst < k2 → Sz 0 t len σ2 i2 f2 m2 a2 tk2 ta2 va2 0 c2 k2 l2 → PgR K t len σ2 i2 f2 m2 a2 tk2 ta2 va2 w wa c2 k2 l2) : PgR K t len σ i f m a tk ta va w wa c kst l := by
  by_cases t0 : tk = 0
  · exact pg_end g S t0
  · obtain ⟨ok, f1, m1, a1, tk1, ta1, va1, w1, wa1, d1, c1, k1, l1, ev, out, st⟩ := all_st (K := K) g 8 100 (by omega) 0 σ i f m a tk ta va w wa 0 c kst l S (Or.inr rfl) (Or.inl t0) (by omega)
    rcases out with ⟨o1, ⟨o2, o3, o4⟩, i', σ', cs', S', fz'⟩ | ⟨o1, ov, i', σ', cs', ft, fz', o7⟩
    · subst o1; subst o2; subst o3; subst o4
      obtain ⟨s, hs, hw, hcp, hcs⟩ := st rfl
      have hge := hs.csp
      obtain ⟨ok2, f2, m2, a2, tk2, ta2, va2, w2, wa2, d2, c2, k2, l2, ev2, va2', out2, st2⟩ := rec σ' i' f1 m1 a1 tk1 ta1 va1 c1 k1 l1 (by omega) S'
      refine ⟨ok2, f2, m2, a2, tk2, ta2, va2, w2, wa2, d2, c2, k2, l2, fun Kr slot slotLong row many fk fp x0 h Q hQ => hQ _ _ _ _ _ _ _ _ _ _ _ _ _ ?_, va2', ?_, fun z => ?_⟩
      · unfold wp_program_28
        exact ⟨fun z => absurd z (by decide), fun _ => ⟨fun z => absurd z t0, fun _ => ev _ (ev2 Kr slot slotLong row many fk fp x0 h Q hQ)⟩⟩
      · have r1 := fz'.row
        rcases out2 with ⟨p1, p2, i2, σ2, p3, p4, p5, p6, p7⟩ | ⟨p1, i2, σ2, p3, p4, p5, p6⟩
        · rw [r1] at p6
          exact Or.inl ⟨p1, p2, i2, σ2, cs'.trans p3, p4, p5, p6, fz'.trans (Int.le_refl _) p7⟩
        · exact Or.inr ⟨p1, i2, σ2, cs'.trans p3, p4, fz'.trans (Int.le_refl _) p5, p6⟩
      · obtain ⟨s2, hs2, hw2, hcp2, hcs2⟩ := st2 z
        exact ⟨s ++ s2, Sq.cons hs hs2, hw.app hw2, by rw [cp_app, hcp2, hcp]; omega, by rw [cs_app, hcs2, hcs]; omega⟩
    · subst o1
      refine ⟨0, f1, m1, a1, tk1, ta1, va1, w1, wa1, d1, c1, k1, l1, fun Kr slot slotLong row many fk fp x0 h Q hQ => hQ _ _ _ _ _ _ _ _ _ _ _ _ _ ?_, ov, Or.inr ⟨rfl, i', σ', cs', ft, fz', o7⟩, fun z => absurd z (by decide)⟩
      unfold wp_program_28
      refine ⟨fun z => absurd z (by decide), fun _ => ⟨fun z => absurd z t0, fun _ => ev _ (hQ _ _ _ _ _ _ _ _ _ _ _ _ _ ?_)⟩⟩
      exact ⟨fun _ => h, fun z => absurd rfl z⟩
theorem pg_loop (g : Gl t len) : ∀ (N : Nat) (σ : Sg) (i : Int) (f : Int → Int) (m a tk ta va c kst l : Int), 40 - kst ≤ N → Sz 0 t len σ i f m a tk ta va 0 c kst l → PgR K t len σ i f m a tk ta va w wa c kst l
  | 0, σ, i, f, m, a, tk, ta, va, c, kst, l, hN, S => pg_step g S (fun σ2 i2 f2 m2 a2 tk2 ta2 va2 c2 k2 l2 hk S2 => by
      have := S2.2.1.2.2.2.1.2.2
      omega)
  | N + 1, σ, i, f, m, a, tk, ta, va, c, kst, l, hN, S => pg_step g S (fun σ2 i2 f2 m2 a2 tk2 ta2 va2 c2 k2 l2 hk S2 => pg_loop g N σ2 i2 f2 m2 a2 tk2 ta2 va2 c2 k2 l2 (by omega) S2)
end PG
