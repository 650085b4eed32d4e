section BR2
variable {K : Int → Sg → Prop} {B len i m a tk ta va w wa d c kst l : Int} {t f : Int → Int} {σ : Sg} {n : Nat}
theorem br_ok (g : Gl t len) (S : Sz B t len σ i f m a tk ta va d c kst l) (hS1 : d < 8 → ∃ D, StOk K t len D (n + 1) ∧ 8 - (d + 1) ≤ D) (hS2 : d < 8 → ∃ D, StOk K t len D n ∧ 8 - (d + 1) ≤ D) :
    ∀ k v τ, Hd 0 t len σ i k v ta a → Tau t len σ τ k v ta a f m → (k = 6 ∧ tk = 5) ∨ (k = 8 ∧ tk = 7) → kst < 40 → (∀ (K0 : Int → Sg → Prop) (σ' : Sg), (∀ P : Sg → Prop, P σ' → wp5_R_takeStatement τ P) → CS K0 i σ (i + 1) σ') → (0 ≤ ta ∧ ta < a ∧ a ≤ len ∧ σ.1 3 5 ≤ ta) → StRes (n + 1 + 1 + 1) K B t len σ i f m a tk ta va w wa d c kst l := by
  intro k v τ H hτ hk2 hk40 step hta
  obtain ⟨hT, hC, hE⟩ := S
  have hC0 := hC
  obtain ⟨hq, hd, hc, hk, hl, hB, h0⟩ := hC
  have hva := hT.2.2.2.2.2
  have e7 : τ.1 2 7 = kst := (hτ.2.2.1 7 (by decide)).trans hk.1.symm
  have e13 : τ.1 2 13 = d := (hτ.2.2.1 13 (by decide)).trans hd.1.symm
  have e8 : τ.1 2 8 = c := (hτ.2.2.1 8 (by decide)).trans hc.1.symm
  have e9 : τ.1 2 9 = 300 := (hτ.2.2.1 9 (by decide)).trans hc.2.1
  have e3 : τ.1 2 3 = σ.1 2 3 := hτ.2.2.1 3 (by decide)
  have e4 : τ.1 2 4 = σ.1 2 4 := hτ.2.2.1 4 (by decide)
  have q3 : 0 ≤ τ.1 2 3 ∧ τ.1 2 3 < 35 := by rw [e3]; exact ⟨hq.1, hq.2.1⟩
  have hm0 : 0 ≤ m ∧ m ≤ c + 156 := by omega
  obtain ⟨x, hx⟩ : ∃ x : Int, (x = 112 ∧ k = 6 ∧ tk = 5) ∨ (x = 115 ∧ k = 8 ∧ tk = 7) := by
    rcases hk2 with z | z
    · exact ⟨112, Or.inl ⟨rfl, z⟩⟩
    · exact ⟨115, Or.inr ⟨rfl, z⟩⟩
  obtain ⟨τ1, d1⟩ : ∃ τ1, τ1 = adS (pU τ 2 7 (kst + 1)) (σ.1 2 3) x := ⟨_, rfl⟩
  have l1 : τ1.2.2.1 0 (σ.1 2 3) = m + 1 := by
    rw [d1, adS_len]
    show τ.2.2.1 0 (σ.1 2 3) + 1 = m + 1
    rw [hτ.2.2.2.1.1]
  have c1 : ∀ j, 0 ≤ j → j < m + 1 → uZ f m x j = τ1.2.2.2 0 (σ.1 2 3) j := fun j j0 j1 => by
    rw [d1, adS_cell]
    show uZ f m x j = if j = τ.2.2.1 0 (σ.1 2 3) then x else τ.2.2.2 0 (σ.1 2 3) j
    rw [hτ.2.2.2.1.1]
    unfold uZ
    by_cases q : j = m
    · rw [if_pos q, if_pos q]
    · rw [if_neg q, if_neg q]; exact hτ.2.2.2.1.2 j j0 (by omega)
  obtain ⟨A, dA⟩ : ∃ A, A = adS (pU τ1 2 12 (m + 1)) (σ.1 2 3) 130 := ⟨_, rfl⟩
  have lA : A.2.2.1 0 (σ.1 2 3) = m + 2 := by
    rw [dA, adS_len]
    show τ1.2.2.1 0 (σ.1 2 3) + 1 = m + 2
    rw [l1]; omega
  have cA : ∀ j, 0 ≤ j → j < m + 1 → uZ f m x j = A.2.2.2 0 (σ.1 2 3) j := fun j j0 j1 => by
    rw [dA, adS_cell]
    show uZ f m x j = if j = τ1.2.2.1 0 (σ.1 2 3) then 130 else τ1.2.2.2 0 (σ.1 2 3) j
    rw [l1, if_neg (by omega)]
    exact c1 j j0 j1
  have A1 : ∀ b, b ≠ 7 → b ≠ 12 → A.1 2 b = τ.1 2 b := fun b z1 z2 => by
    rw [dA]
    show (pU τ1 2 12 (m + 1)).1 2 b = _
    rw [pU_ne (Or.inr z2), d1]
    show (pU τ 2 7 (kst + 1)).1 2 b = _
    rw [pU_ne (Or.inr z1)]
  have A3 : ∀ b, A.1 3 b = τ.1 3 b := fun b => by
    rw [dA]
    show (pU τ1 2 12 (m + 1)).1 3 b = _
    rw [pU_ne (Or.inl (by decide)), d1]
    show (pU τ 2 7 (kst + 1)).1 3 b = _
    rw [pU_ne (Or.inl (by decide))]
  have A7 : A.1 2 7 = kst + 1 := by rw [dA, d1]; rfl
  have A12 : A.1 2 12 = m + 1 := by rw [dA]; rfl
  have AF : A.2.1 = σ.2.1 := by rw [dA, d1]; exact hτ.2.1.2.2.2.2.2
  have y3 : A.1 2 3 = σ.1 2 3 := (A1 3 (by decide) (by decide)).trans e3
  have cs1 : CS K i σ (i + 1) (beS A 1) := by
    refine step K _ (fun P hP => ts_any hτ.2.1.1 hτ.2.1.2.1 (by unfold isSt; omega) ?_)
    unfold wp5_R_takeStatement_118
    rw [e7, hτ.2.1.1]
    refine ⟨fun _ => ⟨⟨by omega, by omega⟩, ?_⟩, fun z => absurd z (by omega)⟩
    have h91 : wp5_R_beginStatement_91 (fun s => P s) (pU τ 2 7 (kst + 1)) x := by
      unfold wp5_R_beginStatement_91
      show wp5_W_add (pU τ 2 7 (kst + 1)) (τ.1 2 3) x _
      rw [e3]
      refine add_at (by show 0 ≤ τ.2.2.1 0 (σ.1 2 3); rw [hτ.2.2.2.1.1]; omega) (by show τ.2.2.1 0 (σ.1 2 3) < capI (σ.1 2 3); rw [hτ.2.2.2.1.1, hq.2.2]; omega) ?_
      rw [← d1]
      have z3 : τ1.1 2 3 = σ.1 2 3 := by rw [d1]; exact e3
      rw [z3, l1]
      refine ⟨⟨hq.1, hq.2.1⟩, add_at (by show 0 ≤ τ1.2.2.1 0 (σ.1 2 3); rw [l1]; omega) (by show τ1.2.2.1 0 (σ.1 2 3) < capI (σ.1 2 3); rw [l1, hq.2.2]; omega) ?_⟩
      rw [← dA]
      unfold wp5_R_beginExpression
      exact ⟨by rw [y3]; exact ⟨hq.1, hq.2.1⟩, hP⟩
    unfold wp5_R_beginStatement
    refine ⟨fun _ => ⟨fun _ => ⟨fun _ => ⟨q3, fun z => ?_, fun z => ?_⟩, fun z => absurd z (by omega)⟩, fun z => absurd z (by omega)⟩, fun z => absurd z (by omega)⟩
    · obtain rfl : x = 115 := by omega
      exact h91
    · obtain rfl : x = 112 := by omega
      exact h91
  have fz1 : Fz d σ (beS A 1) := by
    have q1 := adS_fz (d := d) (τ := pU τ 2 7 (kst + 1)) (v := x)
    rw [show (pU τ 2 7 (kst + 1)).1 2 3 = σ.1 2 3 from e3, ← d1] at q1
    have q2 := adS_fz (d := d) (τ := pU τ1 2 12 (m + 1)) (v := 130)
    rw [show (pU τ1 2 12 (m + 1)).1 2 3 = σ.1 2 3 by rw [d1]; exact e3, ← dA] at q2
    exact (hτ.2.2.2.2 d).trans (Int.le_refl d) ((Fz.up (σ' := pU τ 2 7 (kst + 1)) (fun a b z => pU_ne (by omega)) rfl).trans (Int.le_refl d) (q1.trans (Int.le_refl d) ((Fz.up (σ' := pU τ1 2 12 (m + 1)) (fun a b z => pU_ne (by omega)) rfl).trans (Int.le_refl d) (q2.trans (Int.le_refl d) beS_fz))))
  obtain ⟨a1, tk1, ta1, va1, hT1, ev1⟩ := Tp.next (tk := tk) (va := va) (σ1 := beS A 1) g H hva (by omega) (by omega) ((A1 1 (by decide) (by decide)).trans hτ.1.1) ((A3 2).trans hτ.2.1.1) (by show A.2.1 4 = t; rw [AF]; exact H.2.1.1) ((A3 1).trans hτ.2.1.2.2.2.2.1) ((A3 5).trans hτ.2.1.2.2.2.1) ((A1 4 (by decide) (by decide)).trans e4) ((A1 2 (by decide) (by decide)).trans hτ.1.2.1)
  have S1 : Sy 5 0 0 300 (-1) (m + 2) t len (beS A 1) (i + 1) (uZ f m x) (m + 1) a1 tk1 ta1 va1 d c l :=
    mkSy hT1 rfl (by show 0 ≤ A.1 2 3 ∧ A.1 2 3 < 35; rw [y3]; exact ⟨hq.1, hq.2.1⟩) (by show capI (A.1 2 3) = 1000; rw [y3]; exact hq.2.2) (by show m + 2 = A.2.2.1 0 (A.1 2 3); rw [y3, lA]) (by omega) (by omega) (by omega) (by show A.2.2.1 0 (A.1 2 3) = m + 2; rw [y3, lA]) (by show A.2.2.1 0 (A.1 2 3) = m + 2; rw [y3, lA]) (by show (1 : Int) < 3; decide) ⟨((A1 13 (by decide) (by decide)).trans e13).symm, hd.2.1, hd.2.2.1⟩ ⟨((A1 8 (by decide) (by decide)).trans e8).symm, (A1 9 (by decide) (by decide)).trans e9, hc.2.2⟩ hl (by omega)
  obtain ⟨ok2, f2, m2, a2, tk2, ta2, va2, w2, wa2, d2, c2, l2, ev2, out2⟩ := test_ok (K := K) (w := w) (wa := wa) g S1 rfl (by rfl) (by show m + 2 = A.2.2.1 0 (A.1 2 3); rw [y3, lA]) (by show A.1 2 12 = m + 2 - 1; rw [A12]; omega) ⟨by omega, by omega⟩ (by show capI (A.1 2 3) = 1000; rw [y3]; exact hq.2.2) (fun j j0 j1 => by show uZ f m x j = A.2.2.2 0 (A.1 2 3) j; rw [y3]; exact cA j j0 (by omega)) (fun j j0 j1 => by rw [fz1.2.2.1 j j1]; exact hd.2.2.2 j j0 j1)
  have base : ∀ P, wp_statement_204 (wp_block (n + 1 + 1)) (wp_otherwise (n + 1 + 1)) P f m t len tk w wa d c kst 300 l 0 0 a1 ta1 tk1 va1 x → wp_statement (n + 1 + 1 + 1) f m t len a tk ta va w wa d c kst 300 l 0 0 P := by
    intro P hP
    clear out2
    refine rs_any (s := 0) (Or.inr ⟨rfl, by omega⟩) ?_
    unfold wp_statement_59
    refine ⟨fun _ => ⟨⟨by omega, by omega⟩, ev1 _ ⟨fun _ => ⟨fun _ => ⟨fun _ => ⟨fun z => ?_, fun z => ?_⟩, fun z => absurd z (by omega)⟩, fun z => absurd z (by omega)⟩, fun z => absurd rfl z⟩⟩, fun z => absurd z (by omega)⟩
    · obtain rfl : x = 115 := by omega
      exact hP
    · obtain rfl : x = 112 := by omega
      exact hP
  have w1 : (0 ≤ m ∧ m < 2400) ∧ rng (m + 1) := ⟨⟨by omega, by omega⟩, ⟨by omega, by omega⟩⟩
  have x0 : x ≠ 0 := by omega
  have tx : (tk = 5 ∧ x = 112) ∨ (tk ≠ 5 ∧ x = 115) := by omega
  clear hk2
  rcases out2 with ⟨o1, ⟨o2, o3, o4⟩, oq, ⟨y, ea, eb, hy, hea, heb, hw2, hc2⟩, i2, σ2, b1, cs2, S2, hr2, ⟨p6, p12, p7⟩, fz2⟩ | ⟨o1, ov, i2, σ2, cs2, ft2, fz2, p7⟩
  · subst o1; subst o2; subst o3; subst o4
    have hlen := hw2.1
    simp only [List.length_cons, List.length_append] at hlen
    have r2 : σ2.1 2 3 = σ.1 2 3 := fz2.row.trans fz1.row
    have hCt2 := S2.2.2.2.1
    have e7' : σ2.1 2 7 = kst + 1 := p7.trans A7
    have e12' : σ2.1 2 12 = m + 1 := p12.trans A12
    have C2 : Cz (B + 2) σ2 m2 d2 c2 (kst + 1) l2 := by
      refine ⟨by rw [r2]; exact hq, ⟨hCt2.1.1, hd.2.1, hd.2.2.1, fun j j0 j1 => ?_⟩, ⟨hCt2.2.1.1, hCt2.2.1.2.1, hCt2.2.1.2.2.1, hCt2.2.1.2.2.2.1⟩, ⟨e7'.symm, by omega, by omega⟩, S2.2.2.2.2.l7, ⟨by omega, by omega, by omega⟩, by rw [← hr2.1]; omega⟩
      rw [fz2.2.2.1 j j1, fz1.2.2.1 j j1]; exact hd.2.2.2 j j0 j1
    have hxc : σ2.2.2.2 0 (σ2.1 2 3) (σ2.1 2 12 - 1) = x := by
      rw [e12', show m + 1 - 1 = m by omega, ← hr2.2 m (by omega) (by omega), hw2.2.2 m (by omega), uZ_eq]
    have cap2 := hCt2.2.1.2.2.2.2.2
    have cc2 := hCt2.2.1.2.2.2.1
    obtain ⟨ok3, f3, m3, a3, tk3, ta3, va3, w3, wa3, d3, c3, k3, l3, ev3, out3, st3⟩ := block_both (n := n + 1) (w := w2) (wa := wa2) (f := f2) g hS1 S2.2.1 C2 hr2 x0 (stp_test S2.1 p6 (by have := hCt2.1; omega) (fun z => by
      have e := hCt2.1.1
      rw [← e] at z ⊢
      exact C2.2.1.2.2.2 (d2 - 1) (by omega) (by omega)) (by rw [r2]; exact ⟨hq.1, hq.2.1⟩) ⟨by omega, by rw [← hr2.1]; omega, by omega⟩ hxc oq)
    rcases out3 with ⟨o1, ⟨o2, o3, o4⟩, i3, σ3, cs3, hT3, C3, hy3, hr3, fz3⟩ | ⟨o1, ov, i3, σ3, cs3, ft3, fz3, o7⟩
    · subst o1; subst o2; subst o3; subst o4
      obtain ⟨sB, hsB, hw3, hcp3, hcs3⟩ := st3 rfl
      have b3 := C3.2.2.2.2.2.1
      have b4 := C3.2.2.2.1.2
      have b5 := C3.2.2.1.2.2
      have m3b : 0 ≤ m3 ∧ m3 < 2000 := by omega
      have fz13 := (fz1.trans (Int.le_refl _) fz2).trans (Int.le_refl _) fz3
      have cs13 := (cs1.trans cs2).trans cs3
      rcases tx with ⟨t5, tx⟩ | ⟨t5, tx⟩
      · -- an if
        subst tx
        have h5 : σ3.1 2 5 = 1 ∧ σ3.2.2.2 0 (σ3.1 2 3) m3 = 113 := by
          rcases hy3 with z | z
          · exact z.2
          · exact absurd rfl z.1
        obtain ⟨ok4, f4, m4, a4, tk4, ta4, va4, w4, wa4, d4, c4, k4, l4, ev4, out4, st4⟩ := other_both (n := n) (B := B) (w := w3) (wa := wa3) (f := f3) g hS2 hT3 C3 hB.1 h5 hr3
        refine ⟨ok4, f4, m4, a4, tk4, ta4, va4, w4, wa4, d4, c4, k4, l4, fun P hP => base P ?_, ?_, fun z => ?_⟩
        · unfold wp_statement_204 wp_write
          exact ⟨w1.1, w1.2, ev2 _ ⟨fun z => absurd z (by decide), fun _ => ev3 _ ⟨fun _ => ⟨fun z => absurd t5 z, fun _ => ev4 P hP⟩, fun z => absurd z (by decide)⟩⟩⟩
        · rcases out4 with ⟨q1, q2, i4, σ4, q3, q4, q5⟩ | ⟨q1, q2, i4, σ4, q3, q4, q5, q6⟩
          · exact Or.inl ⟨q1, q2, i4, σ4, cs13.trans q3, q4, fz13.trans (Int.le_refl _) q5⟩
          · exact Or.inr ⟨q1, q2, i4, σ4, cs13.trans q3, q4, fz13.trans (Int.le_refl _) q5, q6⟩
        · obtain ⟨C, f5, m5, hC5, hw5, hw6, hcp5, hcs5⟩ := st4 z
          have cn := cnt_if (Bd := sB) (C := C) hy hea heb
          refine ⟨112 :: y :: (ea ++ (eb ++ (sB ++ (113 :: (C ++ [114]))))), Or.inr (Or.inr (Or.inl ⟨y, ea, eb, sB, C, hy, hea, heb, hsB, hC5, rfl⟩)), wr_if wr1 hw2 hw3 wr1 hw5 hw6, ?_, ?_⟩
          · rw [cn.1, hcp5, hcp3, hc2]; omega
          · rw [cn.2, hcs5, hcs3]; omega
      · -- a while
        subst tx
        refine ⟨1, uZ f3 m3 114, m3 + 1, a3, tk3, ta3, va3, w3, wa3, d3, c3, k3, l3, fun P hP => base P ?_, Or.inl ⟨rfl, ⟨rfl, rfl, rfl⟩, i3, σ3, cs13, ⟨hT3, C3.mv (by omega) hB.1 (by omega), end_row (by decide) hy3 hr3⟩, fz13⟩, fun _ => ?_⟩
        · unfold wp_statement_204 wp_write
          exact ⟨w1.1, w1.2, ev2 _ ⟨fun z => absurd z (by decide), fun _ => ev3 _ ⟨fun _ => ⟨fun _ => wp_237 (by omega) (by omega) hP, fun z => absurd z t5⟩, fun z => absurd z (by decide)⟩⟩⟩
        · have cn := cnt_wh (Bd := sB) hy hea heb
          refine ⟨115 :: y :: (ea ++ (eb ++ (sB ++ [114]))), Or.inr (Or.inr (Or.inr ⟨y, ea, eb, sB, hy, hea, heb, hsB, rfl⟩)), wr_wh wr1 hw2 hw3 wr1, ?_, ?_⟩
          · rw [cn.1, hcp3, hc2]; omega
          · rw [cn.2, hcs3]; omega
    · subst o1
      refine ⟨0, f3, m3, a3, tk3, ta3, va3, w3, wa3, d3, c3, k3, l3, fun P hP => base P ?_, Or.inr ⟨rfl, ov, i3, σ3, (cs1.trans cs2).trans cs3, ft3, (fz1.trans (Int.le_refl _) fz2).trans (Int.le_refl _) fz3, o7⟩, fun z => absurd z (by decide)⟩
      unfold wp_statement_204 wp_write
      exact ⟨w1.1, w1.2, ev2 _ ⟨fun z => absurd z (by decide), fun _ => ev3 _ ⟨fun z => absurd rfl z, fun _ => hP⟩⟩⟩
  · subst o1
    have e7' : σ2.1 2 7 = kst + 1 := p7.trans A7
    refine ⟨0, f2, m2, a2, tk2, ta2, va2, w2, wa2, d2, c2, kst + 1, l2, fun P hP => base P ?_, Or.inr ⟨rfl, ov, i2, σ2, cs1.trans cs2, ft2, fz1.trans (Int.le_refl _) fz2, by omega, by omega⟩, fun z => absurd z (by decide)⟩
    unfold wp_statement_204 wp_write
    exact ⟨w1.1, w1.2, ev2 _ ⟨fun _ => hP, fun z => absurd rfl z⟩⟩
/-- every STATEMENT, in step -/
theorem all_st (g : Gl t len) : ∀ (D n : Nat), 3 * D + 3 ≤ n → StOk K t len D n := by
  intro D
  induction D with
  | zero =>
    intro n hn B σ i f m a tk ta va w wa d c kst l S h1 h2 hD
    obtain ⟨n, rfl⟩ : ∃ n', n = n' + 1 + 1 + 1 := ⟨n - 3, by omega⟩
    exact stm_ok g S h1 h2 (br_ok g S (fun z => absurd z (by omega)) (fun z => absurd z (by omega)))
  | succ D ih =>
    intro n hn B σ i f m a tk ta va w wa d c kst l S h1 h2 hD
    obtain ⟨n, rfl⟩ : ∃ n', n = n' + 1 + 1 + 1 := ⟨n - 3, by omega⟩
    exact stm_ok g S h1 h2 (br_ok g S (fun z => ⟨D, ih (n + 1) (by omega), by omega⟩) (fun z => ⟨D, ih n (by omega), by omega⟩))
end BR2
