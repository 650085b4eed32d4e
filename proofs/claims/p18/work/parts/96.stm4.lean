/-- an EXPRESSION of a SET or an out begins -/
def beS (A : Sg) (p : Int) : Sg := pU (pU (pU (pU A 2 6 p) 2 10 (A.2.2.1 0 (A.1 2 3))) 2 11 (A.2.2.1 0 (A.1 2 3))) 2 5 5
theorem beS_fz {d p : Int} {A : Sg} : Fz d A (beS A p) := Fz.up (fun a b z => by unfold beS; rw [pU_ne (by omega), pU_ne (by omega), pU_ne (by omega), pU_ne (by omega)]) rfl
theorem be_semi {K : Int → Sg → Prop} {B len i i1 m a1 tk1 ta1 va1 w wa d c kst l x : Int} {t f : Int → Int} {σ A : Sg} (g : Gl t len) (cs1 : CS K i σ i1 (beS A 0)) (fz : Fz d σ A) (hC : Cz B σ m d c kst l) (hk : kst < 40) (h7 : A.1 2 7 = kst + 1) (e13 : A.1 2 13 = d) (e8 : A.1 2 8 = c) (e9 : A.1 2 9 = 300) (hrow : A.2.2.1 0 (σ.1 2 3) = m + 1) (hcell : ∀ j, 0 ≤ j → j < m + 1 → uZ f m x j = A.2.2.2 0 (σ.1 2 3) j) (hx : setC x ∨ x = 110) (hT : Tp 0 t len (beS A 0) i1 a1 tk1 ta1 va1) :
    ∃ ok f' m' a' tk' ta' va' w' wa' d' c' l', (∀ P : Int → (Int → Int) → Int → Int → Int → Int → Int → Int → Int → Int → Int → Int → Prop, P ok f' m' a' tk' ta' va' w' wa' d' c' l' → wp_sumUp 100 (uZ f m x) (m + 1) t len a1 tk1 ta1 va1 w wa d c 300 l 0 0 (fun r f1 m1 a1 t1 ta1 v1 w1 wa1 d1 c1 l1 => (r = 0 → P 0 f1 m1 a1 t1 ta1 v1 w1 wa1 d1 c1 l1) ∧ (r ≠ 0 → wp_need t len a1 t1 ta1 v1 w1 wa1 0 59 (fun r2 a2 t2 ta2 v2 w2 wa2 => (r2 = 0 → P 0 f1 m1 a2 t2 ta2 v2 w2 wa2 d1 c1 l1) ∧ (r2 ≠ 0 → P 1 f1 m1 a2 t2 ta2 v2 w2 wa2 d1 c1 l1))))) ∧
      OutZ K B t len σ i w wa d ok f' m' a' tk' ta' va' w' wa' d' c' (kst + 1) l' ∧ (ok = 1 → ∃ s, Sm Sq s ∧ Wr f m s f' m' ∧ c' = c + cp s ∧ kst + 1 = kst + cs s) := by
  have hC0 := hC
  obtain ⟨hq, hd, hc, hkk, hl, hB, h0⟩ := hC
  have fz1 : Fz d σ (beS A 0) := fz.trans (Int.le_refl d) beS_fz
  have y3 : A.1 2 3 = σ.1 2 3 := fz.row
  have yl : A.2.2.1 0 (A.1 2 3) = m + 1 := by rw [y3]; exact hrow
  have S : Sy 5 0 0 300 0 (m + 1) t len (beS A 0) i1 (uZ f m x) (m + 1) a1 tk1 ta1 va1 d c l :=
    mkSy hT rfl (by show 0 ≤ A.1 2 3 ∧ A.1 2 3 < 35; rw [y3]; exact ⟨hq.1, hq.2.1⟩) (by show capI (A.1 2 3) = 1000; rw [y3]; exact hq.2.2) (by show m + 1 = A.2.2.1 0 (A.1 2 3); exact yl.symm) (by omega) (by omega) (by omega) yl yl (by show (0 : Int) < 3; decide) ⟨e13.symm, hd.2.1, hd.2.2.1⟩ ⟨e8.symm, e9, hc.2.2⟩ hl (by omega)
  obtain ⟨ok, f', m', a', tk', ta', va', w', wa', d', c', l', ev, out⟩ := expr_semi (K := K) (w := w) (wa := wa) g S rfl (by show A.2.2.1 0 (A.1 2 3) = A.2.2.1 0 (A.1 2 3); rfl) (fun j j0 j1 => by rw [fz1.2.2.1 j j1]; exact hd.2.2.2 j j0 j1)
  refine ⟨ok, f', m', a', tk', ta', va', w', wa', d', c', l', ev, ?_⟩
  exact semi_out (f0 := f) (m0 := m) (x := x) (c1 := c) cs1 fz1 hC0 hk h7 ⟨yl.symm, rfl, fun j j0 j1 => by rw [hcell j j0 j1]; show A.2.2.2 0 (σ.1 2 3) j = A.2.2.2 0 (A.1 2 3) j; rw [y3]⟩ rfl rfl hx wr1 out
def StRes (n : Nat) (K : Int → Sg → Prop) (B : Int) (t : Int → Int) (len : Int) (σ : Sg) (i : Int) (f : Int → Int) (m a tk ta va w wa d c kst l : Int) : Prop :=
  ∃ ok f' m' a' tk' ta' va' w' wa' d' c' k' l', (∀ P, P ok f' m' a' tk' ta' va' w' wa' d' c' k' l' → wp_statement n f m t len a tk ta va w wa d c kst 300 l 0 0 P) ∧ OutZ K B t len σ i w wa d ok f' m' a' tk' ta' va' w' wa' d' c' k' l' ∧ (ok = 1 → ∃ s, Sm Sq s ∧ Wr f m s f' m' ∧ c' = c + cp s ∧ k' = kst + cs s)
section SM
variable {K : Int → Sg → Prop} {B len i m a tk ta va w wa d c kst l : Int} {t f : Int → Int} {σ : Sg} {n : Nat}
theorem Tau.rg {τ : Sg} {k v : Int} (hC : Cz B σ m d c kst l) (h : Tau t len σ τ k v ta a f m) : RgS τ := by
  obtain ⟨hq, hd, hc, hk, hl, hB, h0⟩ := hC
  have e3 := h.2.2.1 3 (by decide)
  have e8 := h.2.2.1 8 (by decide)
  have e13 := h.2.2.1 13 (by decide)
  refine ⟨?_, ?_, ?_⟩
  · rw [e13]; omega
  · rw [e8]; omega
  · rw [e3, h.2.2.2.1.1, hq.2.2]
    omega
theorem z_bad {τ : Sg} {k v x : Int} {f' : Int → Int} {m' a' tk' va' d' c' k' l' : Int} (hC : Cz B σ m d c kst l) (h : Tau t len σ τ k v ta a f m) (hH : Hd 0 t len σ i k v ta a) (h0 : 0 ≤ ta ∧ ta ≤ len) (hx : 1 ≤ x ∧ x ≤ 3) (hva : 0 ≤ va' ∧ va' ≤ 9999) (cs : CS K i σ (i + 1) (rfS τ x)) : OutZ K B t len σ i w wa d 0 f' m' a' tk' ta va' x ta d' c' k' l' := by
  refine Or.inr ⟨rfl, hva, i + 1, rfS τ x, cs, mkFt h.2.1.2.2.1 (by rw [h.2.1.2.2.2.2.2]; exact hH.2.1.1) h.2.1.2.2.2.2.1 (h.rg hC) hx h0, (h.2.2.2.2 d).trans (Int.le_refl d) rfS_fz, ?_, ?_⟩
  · show 0 ≤ τ.1 2 7
    rw [h.2.2.1 7 (by decide)]; have := hC.2.2.2.1; omega
  · show τ.1 2 7 ≤ 40
    rw [h.2.2.1 7 (by decide)]; have := hC.2.2.2.1; omega
theorem stm_ok (g : Gl t len) (S : Sz B t len σ i f m a tk ta va d c kst l) (h1 : tk ≠ 125 ∨ d = 0) (h2 : tk ≠ 0 ∨ 0 < d)
    (br : ∀ k v τ, Hd 0 t len σ i k v ta a → Tau t len σ τ k v ta a f m → (k = 6 ∧ tk = 5) ∨ (k = 8 ∧ tk = 7) → kst < 40 → (∀ (K0 : Int → Sg → Prop) (σ' : Sg), (∀ P : Sg → Prop, P σ' → wp5_R_takeStatement τ P) → CS K0 i σ (i + 1) σ') → (0 ≤ ta ∧ ta < a ∧ a ≤ len ∧ σ.1 3 5 ≤ ta) → StRes (n + 1) K B t len σ i f m a tk ta va w wa d c kst l) :
    StRes (n + 1) K B t len σ i f m a tk ta va w wa d c kst l := by
  obtain ⟨k, v, τ, H, hR, hv, hg, hτ, step⟩ := st_tok g S
  obtain ⟨hT, hC, hE⟩ := S
  have hC0 := hC
  obtain ⟨hq, hd, hc, hk, hl, hB, h0⟩ := hC
  have h35 := hT.2.2.1
  have hva := hT.2.2.2.2.2
  have rst := hR.st ⟨hg.1, hg.2.1⟩ hg.2.2.2.2.2.2.2.2.2
  have hsg := hR.is hg.1 hg.2.2.2.2.2.2.2.2.2
  have e7 : τ.1 2 7 = kst := (hτ.2.2.1 7 (by decide)).trans hk.1.symm
  have e13 : τ.1 2 13 = d := (hτ.2.2.1 13 (by decide)).trans hd.1.symm
  have e3 : τ.1 2 3 = σ.1 2 3 := hτ.2.2.1 3 (by decide)
  by_cases hst : isSt k v
  · have htk := rst.1.mp hst
    obtain ⟨s, hs⟩ : ∃ s : Int, (320 ≤ tk ∧ s = 1) ∨ (s = 0 ∧ (tk = 3 ∨ tk = 4 ∨ tk = 5 ∨ tk = 7)) := by
      rcases htk with z | z
      · exact ⟨1, Or.inl ⟨z, rfl⟩⟩
      · exact ⟨0, Or.inr ⟨rfl, z⟩⟩
    by_cases k40 : kst = 40
    · refine ⟨0, f, m, a, tk, ta, va, 3, ta, d, c, kst, l, fun P hP => rs_any hs ?_, z_bad hC0 hτ H (by omega) (by omega) hva (step K _ (fun P hP => ts_any hτ.2.1.1 hτ.2.1.2.1 hst ?_)), fun z => absurd z (by decide)⟩
      · unfold wp_statement_59 wp_bad
        exact ⟨fun z => absurd k40 z, fun _ => ⟨Or.inl rfl, hP⟩⟩
      · unfold wp5_R_takeStatement_118
        exact ⟨fun z => absurd z (by omega), fun _ => hP⟩
    · have k1 : k ≠ 1 := by unfold isSt at hst; omega
      have hta := hg.2.2.2.2.2.1 k1
      have bs : ∀ P : Sg → Prop, wp5_R_beginStatement (pU τ 2 7 (kst + 1)) k P → wp5_R_takeStatement τ P := by
        intro P hP
        refine ts_any hτ.2.1.1 hτ.2.1.2.1 hst ?_
        unfold wp5_R_takeStatement_118
        rw [e7, hτ.2.1.1]
        exact ⟨fun _ => ⟨⟨by omega, by omega⟩, hP⟩, fun z => absurd z (by omega)⟩
      -- one thing behind the row
      have ad1 : ∀ x, (adS (pU τ 2 7 (kst + 1)) (σ.1 2 3) x).2.2.1 0 (σ.1 2 3) = m + 1 := fun x => by
        rw [adS_len]
        show τ.2.2.1 0 (σ.1 2 3) + 1 = m + 1
        rw [hτ.2.2.2.1.1]
      have ad2 : ∀ x j, 0 ≤ j → j < m + 1 → uZ f m x j = (adS (pU τ 2 7 (kst + 1)) (σ.1 2 3) x).2.2.2 0 (σ.1 2 3) j := fun x j j0 j1 => by
        rw [adS_cell]
        show uZ f m x j = if j = τ.2.2.1 0 (σ.1 2 3) then x else τ.2.2.2 0 (σ.1 2 3) j
        rw [hτ.2.2.2.1.1]
        unfold uZ
        by_cases q : j = m
        · rw [if_pos q, if_pos q]
        · rw [if_neg q, if_neg q]; exact hτ.2.2.2.1.2 j j0 (by omega)
      have adok : ∀ (x : Int) (P : Sg → Prop), P (adS (pU τ 2 7 (kst + 1)) (σ.1 2 3) x) → wp5_W_add (pU τ 2 7 (kst + 1)) (σ.1 2 3) x P := fun x P hP => add_at (by show 0 ≤ τ.2.2.1 0 (σ.1 2 3); rw [hτ.2.2.2.1.1]; omega) (by show τ.2.2.1 0 (σ.1 2 3) < capI (σ.1 2 3); rw [hτ.2.2.2.1.1, hq.2.2]; omega) hP
      have fz0 : ∀ x, Fz d σ (adS (pU τ 2 7 (kst + 1)) (σ.1 2 3) x) := fun x => by
        have q := adS_fz (d := d) (τ := pU τ 2 7 (kst + 1)) (v := x)
        rw [show (pU τ 2 7 (kst + 1)).1 2 3 = σ.1 2 3 from e3] at q
        exact (hτ.2.2.2.2 d).trans (Int.le_refl d) ((Fz.up (σ' := pU τ 2 7 (kst + 1)) (fun a b z => pU_ne (by omega)) rfl).trans (Int.le_refl d) q)
      have hstk : ∀ j, 0 ≤ j → j < d → τ.2.1 5 j ≠ 0 := fun j j0 j1 => by rw [hτ.2.1.2.2.2.2.2]; exact hd.2.2.2 j j0 j1
      by_cases kb : k = 6 ∨ k = 8
      · exact br k v τ H hτ (by omega) (by omega) step (by omega)
      · have ec : ∀ x, (adS (pU τ 2 7 (kst + 1)) (σ.1 2 3) x).1 = (pU τ 2 7 (kst + 1)).1 := fun _ => rfl
        have hT1 : τ.1 2 4 = σ.1 2 4 := hτ.2.2.1 4 (by decide)
        by_cases k5 : k = 5
        · -- fail
          have t4 : tk = 4 := rst.2.2.2.1.mp k5
          obtain ⟨σ1, e1⟩ : ∃ σ1, σ1 = pU (adS (pU τ 2 7 (kst + 1)) (σ.1 2 3) 111) 2 5 4 := ⟨_, rfl⟩
          have cs1 : CS K i σ (i + 1) σ1 := by
            rw [e1]
            refine step K _ (fun P hP => bs P ?_)
            unfold wp5_R_beginStatement
            refine ⟨fun _ => ⟨fun z => absurd k5 z, fun _ => ⟨by show 0 ≤ τ.1 2 3 ∧ τ.1 2 3 < 35; rw [e3]; exact ⟨hq.1, hq.2.1⟩, ?_⟩⟩, fun z => absurd z (by omega)⟩
            show wp5_W_add (pU τ 2 7 (kst + 1)) (τ.1 2 3) 111 _
            rw [e3]
            exact adok 111 _ hP
          have fz1 : Fz d σ σ1 := by rw [e1]; exact (fz0 111).trans (Int.le_refl d) (Fz.up (fun a b z => pU_ne (by omega)) rfl)
          obtain ⟨a1, tk1, ta1, va1, hT1', ev1⟩ := Tp.next (tk := tk) (va := va) (σ1 := σ1) g H hva k1 (by omega) (by rw [e1]; exact hτ.1.1) (by rw [e1]; exact hτ.2.1.1) (by rw [e1]; show τ.2.1 4 = t; rw [hτ.2.1.2.2.2.2.2]; exact H.2.1.1) (by rw [e1]; exact hτ.2.1.2.2.2.2.1) (by rw [e1]; exact hτ.2.1.2.2.2.1) (by rw [e1]; exact hT1) (by rw [e1]; exact hτ.1.2.1)
          obtain ⟨k2, v2, H2, hR2, hv2, hg2⟩ := Tp.hd g hT1'
          have h352 := hT1'.2.2.1
          have r1 := fz1.row
          have rl1 : σ1.2.2.1 0 (σ.1 2 3) = m + 1 := by rw [e1]; exact ad1 111
          have run : ∀ P : Int → (Int → Int) → Int → Int → Int → Int → Int → Int → Int → Int → Int → Int → Int → Prop, wp_need t len a1 tk1 ta1 va1 w wa 0 59 (fun r154 at0 tok tokAt val wr wrAt => (r154 = 0 ∨ r154 = 1) ∧ P r154 (uZ f m 111) (m + 1) at0 tok tokAt val wr wrAt d c (kst + 1) l) → wp_statement (n + 1) f m t len a tk ta va w wa d c kst 300 l 0 0 P := by
            intro P hP
            refine rs_any hs ?_
            obtain rfl : s = 0 := by omega
            unfold wp_statement_59 wp_write
            refine ⟨fun _ => ⟨⟨by omega, by omega⟩, ev1 _ ⟨fun _ => ⟨fun z => absurd t4 z, fun _ => ⟨⟨by omega, by omega⟩, ⟨by omega, by omega⟩, hP⟩⟩, fun z => absurd rfl z⟩⟩, fun z => absurd z k40⟩
          by_cases k59 : k2 = 59
          · have t59 : tk1 = 59 := (hR2.is hg2.1 hg2.2.2.2.2.2.2.2.2.2 59 (by omega)).mpr k59
            obtain ⟨σ2, e2⟩ : ∃ σ2, σ2 = pU (tpS σ1 k2 v2 ta1 a1) 2 5 0 := ⟨_, rfl⟩
            have cs2 : CS K (i + 1) σ1 (i + 1 + 1) σ2 := by
              rw [e2]
              refine CS_4 H2 (by rw [e1]; rfl) (fun P hP => ?_)
              unfold wp5_R_takeSemicolon
              exact ⟨fun z => absurd k59 z, fun _ => hP⟩
            have fz2 : Fz d σ1 σ2 := by rw [e2]; exact tpS_fz.trans (Int.le_refl d) (Fz.up (fun a b z => pU_ne (by omega)) rfl)
            obtain ⟨a2, tk2, ta2, va2, hT2', ev2⟩ := Tp.next (tk := tk1) (va := va1) (σ1 := σ2) g H2 hT1'.2.2.2.2.2 (by omega) (by omega) (by rw [e2]; exact H2.1.1) (by rw [e2]; rfl) (by rw [e2]; exact H2.2.1.1) (by rw [e2]; exact H2.2.1.2.1) (by rw [e2]; rfl) (by rw [e2]; rfl) (by rw [e2]; exact hT1'.1.2.2)
            have y3 : σ2.1 2 3 = σ.1 2 3 := (fz2.row).trans r1
            have yl : σ2.2.2.1 0 (σ.1 2 3) = m + 1 := by rw [e2]; exact rl1
            refine ⟨1, uZ f m 111, m + 1, a2, tk2, ta2, va2, w, wa, d, c, kst + 1, l, fun P hP => run P ?_, Or.inl ⟨rfl, ⟨rfl, rfl, rfl⟩, i + 1 + 1, σ2, cs1.trans cs2, ⟨hT2', ⟨by rw [y3]; exact hq, ⟨by rw [e2, e1]; exact e13.symm, hd.2.1, hd.2.2.1, fun j j0 j1 => by rw [fz2.2.2.1 j j1, fz1.2.2.1 j j1]; exact hd.2.2.2 j j0 j1⟩, ⟨by rw [e2, e1]; exact hc.1.trans (hτ.2.2.1 8 (by decide)).symm, by rw [e2, e1]; exact (hτ.2.2.1 9 (by decide)).trans hc.2.1, hc.2.2⟩, ⟨by rw [e2, e1]; rfl, by omega, by omega⟩, hl, by omega, by rw [y3, yl]; omega⟩, Or.inl ⟨by rw [e2]; rfl, by rw [y3, yl], fun j j0 j1 => by rw [y3, e2, e1]; exact ad2 111 j j0 j1⟩⟩, fz1.trans (Int.le_refl d) fz2⟩, fun _ => ⟨[111], Or.inr (Or.inl rfl), wr1, by rw [cp_no (by omega), cp_nil]; omega, by rw [cs_yes (by omega), cs_nil]; omega⟩⟩
            unfold wp_need
            exact ⟨fun _ => ev2 _ ⟨Or.inr rfl, hP⟩, fun z => absurd t59 z⟩
          · have t59 : tk1 ≠ 59 := fun z => k59 ((hR2.is hg2.1 hg2.2.2.2.2.2.2.2.2.2 59 (by omega)).mp z)
            refine ⟨0, uZ f m 111, m + 1, a1, tk1, ta1, va1, 1, ta1, d, c, kst + 1, l, fun P hP => run P ?_, Or.inr ⟨rfl, hT1'.2.2.2.2.2, i + 1 + 1, rfS (tpS σ1 k2 v2 ta1 a1) 1, cs1.trans (CS_4 H2 (by rw [e1]; rfl) (fun P hP => ?_)), mkFt rfl H2.2.1.1 H2.2.1.2.1 ⟨?_, ?_, ?_⟩ (by omega) (by omega), fz1.trans (Int.le_refl d) (tpS_fz.trans (Int.le_refl d) rfS_fz), ?_, ?_⟩, fun z => absurd z (by decide)⟩
            · unfold wp_need wp_bad
              exact ⟨fun z => absurd z t59, fun _ => ⟨Or.inl rfl, Or.inl rfl, hP⟩⟩
            · unfold wp5_R_takeSemicolon
              exact ⟨fun _ => hP, fun z => absurd z k59⟩
            · show 0 ≤ σ1.1 2 13 ∧ σ1.1 2 13 ≤ 8
              rw [show σ1.1 2 13 = d by rw [e1]; exact e13]; omega
            · show 0 ≤ σ1.1 2 8 ∧ σ1.1 2 8 ≤ 300
              rw [show σ1.1 2 8 = c by rw [e1]; exact (hτ.2.2.1 8 (by decide)).trans hc.1.symm]; omega
            · show 0 ≤ σ1.2.2.1 0 (σ1.1 2 3) ∧ σ1.2.2.1 0 (σ1.1 2 3) ≤ capI (σ1.1 2 3)
              rw [r1, rl1, hq.2.2]; omega
            · show 0 ≤ σ1.1 2 7
              rw [show σ1.1 2 7 = kst + 1 by rw [e1]; rfl]; omega
            · show σ1.1 2 7 ≤ 40
              rw [show σ1.1 2 7 = kst + 1 by rw [e1]; rfl]; omega
        · have q3 : 0 ≤ τ.1 2 3 ∧ τ.1 2 3 < 35 := by rw [e3]; exact ⟨hq.1, hq.2.1⟩
          by_cases k4 : k = 4
          · -- out
            have t3 : tk = 3 := rst.2.2.1.mp k4
            have s0 : s = 0 := by omega
            obtain ⟨A, eA⟩ : ∃ A, A = adS (pU τ 2 7 (kst + 1)) (σ.1 2 3) 110 := ⟨_, rfl⟩
            have cs1 : CS K i σ (i + 1) (beS A 0) := by
              rw [eA]
              refine step K _ (fun P hP => bs P ?_)
              unfold wp5_R_beginStatement
              refine ⟨fun z => absurd k4 z, fun _ => ⟨q3, ?_⟩⟩
              show wp5_W_add (pU τ 2 7 (kst + 1)) (τ.1 2 3) 110 _
              rw [e3]
              refine adok 110 _ ?_
              unfold wp5_R_beginExpression
              exact ⟨q3, hP⟩
            have fz1 : Fz d σ A := by rw [eA]; exact fz0 110
            obtain ⟨a1, tk1, ta1, va1, hT1', ev1⟩ := Tp.next (tk := tk) (va := va) (σ1 := beS A 0) g H hva k1 (by omega) (by rw [eA]; exact hτ.1.1) (by rw [eA]; exact hτ.2.1.1) (by rw [eA]; show τ.2.1 4 = t; rw [hτ.2.1.2.2.2.2.2]; exact H.2.1.1) (by rw [eA]; exact hτ.2.1.2.2.2.2.1) (by rw [eA]; exact hτ.2.1.2.2.2.1) (by rw [eA]; exact hT1) (by rw [eA]; exact hτ.1.2.1)
            obtain ⟨ok, f', m', a', tk', ta', va', w', wa', d', c', l', ev, out⟩ := be_semi (K := K) (B := B) (w := w) (wa := wa) (f := f) (x := 110) g cs1 fz1 hC0 (by omega) (by rw [eA]; rfl) (by rw [eA]; exact e13) (by rw [eA]; exact (hτ.2.2.1 8 (by decide)).trans hc.1.symm) (by rw [eA]; exact (hτ.2.2.1 9 (by decide)).trans hc.2.1) (by rw [eA]; exact ad1 110) (fun j j0 j1 => by rw [eA]; exact ad2 110 j j0 j1) (Or.inr rfl) hT1'
            refine ⟨ok, f', m', a', tk', ta', va', w', wa', d', c', kst + 1, l', fun P hP => rs_any hs ?_, out⟩
            subst s0
            clear out
            unfold wp_statement_59 wp_write
            refine ⟨fun _ => ⟨⟨by omega, by omega⟩, ev1 _ ⟨fun _ => ⟨fun _ => ⟨fun z => absurd t3 z, fun _ => ⟨⟨by omega, by omega⟩, ⟨by omega, by omega⟩, ?_⟩⟩, fun z => absurd z (by omega)⟩, fun z => absurd rfl z⟩⟩, fun z => absurd z k40⟩
            exact ev (fun r f m a tk ta va w wa d c l => P r f m a tk ta va w wa d c (kst + 1) l) hP
          · -- a SET
            have k3 : k = 3 ∧ v < 6 := by unfold isSt at hst; omega
            have t320 : tk = 320 + v := rst.2.1 k3.1 k3.2
            have v0 := hg.2.2.2.2.2.2.2.2.2 k3.1
            obtain ⟨σ1, e1⟩ : ∃ σ1, σ1 = pU (adS (pU τ 2 7 (kst + 1)) (σ.1 2 3) (100 + v)) 2 5 3 := ⟨_, rfl⟩
            have cs1 : CS K i σ (i + 1) σ1 := by
              rw [e1]
              refine step K _ (fun P hP => bs P ?_)
              unfold wp5_R_beginStatement
              refine ⟨fun _ => ⟨fun _ => ⟨fun z => absurd k3.1 z, fun _ => ⟨q3, ?_⟩⟩, fun z => absurd z (by omega)⟩, fun z => absurd z (by omega)⟩
              show rng (100 + τ.1 3 3) ∧ wp5_W_add (pU τ 2 7 (kst + 1)) (τ.1 2 3) (100 + τ.1 3 3) _
              rw [e3, hτ.2.1.2.1]
              exact ⟨⟨by omega, by omega⟩, adok (100 + v) _ hP⟩
            have fz1 : Fz d σ σ1 := by rw [e1]; exact (fz0 (100 + v)).trans (Int.le_refl d) (Fz.up (fun a b z => pU_ne (by omega)) rfl)
            obtain ⟨a1, tk1, ta1, va1, hT1', ev1⟩ := Tp.next (tk := tk) (va := va) (σ1 := σ1) g H hva k1 (by omega) (by rw [e1]; exact hτ.1.1) (by rw [e1]; exact hτ.2.1.1) (by rw [e1]; show τ.2.1 4 = t; rw [hτ.2.1.2.2.2.2.2]; exact H.2.1.1) (by rw [e1]; exact hτ.2.1.2.2.2.2.1) (by rw [e1]; exact hτ.2.1.2.2.2.1) (by rw [e1]; exact hT1) (by rw [e1]; exact hτ.1.2.1)
            obtain ⟨k2, v2, H2, hR2, hv2, hg2⟩ := Tp.hd g hT1'
            have h352 := hT1'.2.2.1
            have r1 := fz1.row
            have rl1 : σ1.2.2.1 0 (σ.1 2 3) = m + 1 := by rw [e1]; exact ad1 (100 + v)
            have run : ∀ P : Int → (Int → Int) → Int → Int → Int → Int → Int → Int → Int → Int → Int → Int → Int → Prop, wp_need t len a1 tk1 ta1 va1 w wa 0 61 (fun r112 at0 tok tokAt val wr wrAt => (r112 = 0 → P 0 (uZ f m (100 + v)) (m + 1) at0 tok tokAt val wr wrAt d c (kst + 1) l) ∧ (r112 ≠ 0 → wp_sumUp 100 (uZ f m (100 + v)) (m + 1) t len at0 tok tokAt val wr wrAt d c 300 l 0 0 (fun r f1 m1 a1 t1 ta1 v1 w1 wa1 d1 c1 l1 => (r = 0 → P 0 f1 m1 a1 t1 ta1 v1 w1 wa1 d1 c1 (kst + 1) l1) ∧ (r ≠ 0 → wp_need t len a1 t1 ta1 v1 w1 wa1 0 59 (fun r2 a2 t2 ta2 v2 w2 wa2 => (r2 = 0 → P 0 f1 m1 a2 t2 ta2 v2 w2 wa2 d1 c1 (kst + 1) l1) ∧ (r2 ≠ 0 → P 1 f1 m1 a2 t2 ta2 v2 w2 wa2 d1 c1 (kst + 1) l1)))))) → wp_statement (n + 1) f m t len a tk ta va w wa d c kst 300 l 0 0 P := by
              intro P hP
              refine rs_any hs ?_
              obtain rfl : s = 1 := by omega
              have ex : (100 + tk) - 320 = 100 + v := by omega
              unfold wp_statement_59 wp_write
              rw [ex]
              exact ⟨fun _ => ⟨⟨by omega, by omega⟩, ev1 _ ⟨fun z => absurd z (by decide), fun _ => ⟨⟨by omega, by omega⟩, ⟨by omega, by omega⟩, ⟨by omega, by omega⟩, hP⟩⟩⟩, fun z => absurd z k40⟩
            by_cases k61 : k2 = 61
            · have t61 : tk1 = 61 := (hR2.is hg2.1 hg2.2.2.2.2.2.2.2.2.2 61 (by omega)).mpr k61
              obtain ⟨A, eA⟩ : ∃ A, A = tpS σ1 k2 v2 ta1 a1 := ⟨_, rfl⟩
              have cs2 : CS K (i + 1) σ1 (i + 1 + 1) (beS A 0) := by
                rw [eA]
                refine CS_3 H2 (by rw [e1]; rfl) (fun P hP => ?_)
                unfold wp5_R_takeSetSign wp5_R_beginExpression
                refine ⟨fun z => absurd k61 z, fun _ => ⟨?_, hP⟩⟩
                show 0 ≤ σ1.1 2 3 ∧ σ1.1 2 3 < 35
                rw [r1]; exact ⟨hq.1, hq.2.1⟩
              have fz2 : Fz d σ A := by rw [eA]; exact fz1.trans (Int.le_refl d) tpS_fz
              obtain ⟨a2, tk2, ta2, va2, hT2', ev2⟩ := Tp.next (tk := tk1) (va := va1) (σ1 := beS A 0) g H2 hT1'.2.2.2.2.2 (by omega) (by omega) (by rw [eA]; exact H2.1.1) (by rw [eA]; rfl) (by rw [eA]; exact H2.2.1.1) (by rw [eA]; exact H2.2.1.2.1) (by rw [eA]; rfl) (by rw [eA]; rfl) (by rw [eA]; exact hT1'.1.2.2)
              obtain ⟨ok, f', m', a', tk', ta', va', w', wa', d', c', l', ev, out⟩ := be_semi (K := K) (B := B) (w := w) (wa := wa) (f := f) (x := 100 + v) g (cs1.trans cs2) fz2 hC0 (by omega) (by rw [eA, e1]; rfl) (by rw [eA, e1]; exact e13) (by rw [eA, e1]; exact (hτ.2.2.1 8 (by decide)).trans hc.1.symm) (by rw [eA, e1]; exact (hτ.2.2.1 9 (by decide)).trans hc.2.1) (by rw [eA]; exact rl1) (fun j j0 j1 => by rw [eA, e1]; exact ad2 (100 + v) j j0 j1) (Or.inl (by unfold setC; omega)) hT2'
              refine ⟨ok, f', m', a', tk', ta', va', w', wa', d', c', kst + 1, l', fun P hP => run P ?_, out⟩
              unfold wp_need
              refine ⟨fun _ => ev2 _ ⟨fun z => absurd z (by decide), fun _ => ?_⟩, fun z => absurd t61 z⟩
              exact ev (fun r f m a tk ta va w wa d c l => P r f m a tk ta va w wa d c (kst + 1) l) hP
            · have t61 : tk1 ≠ 61 := fun z => k61 ((hR2.is hg2.1 hg2.2.2.2.2.2.2.2.2.2 61 (by omega)).mp z)
              refine ⟨0, uZ f m (100 + v), m + 1, a1, tk1, ta1, va1, 1, ta1, d, c, kst + 1, l, fun P hP => run P ?_, Or.inr ⟨rfl, hT1'.2.2.2.2.2, i + 1 + 1, rfS (tpS σ1 k2 v2 ta1 a1) 1, cs1.trans (CS_3 H2 (by rw [e1]; rfl) (fun P hP => ?_)), mkFt rfl H2.2.1.1 H2.2.1.2.1 ⟨?_, ?_, ?_⟩ (by omega) (by omega), fz1.trans (Int.le_refl d) (tpS_fz.trans (Int.le_refl d) rfS_fz), ?_, ?_⟩, fun z => absurd z (by decide)⟩
              · unfold wp_need wp_bad
                exact ⟨fun z => absurd z t61, fun _ => ⟨Or.inl rfl, fun _ => hP, fun z => absurd rfl z⟩⟩
              · unfold wp5_R_takeSetSign
                exact ⟨fun _ => hP, fun z => absurd z k61⟩
              · show 0 ≤ σ1.1 2 13 ∧ σ1.1 2 13 ≤ 8
                rw [show σ1.1 2 13 = d by rw [e1]; exact e13]; omega
              · show 0 ≤ σ1.1 2 8 ∧ σ1.1 2 8 ≤ 300
                rw [show σ1.1 2 8 = c by rw [e1]; exact (hτ.2.2.1 8 (by decide)).trans hc.1.symm]; omega
              · show 0 ≤ σ1.2.2.1 0 (σ1.1 2 3) ∧ σ1.2.2.1 0 (σ1.1 2 3) ≤ capI (σ1.1 2 3)
                rw [r1, rl1, hq.2.2]; omega
              · show 0 ≤ σ1.1 2 7
                rw [show σ1.1 2 7 = kst + 1 by rw [e1]; rfl]; omega
              · show σ1.1 2 7 ≤ 40
                rw [show σ1.1 2 7 = kst + 1 by rw [e1]; rfl]; omega
  · refine ⟨0, f, m, a, tk, ta, va, 1, ta, d, c, kst, l, fun P hP => rs_bad (fun z => hst (rst.1.mpr z)) hP, z_bad hC0 hτ H (by omega) (by omega) hva (step K _ (fun P hP => ts_bad hτ.2.1.1 hτ.2.1.2.1 e13 hst ?_ ?_ hP)), fun z => absurd z (by decide)⟩
    · rintro ⟨z1, z2⟩
      have := rst.2.2.2.2.2.2.2.1.mp z1
      omega
    · rintro ⟨z1, z2⟩
      have := (hsg 125 (by omega)).mpr z1
      omega
end SM
