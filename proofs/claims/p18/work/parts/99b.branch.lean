-- ===== if and while: class and reference
theorem Cz.mv {B B' m m' d c k l : Int} {σ : Sg} (h : Cz B σ m d c k l) (h1 : m' + B' ≤ m + B) (h2 : 0 ≤ B') (h3 : 0 ≤ m') : Cz B' σ m' d c k l := by
  obtain ⟨hq, hd, hc, hk, hl, hB, h0⟩ := h
  exact ⟨hq, hd, hc, hk, hl, ⟨h2, by omega, h3⟩, h0⟩
theorem Cz.cg {B m d c k l : Int} {σ σ' : Sg} (h : Cz B σ m d c k l) (h1 : ∀ b, b ≠ 5 → σ'.1 2 b = σ.1 2 b) (h2 : σ'.2 = σ.2) : Cz B σ' m d c k l := by
  obtain ⟨hq, hd, hc, hk, hl, hB, h0⟩ := h
  unfold Cz
  rw [h1 3 (by decide), h1 13 (by decide), h1 8 (by decide), h1 9 (by decide), h1 7 (by decide), h2]
  exact ⟨hq, hd, hc, hk, hl, hB, h0⟩
theorem wr_if {f f1 f2 f3 f4 f5 f6 : Int → Int} {m m1 m2 m3 m4 m5 m6 x : Int} {a b Bd C : List Int} (h1 : Wr f m [112] f1 m1) (h2 : Wr f1 m1 (x :: (a ++ b)) f2 m2) (h3 : Wr f2 m2 Bd f3 m3) (h4 : Wr f3 m3 [113] f4 m4) (h5 : Wr f4 m4 C f5 m5) (h6 : Wr f5 m5 [114] f6 m6) : Wr f m (112 :: x :: (a ++ (b ++ (Bd ++ (113 :: (C ++ [114])))))) f6 m6 := by
  have := ((((h1.app h2).app h3).app h4).app h5).app h6
  simpa using this
theorem wr_wh {f f1 f2 f3 f4 : Int → Int} {m m1 m2 m3 m4 x : Int} {a b Bd : List Int} (h1 : Wr f m [115] f1 m1) (h2 : Wr f1 m1 (x :: (a ++ b)) f2 m2) (h3 : Wr f2 m2 Bd f3 m3) (h4 : Wr f3 m3 [114] f4 m4) : Wr f m (115 :: x :: (a ++ (b ++ (Bd ++ [114])))) f4 m4 := by
  have := ((h1.app h2).app h3).app h4
  simpa using this
theorem cnt_if {x : Int} {a b Bd C : List Int} (hx : testC x) (ha : Ex lfR a) (hb : Ex lfR b) : cp (112 :: x :: (a ++ (b ++ (Bd ++ (113 :: (C ++ [114])))))) = a.length + b.length + cp Bd + cp C ∧ cs (112 :: x :: (a ++ (b ++ (Bd ++ (113 :: (C ++ [114])))))) = cs Bd + cs C + 1 := by
  unfold testC at hx
  constructor
  · rw [cp_no (by omega), cp_no (by omega), cp_app, cp_app, cp_app, cp_no (by omega), cp_app, cp_no (by omega), cp_nil, ha.cpz, hb.cpz]
    omega
  · rw [cs_yes (by omega), cs_no (by omega), cs_app, cs_app, cs_app, cs_no (by omega), cs_app, cs_no (by omega), cs_nil, ha.csz, hb.csz]
    omega
theorem cnt_wh {x : Int} {a b Bd : List Int} (hx : testC x) (ha : Ex lfR a) (hb : Ex lfR b) : cp (115 :: x :: (a ++ (b ++ (Bd ++ [114])))) = a.length + b.length + cp Bd ∧ cs (115 :: x :: (a ++ (b ++ (Bd ++ [114])))) = cs Bd + 1 := by
  unfold testC at hx
  constructor
  · rw [cp_no (by omega), cp_no (by omega), cp_app, cp_app, cp_app, cp_no (by omega), cp_nil, ha.cpz, hb.cpz]
    omega
  · rw [cs_yes (by omega), cs_no (by omega), cs_app, cs_app, cs_app, cs_no (by omega), cs_nil, ha.csz, hb.csz]
    omega
section BR
variable {K : Int → Sg → Prop} {B len i m a tk ta va w wa d c kst l : Int} {t f : Int → Int} {σ : Sg} {n : Nat}
/-- behind a block's end: the 114 -/
theorem end_row {σ' : Sg} {f' : Int → Int} {m' x : Int} (hx : x ≠ 112) (h1 : (x = 112 ∧ σ'.1 2 5 = 1 ∧ σ'.2.2.2 0 (σ'.1 2 3) m' = 113) ∨ (x ≠ 112 ∧ σ'.1 2 5 = 0 ∧ σ'.2.2.2 0 (σ'.1 2 3) m' = 114)) (h2 : σ'.2.2.1 0 (σ'.1 2 3) = m' + 1 ∧ ∀ j, 0 ≤ j → j < m' → f' j = σ'.2.2.2 0 (σ'.1 2 3) j) : RqE σ' (uZ f' m' 114) (m' + 1) tk := by
  rcases h1 with z | ⟨_, z1, z2⟩
  · exact absurd z.1 hx
  · refine Or.inl ⟨z1, h2.1.symm, fun j j0 j1 => ?_⟩
    by_cases q : j = m'
    · rw [q, uZ_eq, z2]
    · rw [uZ_ne q]; exact h2.2 j j0 (by omega)
theorem wp_237 {P : Int → (Int → Int) → Int → Int → Int → Int → Int → Int → Int → Int → Int → Int → Int → Prop} {f3 : Int → Int} {m3 a3 tk3 ta3 va3 w3 wa3 d3 c3 k3 l3 : Int} (h0 : 0 ≤ m3) (h1 : m3 < 2400) (h : P 1 (uZ f3 m3 114) (m3 + 1) a3 tk3 ta3 va3 w3 wa3 d3 c3 k3 l3) : wp_statement_237 P f3 m3 a3 tk3 ta3 va3 w3 wa3 d3 c3 k3 l3 := by
  unfold wp_statement_237 wp_write
  exact ⟨⟨h0, h1⟩, ⟨by omega, by omega⟩, h⟩
/-- otherwise(): behind an if's block -/
theorem other_both (g : Gl t len) (hS : d < 8 → ∃ D, StOk K t len D n ∧ 8 - (d + 1) ≤ D) (hT : Tp 0 t len σ i a tk ta va) (hC : Cz (B + 2) σ m d c kst l) (hB0 : 0 ≤ B) (h5 : σ.1 2 5 = 1 ∧ σ.2.2.2 0 (σ.1 2 3) m = 113) (hrow : σ.2.2.1 0 (σ.1 2 3) = m + 1 ∧ ∀ j, 0 ≤ j → j < m → f j = σ.2.2.2 0 (σ.1 2 3) j) :
    ∃ ok f' m' a' tk' ta' va' w' wa' d' c' k' l', (∀ P, P ok f' m' a' tk' ta' va' w' wa' d' c' k' l' → wp_otherwise (n + 1 + 1) f m t len a tk ta va w wa d c kst 300 l 0 0 (fun r f1 m1 a1 t1 ta1 v1 w1 wa1 d1 c1 k1 l1 => (r ≠ 0 → wp_statement_237 P f1 m1 a1 t1 ta1 v1 w1 wa1 d1 c1 k1 l1) ∧ (r = 0 → P 0 f1 m1 a1 t1 ta1 v1 w1 wa1 d1 c1 k1 l1))) ∧ OutZ K B t len σ i w wa d ok f' m' a' tk' ta' va' w' wa' d' c' k' l' ∧
      (ok = 1 → ∃ C f5 m5, Sq C ∧ Wr (uZ f m 113) (m + 1) C f5 m5 ∧ Wr f5 m5 [114] f' m' ∧ c' = c + cp C ∧ k' = kst + cs C) := by
  obtain ⟨k, v, H, hR, hv, hg⟩ := Tp.hd g hT
  have rst := hR.st ⟨hg.1, hg.2.1⟩ hg.2.2.2.2.2.2.2.2.2
  have h35 := hT.2.2.1
  have hva := hT.2.2.2.2.2
  have hC0 := hC
  obtain ⟨hq, hd, hc, hk, hl, hB, h0⟩ := hC
  have row1 : ∀ j, 0 ≤ j → j < m + 1 → uZ f m 113 j = σ.2.2.2 0 (σ.1 2 3) j := fun j j0 j1 => by
    by_cases q : j = m
    · rw [q, uZ_eq, h5.2]
    · rw [uZ_ne q]; exact hrow.2 j j0 (by omega)
  by_cases k7 : k = 7
  · have t6 : tk = 6 := rst.2.2.2.2.2.2.1.mp k7
    have k1 : k ≠ 1 := by omega
    have hta := hg.2.2.2.2.2.1 k1
    obtain ⟨σ1, e1⟩ : ∃ σ1, σ1 = pU (tpS σ k v ta a) 2 5 2 := ⟨_, rfl⟩
    have cs1 : CS K i σ (i + 1) σ1 := by
      rw [e1]
      refine CS_1 H h5.1 (fun P hP => ?_)
      unfold wp5_R_takeBehindThen
      exact ⟨fun z => absurd k7 z, fun _ => hP⟩
    have fz1 : Fz d σ σ1 := by rw [e1]; exact tpS_fz.trans (Int.le_refl d) (Fz.up (fun a b z => pU_ne (by omega)) rfl)
    obtain ⟨a1, tk1, ta1, va1, hT1, ev1⟩ := Tp.next (tk := tk) (va := va) (σ1 := σ1) g H hva k1 (by omega) (by rw [e1]; exact H.1.1) (by rw [e1]; rfl) (by rw [e1]; exact H.2.1.1) (by rw [e1]; exact H.2.1.2.1) (by rw [e1]; rfl) (by rw [e1]; rfl) (by rw [e1]; exact hT.1.2.2)
    have C1 : Cz (B + 1) σ1 (m + 1) d c kst l := (hC0.mv (by omega) (by omega) (by omega)).cg (fun b z => by rw [e1, pU_ne (Or.inr z)]; exact (tpS_Ot σ k v ta a).2 2 b (by omega)) (by rw [e1]; rfl)
    have r1 := fz1.row
    obtain ⟨ok2, f2, m2, a2, tk2, ta2, va2, w2, wa2, d2, c2, k2, l2, ev2, out2, st2⟩ := block_both (w := w) (wa := wa) (f := uZ f m 113) g hS hT1 C1 ⟨by rw [r1, e1]; exact hrow.1.symm, fun j j0 j1 => by rw [r1, e1]; exact row1 j j0 j1⟩ (by decide) (stp_else (by rw [e1]; rfl))
    have hm0 : 0 ≤ m ∧ m < 2000 := by omega
    have base : ∀ Q, wp_block (n + 1) (uZ f m 113) (m + 1) t len a1 tk1 ta1 va1 w wa d c kst 300 l 0 0 (fun r f1 m1 a1 t1 ta1 v1 w1 wa1 d1 c1 k1 l1 => (r = 0 ∨ r = 1) ∧ Q r f1 m1 a1 t1 ta1 v1 w1 wa1 d1 c1 k1 l1) → wp_otherwise (n + 1 + 1) f m t len a tk ta va w wa d c kst 300 l 0 0 Q := by
      intro Q hQ
      rw [wp_otherwise_s]
      unfold wp_otherwise_b wp_write
      exact ⟨⟨by omega, by omega⟩, ⟨by omega, by omega⟩, fun _ => ev1 _ hQ, fun z => absurd t6 z⟩
    rcases out2 with ⟨o1, ⟨o2, o3, o4⟩, i2, σ2, cs2, hT2, C2, hy, hr2, fz2⟩ | ⟨o1, ov, i2, σ2, cs2, ft2, fz2, o7⟩
    · subst o1; subst o2; subst o3; subst o4
      obtain ⟨s, hs, hw, hcp, hcs⟩ := st2 rfl
      have hm2 := C2.2.2.2.2.2.1
      have hkk := C2.2.2.2.1
      have hcc := C2.2.2.1
      refine ⟨1, uZ f2 m2 114, m2 + 1, a2, tk2, ta2, va2, w2, wa2, d2, c2, k2, l2, fun P hP => base _ (ev2 _ ⟨Or.inr rfl, fun _ => wp_237 (by omega) (by omega) hP, fun z => absurd z (by decide)⟩), Or.inl ⟨rfl, ⟨rfl, rfl, rfl⟩, i2, σ2, cs1.trans cs2, ⟨hT2, C2.mv (by omega) hB0 (by omega), end_row (by decide) hy hr2⟩, fz1.trans (Int.le_refl _) fz2⟩, fun _ => ⟨s, f2, m2, hs, hw, wr1, hcp, hcs⟩⟩
    · subst o1
      exact ⟨0, f2, m2, a2, tk2, ta2, va2, w2, wa2, d2, c2, k2, l2, fun P hP => base _ (ev2 _ ⟨Or.inl rfl, fun z => absurd rfl z, fun _ => hP⟩), Or.inr ⟨rfl, ov, i2, σ2, cs1.trans cs2, ft2, fz1.trans (Int.le_refl _) fz2, o7⟩, fun z => absurd z (by decide)⟩
  · have t6 : tk ≠ 6 := fun z => k7 (rst.2.2.2.2.2.2.1.mpr z)
    refine ⟨1, uZ (uZ f m 113) (m + 1) 114, m + 1 + 1, a, tk, ta, va, w, wa, d, c, kst, l, fun P hP => ?_, Or.inl ⟨rfl, ⟨rfl, rfl, rfl⟩, i, σ, CS.refl, ⟨hT, hC0.mv (by omega) hB0 (by omega), Or.inr ⟨h5.1, t6, by rw [hrow.1], ?_, fun j j0 j1 => ?_⟩⟩, Fz.refl _ _⟩, fun _ => ⟨[], uZ f m 113, m + 1, Sq.nil, Wr.nil, wr1, by rw [cp_nil]; omega, by rw [cs_nil]; omega⟩⟩
    · rw [wp_otherwise_s]
      unfold wp_otherwise_b wp_write
      exact ⟨⟨by omega, by omega⟩, ⟨by omega, by omega⟩, fun z => absurd z t6, fun _ => ⟨fun _ => wp_237 (by omega) (by omega) hP, fun z => absurd z (by decide)⟩⟩
    · rw [show m + 1 + 1 - 1 = m + 1 by omega, uZ_eq]
    · rw [uZ_ne (by omega)]; exact row1 j j0 (by omega)
end BR
