-- ===== the body of a block: class and reference
theorem Fz.low {d d' : Int} {σ σ' : Sg} (h : d ≤ d') (z : Fz d' σ σ') : Fz d σ σ' := (Fz.refl d σ).trans h z
def BkOut (K : Int → Sg → Prop) (B : Int) (t : Int → Int) (len : Int) (σ : Sg) (i x w wa d ok : Int) (f' : Int → Int) (m' a' tk' ta' va' w' wa' d' c' k' l' : Int) : Prop :=
  (ok = 1 ∧ (w' = w ∧ wa' = wa ∧ d' = d) ∧ ∃ i' σ', CS K i σ i' σ' ∧ Tp 0 t len σ' i' a' tk' ta' va' ∧ Cz B σ' m' d c' k' l' ∧ ((x = 112 ∧ σ'.1 2 5 = 1 ∧ σ'.2.2.2 0 (σ'.1 2 3) m' = 113) ∨ (x ≠ 112 ∧ σ'.1 2 5 = 0 ∧ σ'.2.2.2 0 (σ'.1 2 3) m' = 114)) ∧ (σ'.2.2.1 0 (σ'.1 2 3) = m' + 1 ∧ ∀ j, 0 ≤ j → j < m' → f' j = σ'.2.2.2 0 (σ'.1 2 3) j) ∧ Fz d σ σ') ∨
  (ok = 0 ∧ (0 ≤ va' ∧ va' ≤ 9999) ∧ ∃ i' σ', CS K i σ i' σ' ∧ Ft t len σ' w' wa' ∧ Fz d σ σ' ∧ 0 ≤ σ'.1 2 7 ∧ σ'.1 2 7 ≤ 40)
theorem BkOut.pre {K : Int → Sg → Prop} {B : Int} {t : Int → Int} {len : Int} {σ0 σ : Sg} {i0 i x w wa d ok : Int} {f' : Int → Int} {m' a' tk' ta' va' w' wa' d' c' k' l' : Int} (cs : CS K i0 σ0 i σ) (fz : Fz d σ0 σ) (h : BkOut K B t len σ i x w wa d ok f' m' a' tk' ta' va' w' wa' d' c' k' l') : BkOut K B t len σ0 i0 x w wa d ok f' m' a' tk' ta' va' w' wa' d' c' k' l' := by
  rcases h with ⟨h1, h2, i', σ', h3, h4, h5, h6, h7, h8⟩ | ⟨h1, h2, i', σ', h3, h4, h5, h6⟩
  · exact Or.inl ⟨h1, h2, i', σ', cs.trans h3, h4, h5, h6, h7, fz.trans (Int.le_refl _) h8⟩
  · exact Or.inr ⟨h1, h2, i', σ', cs.trans h3, h4, fz.trans (Int.le_refl _) h5, h6⟩
def StOk (K : Int → Sg → Prop) (t : Int → Int) (len : Int) (D n : Nat) : Prop := ∀ (B : Int) (σ : Sg) (i : Int) (f : Int → Int) (m a tk ta va w wa d c kst l : Int), Sz B t len σ i f m a tk ta va d c kst l → (tk ≠ 125 ∨ d = 0) → (tk ≠ 0 ∨ 0 < d) → 8 - d ≤ D → StRes n K B t len σ i f m a tk ta va w wa d c kst l
def BdR (n : Nat) (K : Int → Sg → Prop) (B : Int) (t : Int → Int) (len : Int) (σ : Sg) (i x : Int) (f : Int → Int) (m a tk ta va w wa d c kst l : Int) : Prop :=
  ∃ ok f' m' a' tk' ta' va' w' wa' d' c' k' l', (∀ P, P ok f' m' a' tk' ta' va' w' wa' d' c' k' l' → wl12 (wp_block_11 (wp_statement n) P t len 300 0 0) f m a tk ta va w wa (d + 1) c kst l) ∧ BkOut K B t len σ i x w wa d ok f' m' a' tk' ta' va' w' wa' d' c' k' l' ∧ (ok = 1 → ∃ s, Sq s ∧ Wr f m s f' m' ∧ c' = c + cp s ∧ k' = kst + cs s)
section BD
variable {K : Int → Sg → Prop} {B len i x m a tk ta va w wa d c kst l : Int} {t f : Int → Int} {σ : Sg} {n : Nat}
theorem close_at {τ : Sg} {P : Sg → Prop} {q : Int} (hd : τ.1 2 13 = d + 1) (h0 : 0 ≤ d ∧ d < 8) (hq : τ.1 2 3 = q ∧ 0 ≤ q ∧ q < 35) (hr : 0 ≤ τ.2.2.1 0 q ∧ τ.2.2.1 0 q < capI q) (k125 : τ.1 3 2 = 125) (h1 : τ.2.1 5 d = 112 → P (pU (adS (pU τ 2 13 d) q 113) 2 5 1)) (h2 : τ.2.1 5 d ≠ 112 → P (pU (adS (pU τ 2 13 d) q 114) 2 5 0)) : wp5_R_takeStatement τ P := by
  have e1 : d + 1 - 1 = d := by omega
  have cb : wp5_R_closeBlock τ (fun s => P s) := by
    unfold wp5_R_closeBlock
    rw [hd, e1, hq.1]
    refine ⟨fun z => absurd z (by omega), fun _ => ⟨fun _ => ⟨⟨by omega, by omega⟩, ⟨by omega, by omega⟩, fun z => ⟨hq.2, ?_⟩, fun z => ⟨hq.2, ?_⟩⟩, fun z => absurd z (by omega)⟩⟩
    · exact add_at hr.1 hr.2 (h2 z)
    · exact add_at hr.1 hr.2 (h1 z)
  unfold wp5_R_takeStatement wp5_R_takeStatement_21
  rw [k125, hd]
  exact ⟨fun _ => ⟨fun z => absurd rfl z, fun _ => ⟨fun z => absurd z (by omega), fun _ => cb⟩⟩, fun z => absurd z (by decide)⟩
theorem bd_close (g : Gl t len) (S : Sz B t len σ i f m a tk ta va (d + 1) c kst l) (hx : σ.2.1 5 d = x) (h0 : 0 ≤ d) (t125 : tk = 125) : BdR n K B t len σ i x f m a tk ta va w wa d c kst l := by
  obtain ⟨k, v, τ, H, hR, hv, hg, hτ, step⟩ := st_tok g S
  obtain ⟨hT, hC, hE⟩ := S
  obtain ⟨hq, hd, hc, hk, hl, hB, h0'⟩ := hC
  have h35 := hT.2.2.1
  have hva := hT.2.2.2.2.2
  have k125 : k = 125 := (hR.is hg.1 hg.2.2.2.2.2.2.2.2.2 125 (by omega)).mp t125
  have k1 : k ≠ 1 := by omega
  have hta := hg.2.2.2.2.2.1 k1
  have e13 : τ.1 2 13 = d + 1 := (hτ.2.2.1 13 (by decide)).trans hd.1.symm
  have e3 : τ.1 2 3 = σ.1 2 3 := hτ.2.2.1 3 (by decide)
  have e4 : τ.1 2 4 = σ.1 2 4 := hτ.2.2.1 4 (by decide)
  have exx : τ.2.1 5 d = x := by rw [hτ.2.1.2.2.2.2.2]; exact hx
  obtain ⟨y, s, hy⟩ : ∃ y s : Int, (x = 112 ∧ s = 1 ∧ y = 113) ∨ (x ≠ 112 ∧ s = 0 ∧ y = 114) := by
    by_cases z : x = 112
    · exact ⟨113, 1, Or.inl ⟨z, rfl, rfl⟩⟩
    · exact ⟨114, 0, Or.inr ⟨z, rfl, rfl⟩⟩
  obtain ⟨σ1, e1⟩ : ∃ σ1, σ1 = pU (adS (pU τ 2 13 d) (σ.1 2 3) y) 2 5 s := ⟨_, rfl⟩
  have cs1 : CS K i σ (i + 1) σ1 := by
    rw [e1]
    refine step K _ (fun P hP => close_at e13 (by omega) ⟨e3, hq.1, hq.2.1⟩ ⟨by rw [hτ.2.2.2.1.1]; omega, by rw [hτ.2.2.2.1.1, hq.2.2]; omega⟩ (hτ.2.1.1.trans k125) (fun z => ?_) (fun z => ?_))
    · rw [exx] at z
      obtain ⟨_, rfl, rfl⟩ | ⟨z2, _⟩ := hy
      · exact hP
      · exact absurd z z2
    · rw [exx] at z
      obtain ⟨z2, _⟩ | ⟨_, rfl, rfl⟩ := hy
      · exact absurd z2 z
      · exact hP
  have fz1 : Fz d σ σ1 := by
    rw [e1]
    have q := adS_fz (d := d) (τ := pU τ 2 13 d) (v := y)
    rw [show (pU τ 2 13 d).1 2 3 = σ.1 2 3 from e3] at q
    exact (hτ.2.2.2.2 d).trans (Int.le_refl d) ((Fz.up (σ' := pU τ 2 13 d) (fun a b z => pU_ne (by omega)) rfl).trans (Int.le_refl d) (q.trans (Int.le_refl d) (Fz.up (fun a b z => pU_ne (by omega)) rfl)))
  obtain ⟨a1, tk1, ta1, va1, hT1, ev1⟩ := Tp.next (tk := tk) (va := va) (σ1 := σ1) g H hva k1 (by omega) (by rw [e1]; exact hτ.1.1) (by rw [e1]; exact hτ.2.1.1) (by rw [e1]; show τ.2.1 4 = t; rw [hτ.2.1.2.2.2.2.2]; exact H.2.1.1) (by rw [e1]; exact hτ.2.1.2.2.2.2.1) (by rw [e1]; exact hτ.2.1.2.2.2.1) (by rw [e1]; exact e4) (by rw [e1]; exact hτ.1.2.1)
  have r1 := fz1.row
  have rl : σ1.2.2.1 0 (σ.1 2 3) = m + 1 := by
    rw [e1]
    show (adS (pU τ 2 13 d) (σ.1 2 3) y).2.2.1 0 (σ.1 2 3) = m + 1
    rw [adS_len]
    show τ.2.2.1 0 (σ.1 2 3) + 1 = m + 1
    rw [hτ.2.2.2.1.1]
  have rc : ∀ j, σ1.2.2.2 0 (σ.1 2 3) j = if j = m then y else τ.2.2.2 0 (σ.1 2 3) j := fun j => by
    rw [e1]
    show (adS (pU τ 2 13 d) (σ.1 2 3) y).2.2.2 0 (σ.1 2 3) j = _
    rw [adS_cell]
    show (if j = τ.2.2.1 0 (σ.1 2 3) then y else τ.2.2.2 0 (σ.1 2 3) j) = _
    rw [hτ.2.2.2.1.1]
  have e5 : σ1.1 2 5 = s := by rw [e1]; rfl
  have e7 : σ1.1 2 7 = kst := by rw [e1]; exact (hτ.2.2.1 7 (by decide)).trans hk.1.symm
  have e8 : σ1.1 2 8 = c := by rw [e1]; exact (hτ.2.2.1 8 (by decide)).trans hc.1.symm
  have e9 : σ1.1 2 9 = 300 := by rw [e1]; exact (hτ.2.2.1 9 (by decide)).trans hc.2.1
  have e13' : σ1.1 2 13 = d := by rw [e1]; rfl
  refine ⟨1, f, m, a1, tk1, ta1, va1, w, wa, d, c, kst, l, fun P hP Q hQ => hQ _ _ _ _ _ _ _ _ _ _ _ _ ?_, Or.inl ⟨rfl, ⟨rfl, rfl, rfl⟩, i + 1, σ1, cs1, hT1, ⟨by rw [r1]; exact hq, ⟨e13'.symm, h0, by omega, fun j j0 j1 => by rw [fz1.2.2.1 j j1]; exact hd.2.2.2 j j0 (by omega)⟩, ⟨e8.symm, e9, hc.2.2⟩, ⟨e7.symm, hk.2⟩, hl, hB, by rw [r1, rl]; omega⟩, ?_, ⟨by rw [r1, rl], fun j j0 j1 => by rw [r1, rc, if_neg (by omega)]; exact hτ.2.2.2.1.2 j j0 j1⟩, fz1⟩, fun _ => ⟨[], Sq.nil, Wr.nil, by rw [cp_nil]; omega, by rw [cs_nil]; omega⟩⟩
  · unfold wp_block_11 wp_closes wp_need
    refine ⟨fun _ => ⟨fun _ => ev1 _ ⟨fun _ => ⟨⟨by omega, by omega⟩, Or.inr rfl, ?_⟩, fun z => absurd z (by decide)⟩, fun z => absurd t125 z⟩, fun z => absurd t125 z⟩
    rw [show d + 1 - 1 = d by omega]
    exact hP
  · rw [e5, r1, rc, if_pos rfl]
    exact hy
theorem bd_step (g : Gl t len) {D : Nat} (hS : StOk K t len D n) (hD : 8 - (d + 1) ≤ D) (S : Sz B t len σ i f m a tk ta va (d + 1) c kst l) (hx : σ.2.1 5 d = x) (h0 : 0 ≤ d)
    (rec : ∀ σ2 i2 f2 m2 a2 tk2 ta2 va2 c2 k2 l2, kst < k2 → Sz B t len σ2 i2 f2 m2 a2 tk2 ta2 va2 (d + 1) c2 k2 l2 → σ2.2.1 5 d = x → BdR n K B t len σ2 i2 x f2 m2 a2 tk2 ta2 va2 w wa d c2 k2 l2) : BdR n K B t len σ i x f m a tk ta va w wa d c kst l := by
  by_cases t125 : tk = 125
  · exact bd_close g S hx h0 t125
  · obtain ⟨ok, f1, m1, a1, tk1, ta1, va1, w1, wa1, d1, c1, k1, l1, ev, out, st⟩ := hS B σ i f m a tk ta va w wa (d + 1) c kst l S (Or.inl t125) (Or.inr (by omega)) hD
    have run : ∀ P Q, (∀ f m a tk ta va w wa d c k l, wp_block_11 (wp_statement n) P t len 300 0 0 Q f m a tk ta va w wa d c k l → Q f m a tk ta va w wa d c k l) → ((ok ≠ 0 → Q f1 m1 a1 tk1 ta1 va1 w1 wa1 d1 c1 k1 l1) ∧ (ok = 0 → P 0 f1 m1 a1 tk1 ta1 va1 w1 wa1 d1 c1 k1 l1)) → Q f m a tk ta va w wa (d + 1) c kst l := by
      intro P Q hQ h
      refine hQ _ _ _ _ _ _ _ _ _ _ _ _ ?_
      unfold wp_block_11
      exact ⟨fun z => absurd z t125, fun _ => ev _ h⟩
    rcases out with ⟨o1, ⟨o2, o3, o4⟩, i', σ', cs', S', fz'⟩ | ⟨o1, ov, i', σ', cs', ft, fz', o7⟩
    · subst o1; subst o2; subst o3; subst o4
      obtain ⟨s, hs, hw, hcp, hcs⟩ := st rfl
      have hge := hs.csp
      obtain ⟨ok2, f2, m2, a2, tk2, ta2, va2, w2, wa2, d2, c2, k2, l2, ev2, out2, st2⟩ := rec σ' i' f1 m1 a1 tk1 ta1 va1 c1 k1 l1 (by omega) S' (by rw [fz'.2.2.1 d (by omega)]; exact hx)
      refine ⟨ok2, f2, m2, a2, tk2, ta2, va2, w2, wa2, d2, c2, k2, l2, fun P hP Q hQ => run P Q hQ ⟨fun _ => ev2 P hP Q hQ, fun z => absurd z (by decide)⟩, out2.pre cs' (fz'.low (by omega)), fun z => ?_⟩
      obtain ⟨s2, hs2, hw2, hcp2, hcs2⟩ := st2 z
      exact ⟨s ++ s2, Sq.cons hs hs2, hw.app hw2, by rw [cp_app, hcp2, hcp]; omega, by rw [cs_app, hcs2, hcs]; omega⟩
    · subst o1
      exact ⟨0, f1, m1, a1, tk1, ta1, va1, w1, wa1, d1, c1, k1, l1, fun P hP Q hQ => run P Q hQ ⟨fun z => absurd rfl z, fun _ => hP⟩, Or.inr ⟨rfl, ov, i', σ', cs', ft, fz'.low (by omega), o7⟩, fun z => absurd z (by decide)⟩
theorem bd_loop (g : Gl t len) {D : Nat} (hS : StOk K t len D n) (hD : 8 - (d + 1) ≤ D) (h0 : 0 ≤ d) : ∀ (N : Nat) (σ : Sg) (i : Int) (f : Int → Int) (m a tk ta va c kst l : Int), 40 - kst ≤ N → Sz B t len σ i f m a tk ta va (d + 1) c kst l → σ.2.1 5 d = x → BdR n K B t len σ i x f m a tk ta va w wa d c kst l
  | 0, σ, i, f, m, a, tk, ta, va, c, kst, l, hN, S, hx => bd_step g hS hD S hx h0 (fun σ2 i2 f2 m2 a2 tk2 ta2 va2 c2 k2 l2 hk S2 _ => by
      have := S2.2.1.2.2.2.1.2.2
      omega)
  | N + 1, σ, i, f, m, a, tk, ta, va, c, kst, l, hN, S, hx => bd_step g hS hD S hx h0 (fun σ2 i2 f2 m2 a2 tk2 ta2 va2 c2 k2 l2 hk S2 h2 => bd_loop g hS hD h0 N σ2 i2 f2 m2 a2 tk2 ta2 va2 c2 k2 l2 (by omega) S2 h2)
end BD
