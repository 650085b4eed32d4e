section UN2
variable {K : Int → Sg → Prop} {ru rt most off b0 len : Int} {t : Int → Int} {σ σ' : Sg} {i m a tk ta va w wa d c l : Int} {f : Int → Int}
theorem Le.cg (h3 : σ'.1 2 3 = σ.1 2 3) (h4 : σ'.1 2 4 = σ.1 2 4) (h6 : σ'.1 2 6 = σ.1 2 6) (h2 : σ'.2.2 = σ.2.2) (h : Le ru rt σ l) : Le ru rt σ' l := by
  unfold Le at h ⊢
  rw [h2, h3, h4, h6]; exact h
theorem Rw.cg (h3 : σ'.1 2 3 = σ.1 2 3) (h10 : b0 ≤ σ'.1 2 10) (h2 : σ'.2.2 = σ.2.2) (h : Rw ru off b0 σ f m) : Rw ru off b0 σ' f m := by
  unfold Rw at h ⊢
  rw [h2, h3]; exact ⟨h.1, ⟨h.2.1.1, h.2.1.2.1, h.2.1.2.2.1, h10⟩, h.2.2⟩
theorem Fr.up (h1 : ∀ a b, ((a ≠ 2 ∧ a ≠ 3) ∨ (a = 2 ∧ (b = 3 ∨ b = 4 ∨ b = 6 ∨ b = 7 ∨ b = 9 ∨ b = 12)) ∨ (a = 3 ∧ b < 2)) → σ'.1 a b = σ.1 a b) (h2 : σ'.2 = σ.2) : Fr d b0 σ σ' :=
  ⟨h1, fun a _ _ _ => by rw [h2], fun j _ => by rw [h2]; exact ⟨rfl, rfl, rfl⟩, fun n _ => by rw [h2]; exact ⟨rfl, rfl⟩, fun c _ => by rw [h2]; exact ⟨rfl, rfl⟩, fun j _ => by rw [h2], by rw [h2]; exact Int.le_refl _⟩
theorem lk_bad6 {k v x : Int} {Q : Sg → Int → Prop} {f' : Int → Int} {m' a' tk' ta' va' d' c' l' : Int} (H : Hd ru t len σ i k v ta a) (hs : σ.1 2 5 = 6) (hx : 1 ≤ x ∧ x ≤ 3) (h0 : 0 ≤ ta ∧ ta ≤ len) (hg : RgS σ) (hva' : 0 ≤ va' ∧ va' ≤ 9999) (ev : ∀ P : Sg → Prop, P (rfS (tpS σ k v ta a) x) → wp5_R_takeBehindOperand (tpS σ k v ta a) P) :
    OutE K ru rt most off b0 t len σ i f w wa d c 0 f' m' a' tk' ta' va' x ta d' c' l' Q :=
  Or.inr ⟨rfl, hva', _, _, CS_6 H hs ev, ⟨rfl, rfl, hx.1, hx.2, h0.1, h0.2, H.2.1.1, H.2.1.2.1, hg⟩, Fr.up (fun a b z => by
      show (rfS (tpS σ k v ta _) x).1 a b = _
      unfold rfS tpS
      rw [pU_ne (by omega), pU_ne (by omega), pU_ne (by omega), pU_ne (by omega), pU_ne (by omega), pU_ne (by omega)]) rfl⟩
/-- an outcome behind steps of the class -/
theorem OutE.pre {Q Q' : Sg → Int → Prop} {i1 : Int} {σ1 : Sg} {f1 : Int → Int} {d1 c1 ok : Int} {f' : Int → Int} {m' a' tk' ta' va' w' wa' d' c' l' : Int} (cs : CS K i σ i1 σ1) (fr : Fr d b0 σ σ1) (hd : d1 = d) (hc : c ≤ c1) (hf : ∀ j, j < off + b0 → f1 j = f j) (hQ : ∀ s z, Q s z → Q' s z) (h : OutE K ru rt most off b0 t len σ1 i1 f1 w wa d1 c1 ok f' m' a' tk' ta' va' w' wa' d' c' l' Q) : OutE K ru rt most off b0 t len σ i f w wa d c ok f' m' a' tk' ta' va' w' wa' d' c' l' Q' := by
  subst hd
  rcases h with ⟨h1, ⟨h2, h3, h4, h5⟩, h6, i', s', h7, h8, h9, h10⟩ | ⟨h1, hv, i', s', h7, h8, h9⟩
  · exact Or.inl ⟨h1, ⟨h2, h3, h4, by omega⟩, fun j z => (h6 j z).trans (hf j z), i', s', cs.trans h7, h8, fr.trans (Int.le_refl _) h9, hQ _ _ h10⟩
  · exact Or.inr ⟨h1, hv, i', s', cs.trans h7, h8, fr.trans (Int.le_refl _) h9⟩
theorem bo_op {τ : Sg} {P : Sg → Prop} (h0 : 0 ≤ τ.1 2 13) (h8 : τ.1 2 13 ≤ 8) (h : ∀ s, wp5_R_takeBehindOperand_43 P τ s) : wp5_R_takeBehindOperand τ P := by
  unfold wp5_R_takeBehindOperand wp5_R_takeBehindOperand_42
  exact ⟨fun _ => h 0, fun z => ⟨fun _ => h 0, fun _ => ⟨⟨by omega, by omega⟩, fun _ => h 0, fun _ => h 1⟩⟩⟩
theorem bo_in {τ : Sg} {P : Sg → Prop} (h0 : 0 < τ.1 2 13) (h8 : τ.1 2 13 ≤ 8) (hk : τ.2.1 5 (τ.1 2 13 - 1) = 0) (h : wp5_R_takeBehindOperand_43 P τ 1) : wp5_R_takeBehindOperand τ P := by
  unfold wp5_R_takeBehindOperand
  exact ⟨fun z => absurd z (by omega), fun z => ⟨fun z => absurd z (by omega), fun _ => ⟨⟨by omega, by omega⟩, fun z => absurd hk z, fun _ => h⟩⟩⟩
theorem bo_out {τ : Sg} {P : Sg → Prop} (h8 : τ.1 2 13 ≤ 8) (hk : 0 < τ.1 2 13 → τ.2.1 5 (τ.1 2 13 - 1) ≠ 0) (h : wp5_R_takeBehindOperand_43 P τ 0) : wp5_R_takeBehindOperand τ P := by
  unfold wp5_R_takeBehindOperand wp5_R_takeBehindOperand_42
  exact ⟨fun _ => h, fun z => ⟨fun _ => h, fun _ => ⟨⟨by omega, by omega⟩, fun _ => h, fun y => absurd y (hk z)⟩⟩⟩
/-- the paren's opening, for the class -/
def opS (τ : Sg) (x : Int) : Sg := pU (pF (pF (pF τ 5 (uZ (τ.2.1 5) (τ.1 2 13) x)) 6 (uZ (τ.2.1 6) (τ.1 2 13) (τ.1 2 10))) 7 (uZ (τ.2.1 7) (τ.1 2 13) (τ.1 2 11))) 2 13 (τ.1 2 13 + 1)
theorem open_at {τ : Sg} {x : Int} {P : Int → Sg → Prop} (h0 : 0 ≤ τ.1 2 13) (h8 : τ.1 2 13 < 8) (h : P 1 (opS τ x)) : wp5_R_open τ x P := by
  unfold wp5_R_open
  exact ⟨fun z => absurd z (by omega), fun _ => ⟨fun _ => ⟨⟨by omega, by omega⟩, ⟨by omega, by omega⟩, h⟩, fun z => absurd z (by omega)⟩⟩
theorem open_no {τ : Sg} {x : Int} {P : Int → Sg → Prop} (h8 : 8 ≤ τ.1 2 13) (h : P 0 (rfS τ 3)) : wp5_R_open τ x P := by
  unfold wp5_R_open wp5_R_open_16
  exact ⟨fun z => absurd z (by omega), fun _ => ⟨fun z => absurd z (by omega), fun _ => h⟩⟩
theorem opS_fr {τ : Sg} {x : Int} (hd : d ≤ τ.1 2 13) : Fr d b0 τ (opS τ x) :=
  ⟨fun a b z => by show (pU τ 2 13 (τ.1 2 13 + 1)).1 a b = _; exact pU_ne (by omega), fun a z1 z2 z3 => by
    show (bif Nat.beq a 7 then _ else bif Nat.beq a 6 then _ else bif Nat.beq a 5 then _ else τ.2.1 a) = _
    rw [show Nat.beq a 7 = false from Bool.eq_false_iff.mpr (fun q => z3 (Nat.eq_of_beq_eq_true q)), show Nat.beq a 6 = false from Bool.eq_false_iff.mpr (fun q => z2 (Nat.eq_of_beq_eq_true q)), show Nat.beq a 5 = false from Bool.eq_false_iff.mpr (fun q => z1 (Nat.eq_of_beq_eq_true q))]
    rfl, fun j z => ⟨uZ_ne (by omega), uZ_ne (by omega), uZ_ne (by omega)⟩, fun _ _ => ⟨rfl, rfl⟩, fun _ _ => ⟨rfl, rfl⟩, fun _ _ => rfl, Int.le_refl _⟩
theorem tpS_fr {k v pl nx : Int} : Fr d b0 σ (tpS σ k v pl nx) := Fr.up (fun a b z => (tpS_Ot σ k v pl nx).2 a b (by omega)) rfl
theorem unit_ok (g : Gl t len) {D : Nat} (hSum : ∀ D', D = D' + 1 → SumOk K ru rt most off b0 t len D') : UnitOk K ru rt most off b0 t len D := by
  intro n hn σ i f m a tk ta va w wa d c l S hD
  obtain ⟨n, rfl⟩ : ∃ n', n = n' + 1 := ⟨n - 1, by omega⟩
  obtain ⟨k, v, H, hR, hv, hg⟩ := Tp.hd g S.2.1
  have S0 := S
  obtain ⟨hs, hT, ⟨hq, hb, hm, hf⟩, ⟨hd, ⟨hc0, hcc⟩, hp⟩, hLe⟩ := S
  subst hc0
  have hva := hT.2.2.2.2.2
  have cap := capI_pos (σ.1 2 3)
  have h35 := hT.2.2.1
  by_cases k40 : k = 40
  · have t40 : tk = 40 := by unfold RT at hR; omega
    by_cases d8 : d = 8
    · refine ⟨0, f, m, a, tk, ta, va, 3, ta, d, σ.1 2 8, l, fun P hP => ?_, lk_bad5 H hs (by omega) (by omega) S0.rg hva (fun P hP => ?_), fun z => absurd z (by decide)⟩
      · show wp_unit_b (wp_sumUp n) (wp_product n) (wp_unit n) f m t len a tk ta va w wa d (σ.1 2 8) most l ru rt P
        unfold wp_unit_b wp_opens wp_bad
        exact ⟨fun z => absurd t40 z, fun _ => ⟨fun _ => ⟨fun z => absurd d8 z, fun _ => ⟨Or.inl rfl, fun _ => hP, fun z => absurd rfl z⟩⟩, fun z => absurd t40 z⟩⟩
      · unfold wp5_R_takeOperand
        refine ⟨fun z => absurd k40 z, fun _ => ?_⟩
        exact open_no (by show 8 ≤ σ.1 2 13; omega) ⟨fun _ => hP, fun z => absurd rfl z⟩
    · -- the paren is open
      obtain ⟨D', rfl⟩ : ∃ D', D = D' + 1 := ⟨D - 1, by omega⟩
      have hSum := hSum D' rfl
      obtain ⟨σ1, e1⟩ : ∃ σ1, σ1 = pU (pU (opS (tpS σ k v ta a) 0) 2 10 (σ.2.2.1 0 (σ.1 2 3))) 2 11 (σ.2.2.1 0 (σ.1 2 3)) := ⟨_, rfl⟩
      have cs1 : CS K i σ (i + 1) σ1 := by
        rw [e1]
        refine CS_5 H hs (fun P hP => ?_)
        unfold wp5_R_takeOperand
        refine ⟨fun z => absurd k40 z, fun _ => ?_⟩
        exact open_at (by show 0 ≤ σ.1 2 13; omega) (by show σ.1 2 13 < 8; omega) ⟨fun z => absurd z (by decide), fun _ => ⟨hq, hP⟩⟩
      have fr1 : Fr d b0 σ σ1 := by
        rw [e1]
        refine (tpS_fr (k := k) (v := v) (pl := ta) (nx := a)).trans (Int.le_refl d) ((opS_fr (x := 0) (by show d ≤ σ.1 2 13; omega)).trans (Int.le_refl d) (Fr.up (fun a b z => ?_) rfl))
        rw [pU_ne (by omega), pU_ne (by omega)]
      obtain ⟨a1, tk1, ta1, va1, hT1, ev1⟩ := Tp.next (tk := tk) (va := va) (σ1 := σ1) g H hva (by omega) (by omega) (by rw [e1]; exact H.1.1) (by rw [e1]; rfl) (by rw [e1]; exact H.2.1.1) (by rw [e1]; exact H.2.1.2.1) (by rw [e1]; rfl) (by rw [e1]; rfl) (by rw [e1]; exact hT.1.2.2)
      have S1 : Sy 5 ru rt most off b0 t len σ1 (i + 1) f m a1 tk1 ta1 va1 (d + 1) (σ.1 2 8) l := by
        refine ⟨by rw [e1]; exact hs, hT1, ?_, ?_, ?_⟩
        · exact Rw.cg (by rw [e1]; rfl) (by rw [e1]; show b0 ≤ σ.2.2.1 0 (σ.1 2 3); omega) (by rw [e1]; rfl) ⟨hq, hb, hm, hf⟩
        · unfold Ct
          rw [e1]
          show (d + 1 = σ.1 2 13 + 1 ∧ 0 ≤ d + 1 ∧ d + 1 ≤ 8) ∧ (σ.1 2 8 = σ.1 2 8 ∧ σ.1 2 9 = most ∧ 0 ≤ σ.1 2 8 ∧ σ.1 2 8 ≤ most ∧ most ≤ 300 ∧ σ.2.2.1 0 (σ.1 2 3) + (most - σ.1 2 8) ≤ capI (σ.1 2 3)) ∧ (0 ≤ σ.2.2.1 0 (σ.1 2 3) ∧ σ.2.2.1 0 (σ.1 2 3) ≤ σ.2.2.1 0 (σ.1 2 3) ∧ σ.2.2.1 0 (σ.1 2 3) ≤ σ.2.2.1 0 (σ.1 2 3))
          exact ⟨by omega, ⟨rfl, hcc⟩, by omega, by omega, by omega⟩
        · exact Le.cg (by rw [e1]; rfl) (by rw [e1]; rfl) (by rw [e1]; rfl) (by rw [e1]; rfl) hLe
      obtain ⟨ok2, f2, m2, a2, tk2, ta2, va2, w2, wa2, d2, c2, l2, ev2, out2, st2⟩ := hSum n (by omega) σ1 (i + 1) f m a1 tk1 ta1 va1 w wa (d + 1) (σ.1 2 8) l S1 (by rw [e1]; rfl) (by omega)
      have run : ∀ P, (∀ Q : Int → Int → Int → Int → Int → Int → Int → Int → Prop, (Q = fun r28 at0_r28 token_r28 tokenAt_r28 value_r28 wrong_r28 wrongAt_r28 depth_r28 => (r28 = 0 → P 0 f2 m2 at0_r28 token_r28 tokenAt_r28 value_r28 wrong_r28 wrongAt_r28 depth_r28 c2 l2) ∧ (r28 ≠ 0 → P 1 f2 m2 at0_r28 token_r28 tokenAt_r28 value_r28 wrong_r28 wrongAt_r28 depth_r28 c2 l2)) → (ok2 = 0 → P 0 f2 m2 a2 tk2 ta2 va2 w2 wa2 d2 c2 l2) ∧ (ok2 ≠ 0 → wp_closes t len a2 tk2 ta2 va2 w2 wa2 d2 ru 41 Q)) → wp_unit (n + 1) f m t len a tk ta va w wa d (σ.1 2 8) most l ru rt P := by
        intro P hP
        show wp_unit_b (wp_sumUp n) (wp_product n) (wp_unit n) f m t len a tk ta va w wa d (σ.1 2 8) most l ru rt P
        unfold wp_unit_b wp_opens
        refine ⟨fun z => absurd t40 z, fun _ => ⟨fun _ => ⟨fun _ => ⟨⟨by omega, by omega⟩, ev1 _ ⟨fun z => absurd z (by decide), fun _ => ?_⟩⟩, fun z => absurd z d8⟩, fun z => absurd t40 z⟩⟩
        exact ev2 _ (hP _ rfl)
      rcases out2 with ⟨o1, ⟨o2, o3, o4, o5⟩, o6, i2, σ2, cs2, S2, fr2, oq⟩ | ⟨o1, ov, i2, σ2, cs2, ft2, fr2⟩
      · subst o1; subst o2; subst o3; subst o4
        obtain ⟨k2, v2, H2, hR2, hv2, hg2⟩ := Tp.hd g S2.2.1
        have S20 := S2
        obtain ⟨hs2, hT2, ⟨hq2, hb2, hm2, hf2⟩, ⟨hd2, hcc2, hp2⟩, hLe2⟩ := S2
        have h352 := hT2.2.2.1
        have r23 : σ2.1 2 3 = σ.1 2 3 := fr2.row.trans fr1.row
        have st5 : σ2.2.1 5 d = 0 := by rw [(fr2.2.2.1 d (by omega)).1, e1]; show uZ _ (σ.1 2 13) 0 d = 0; rw [hd.1]; exact uZ_eq
        have st6 : σ2.2.1 6 d = σ.1 2 10 := by rw [(fr2.2.2.1 d (by omega)).2.1, e1]; show uZ _ (σ.1 2 13) _ d = _; rw [hd.1]; exact uZ_eq
        have st7 : σ2.2.1 7 d = σ.1 2 11 := by rw [(fr2.2.2.1 d (by omega)).2.2, e1]; show uZ _ (σ.1 2 13) _ d = _; rw [hd.1]; exact uZ_eq
        have lgrow : σ.2.2.1 0 (σ.1 2 3) ≤ σ2.2.2.1 0 (σ2.1 2 3) := by
          rw [r23]
          exact (fr1.trans (d' := d + 1) (by omega) fr2).2.2.2.2.2.2
        by_cases k41 : k2 = 41
        · have t41 : tk2 = 41 := by unfold RT at hR2; omega
          obtain ⟨σ3, e3⟩ : ∃ σ3, σ3 = pU (pU (pU (tpS σ2 k2 v2 ta2 a2) 2 13 (σ2.1 2 13 - 1)) 2 10 (σ2.2.1 6 (σ2.1 2 13 - 1))) 2 11 (σ2.2.1 7 (σ2.1 2 13 - 1)) := ⟨_, rfl⟩
          have cs3 : CS K i2 σ2 (i2 + 1) σ3 := by
            rw [e3]
            refine CS_6 H2 hs2 (fun P hP => ?_)
            refine bo_in (by show 0 < σ2.1 2 13; omega) (by show σ2.1 2 13 ≤ 8; omega) (by show σ2.2.1 5 (σ2.1 2 13 - 1) = 0; rw [← hd2.1, show d + 1 - 1 = d by omega]; exact st5) ?_
            unfold wp5_R_takeBehindOperand_43
            show (k2 = 43 → _) ∧ (k2 ≠ 43 → (k2 = 45 → _) ∧ (k2 ≠ 45 → (k2 ≠ 42 → ((1 : Int) ≠ 0 → (k2 ≠ 41 → _) ∧ (k2 = 41 → rng (σ2.1 2 13 - 1) ∧ (0 ≤ σ2.1 2 13 - 1 ∧ σ2.1 2 13 - 1 < 8) ∧ P _)) ∧ ((1 : Int) = 0 → _)) ∧ (k2 = 42 → _)))
            exact ⟨fun z => absurd z (by omega), fun _ => ⟨fun z => absurd z (by omega), fun _ => ⟨fun _ => ⟨fun _ => ⟨fun z => absurd k41 z, fun _ => ⟨⟨by omega, by omega⟩, ⟨by omega, by omega⟩, hP⟩⟩, fun z => absurd z (by decide)⟩, fun z => absurd z (by omega)⟩⟩⟩
          have x13 : σ3.1 2 13 = d := by rw [e3]; show σ2.1 2 13 - 1 = d; omega
          have x10 : σ3.1 2 10 = σ.1 2 10 := by rw [e3]; show σ2.2.1 6 (σ2.1 2 13 - 1) = _; rw [← hd2.1, show d + 1 - 1 = d by omega]; exact st6
          have x11 : σ3.1 2 11 = σ.1 2 11 := by rw [e3]; show σ2.2.1 7 (σ2.1 2 13 - 1) = _; rw [← hd2.1, show d + 1 - 1 = d by omega]; exact st7
          have fr3 : Fr d b0 σ2 σ3 := by
            rw [e3]
            refine (tpS_fr (k := k2) (v := v2) (pl := ta2) (nx := a2)).trans (Int.le_refl d) (Fr.up (fun a b z => ?_) rfl)
            rw [pU_ne (by omega), pU_ne (by omega), pU_ne (by omega)]
          obtain ⟨a3, tk3, ta3, va3, hT3, ev3⟩ := Tp.next (tk := tk2) (va := va2) (σ1 := σ3) g H2 hT2.2.2.2.2.2 (by omega) (by omega) (by rw [e3]; exact H2.1.1) (by rw [e3]; rfl) (by rw [e3]; exact H2.2.1.1) (by rw [e3]; exact H2.2.1.2.1) (by rw [e3]; rfl) (by rw [e3]; rfl) (by rw [e3]; exact hT2.1.2.2)
          refine ⟨1, f2, m2, a3, tk3, ta3, va3, w2, wa2, d, c2, l2, fun P hP => run P (fun Q hQ => ⟨fun z => absurd z (by decide), fun _ => ?_⟩), Or.inl ⟨rfl, ⟨rfl, rfl, rfl, o5⟩, o6, i2 + 1, σ3, cs1.trans (cs2.trans cs3), ⟨by rw [e3]; exact hs2, hT3, ?_, ?_, ?_⟩, (fr1.trans (by omega) fr2).trans (Int.le_refl d) fr3, x10, x11⟩, fun _ => st2 rfl⟩
          · unfold wp_closes wp_need
            refine ⟨fun _ => ev3 _ ⟨fun _ => ⟨⟨by omega, by omega⟩, ?_⟩, fun z => absurd z (by decide)⟩, fun z => absurd t41 z⟩
            rw [hQ]
            refine ⟨fun z => absurd z (by decide), fun _ => ?_⟩
            rw [show d + 1 - 1 = d by omega]; exact hP
          · exact Rw.cg (by rw [e3]; rfl) (by rw [x10]; exact hb.2.2.2) (by rw [e3]; rfl) ⟨hq2, hb2, hm2, hf2⟩
          · unfold Ct
            rw [x13, x10, x11, show σ3.1 2 3 = σ2.1 2 3 by rw [e3]; rfl, show σ3.2.2.1 0 = σ2.2.2.1 0 by rw [e3]; rfl, show σ3.1 2 8 = σ2.1 2 8 by rw [e3]; rfl, show σ3.1 2 9 = σ2.1 2 9 by rw [e3]; rfl]
            exact ⟨⟨rfl, by omega, by omega⟩, hcc2, by omega, by omega, by omega⟩
          · exact Le.cg (by rw [e3]; rfl) (by rw [e3]; rfl) (by rw [e3]; rfl) (by rw [e3]; rfl) hLe2
        · have t41 : tk2 ≠ 41 := by unfold RT at hR2; omega
          have hops : k2 ≠ 42 ∧ k2 ≠ 43 ∧ k2 ≠ 45 := hR2.ops oq
          refine ⟨0, f2, m2, a2, tk2, ta2, va2, 1, ta2, d + 1, c2, l2, fun P hP => run P (fun Q hQ => ⟨fun z => absurd z (by decide), fun _ => ?_⟩), ?_, fun z => absurd z (by decide)⟩
          · unfold wp_closes wp_need wp_bad
            refine ⟨fun z => absurd z t41, fun _ => ⟨Or.inl rfl, fun z => absurd rfl z, fun _ => ?_⟩⟩
            rw [hQ]
            exact ⟨fun _ => hP, fun z => absurd rfl z⟩
          · have o := lk_bad6 (K := K) (rt := rt) (most := most) (off := off) (b0 := b0) (f := f2) (w := w2) (wa := wa2) (d := d) (c := c2) (Q := fun σ' _ => σ'.1 2 10 = σ.1 2 10 ∧ σ'.1 2 11 = σ.1 2 11) (f' := f2) (m' := m2) (a' := a2) (tk' := tk2) (ta' := ta2) (va' := va2) (d' := d + 1) (c' := c2) (l' := l2) H2 hs2 (x := 1) (by omega) (by omega) S20.rg hT2.2.2.2.2.2 (fun P hP => by
              refine bo_in (by show 0 < σ2.1 2 13; omega) (by show σ2.1 2 13 ≤ 8; omega) (by show σ2.2.1 5 (σ2.1 2 13 - 1) = 0; rw [← hd2.1, show d + 1 - 1 = d by omega]; exact st5) ?_
              unfold wp5_R_takeBehindOperand_43
              exact ⟨fun z => absurd z hops.2.1, fun _ => ⟨fun z => absurd z hops.2.2, fun _ => ⟨fun _ => ⟨fun _ => ⟨fun _ => hP, fun z => absurd z k41⟩, fun z => absurd z (by decide)⟩, fun z => absurd z hops.1⟩⟩⟩)
            exact OutE.pre (cs1.trans cs2) (fr1.trans (by omega) fr2) rfl o5 o6 (fun _ _ h => h) o
      · subst o1
        exact ⟨0, f2, m2, a2, tk2, ta2, va2, w2, wa2, d2, c2, l2, fun P hP => run P (fun Q hQ => ⟨fun _ => hP, fun z => absurd rfl z⟩), Or.inr ⟨rfl, ov, i2, σ2, cs1.trans cs2, ft2, fr1.trans (by omega) fr2⟩, fun z => absurd z (by decide)⟩
  · have t40 : tk ≠ 40 := by unfold RT at hR; omega
    by_cases k2 : k = 2
    · have t2 : tk = 2 := by unfold RT at hR; omega
      have ev2 := hv k2
      by_cases v16 : v < 16
      · have u : ∀ P, (wp_unit_151 P f m t len a tk ta va w wa d (σ.1 2 8) most ru l) → wp_unit (n + 1) f m t len a tk ta va w wa d (σ.1 2 8) most l ru rt P := by
          intro P hP
          show wp_unit_b (wp_sumUp n) (wp_product n) (wp_unit n) f m t len a tk ta va w wa d (σ.1 2 8) most l ru rt P
          unfold wp_unit_b wp_unit_63 wp_unit_78 wp_unit_97
          exact ⟨fun _ => ⟨fun z => absurd t2 z, fun _ => ⟨fun _ => ⟨fun _ => ⟨fun _ => ⟨fun _ => hP, fun z => absurd rfl z⟩, fun z => absurd t2 z⟩, fun z => absurd z (by omega)⟩, fun z => absurd z (by omega)⟩⟩, fun z => absurd z t40⟩
        by_cases cmo : σ.1 2 8 = most
        · refine ⟨0, f, m, a, tk, ta, va, 3, ta, d, σ.1 2 8, l, fun P hP => u P ?_, lk_bad5 H hs (by omega) (by omega) S0.rg hva (fun P hP => ?_), fun z => absurd z (by decide)⟩
          · unfold wp_unit_151 wp_counts wp_bad
            exact ⟨fun z => absurd cmo z, fun _ => ⟨Or.inl rfl, fun z => absurd rfl z, fun _ => hP⟩⟩
          · unfold wp5_R_takeOperand wp5_R_takeNumber wp5_R_countThing
            exact ⟨fun _ => ⟨fun z => absurd k2 z, fun _ => ⟨fun _ => ⟨fun z => absurd z (by show ¬ σ.1 2 8 < σ.1 2 9; omega), fun _ => ⟨fun _ => hP, fun z => absurd rfl z⟩⟩, fun z => absurd z (by show ¬ 16 ≤ v; omega)⟩⟩, fun z => absurd z k40⟩
        · obtain ⟨a', tk', ta', va', evn, out⟩ := lk_add (K := K) (w := w) (wa := wa) (x := v) (l' := l) g S0 H (by omega) (by omega) (by omega) (fun P hP => by
            unfold wp5_R_takeOperand wp5_R_takeNumber wp5_R_countThing
            refine ⟨fun _ => ⟨fun z => absurd k2 z, fun _ => ⟨fun _ => ⟨fun _ => ⟨⟨by show -2147483648 ≤ σ.1 2 8 + 1; omega, by show σ.1 2 8 + 1 < 2147483648; omega⟩, ⟨fun z => absurd z (by decide), fun _ => ⟨hq, ?_⟩⟩⟩, fun z => absurd z (by show ¬ σ.1 2 9 ≤ σ.1 2 8; omega)⟩, fun z => absurd z (by show ¬ 16 ≤ v; omega)⟩⟩, fun z => absurd z k40⟩
            exact add_at (by show 0 ≤ σ.2.2.1 0 (σ.1 2 3); omega) (by show σ.2.2.1 0 (σ.1 2 3) < capI (σ.1 2 3); omega) hP) (Le.addN (σ := σ) (x := v) rfl rfl rfl rfl (by omega) (adS_len _ _ _) (fun j j0 j1 => by
              by_cases q : j = σ.2.2.1 0 (σ.1 2 3)
              · exact ⟨0, Or.inr ((adS_cell (pU (tpS σ k v ta a) 2 8 (σ.1 2 8 + 1)) (σ.1 2 3) v j).trans (if_pos q))⟩
              · exact ⟨j, Or.inl ⟨j0, by omega, (adS_cell (pU (tpS σ k v ta a) 2 8 (σ.1 2 8 + 1)) (σ.1 2 3) v j).trans (if_neg q)⟩⟩) (fun j j0 j1 => ⟨j, j0, by omega, (adS_cell (pU (tpS σ k v ta a) 2 8 (σ.1 2 8 + 1)) (σ.1 2 3) v j).trans (if_neg (show ¬ j = σ.2.2.1 0 (σ.1 2 3) by omega))⟩) (Or.inl (by omega)) hLe)
          refine ⟨1, _, _, a', tk', ta', va', w, wa, d, σ.1 2 8 + 1, l, fun P hP => u P ?_, out, fun _ => ⟨[cm ru v], Ex.leaf (by rw [cm_lt (by omega)]; exact Or.inl (by omega)), wr1, LBsame hLe.l7 (by rw [cm_lt (by omega)]; omega), by simp⟩⟩
          unfold wp_unit_151 wp_counts
          refine ⟨fun _ => ⟨⟨by omega, by omega⟩, fun _ => ⟨fun z => absurd t2 z, fun _ => ?_⟩, fun z => absurd z (by decide)⟩, fun z => absurd z cmo⟩
          unfold wp_unit_208 wp_write
          refine ⟨⟨by omega, by omega⟩, ⟨by omega, by omega⟩, evn _ ?_⟩
          have e : cm ru v = va := by rw [ev2]; exact cm_lt (by omega)
          rw [e] at hP; exact hP
      · refine ⟨0, f, m, a, tk, ta, va, 2, ta, d, σ.1 2 8, l, fun P hP => ?_, lk_bad5 H hs (by omega) (by omega) S0.rg hva (fun P hP => ?_), fun z => absurd z (by decide)⟩
        · show wp_unit_b (wp_sumUp n) (wp_product n) (wp_unit n) f m t len a tk ta va w wa d (σ.1 2 8) most l ru rt P
          unfold wp_unit_b wp_bad
          exact ⟨fun _ => ⟨fun z => absurd t2 z, fun _ => ⟨fun z => absurd z (by omega), fun _ => ⟨Or.inl rfl, hP⟩⟩⟩, fun z => absurd z t40⟩
        · unfold wp5_R_takeOperand wp5_R_takeNumber
          exact ⟨fun _ => ⟨fun z => absurd k2 z, fun _ => ⟨fun z => absurd z (by show ¬ v < 16; omega), fun _ => hP⟩⟩, fun z => absurd z k40⟩
    · have t2 : tk ≠ 2 := by unfold RT at hR; omega
      have bad1 : tk < 320 → ∀ P, P 0 f m a tk ta va 1 ta d (σ.1 2 8) l → wp_unit (n + 1) f m t len a tk ta va w wa d (σ.1 2 8) most l ru rt P := by
        intro lt P hP
        show wp_unit_b (wp_sumUp n) (wp_product n) (wp_unit n) f m t len a tk ta va w wa d (σ.1 2 8) most l ru rt P
        unfold wp_unit_b wp_unit_63 wp_unit_78 wp_bad
        exact ⟨fun _ => ⟨fun _ => ⟨fun _ => ⟨fun z => absurd z t2, fun _ => ⟨fun z => absurd rfl z, fun _ => ⟨Or.inl rfl, hP⟩⟩⟩, fun z => absurd z (by omega)⟩, fun z => absurd z t2⟩, fun z => absurd z t40⟩
      by_cases k3 : k = 3
      · have hv3 := hg.2.2.2.2.2.2.2.2.2 k3
        have toL : ∀ P, wp5_R_takeLetter (tpS σ k v ta a) P → wp5_R_takeOperand (tpS σ k v ta a) P := by
          intro P hP
          unfold wp5_R_takeOperand
          exact ⟨fun _ => ⟨fun _ => ⟨fun z => absurd k3 z, fun _ => hP⟩, fun z => absurd z k2⟩, fun z => absurd z k40⟩
        have cl : ∀ (b : Int) (P : Sg → Prop), 0 ≤ b → b ≤ 5 → (σ.1 2 8 < most → P (pU (adS (pU (tpS σ k v ta a) 2 8 (σ.1 2 8 + 1)) (σ.1 2 3) (20 + b)) 2 5 6)) → (σ.1 2 8 = most → P (rfS (tpS σ k v ta a) 3)) → wp5_R_takeLetter_91 P (tpS σ k v ta a) b := by
          intro b P b0 b5 h1 h2
          unfold wp5_R_takeLetter_91 wp5_R_countThing
          refine ⟨fun z => ⟨⟨by show -2147483648 ≤ σ.1 2 8 + 1; omega, by show σ.1 2 8 + 1 < 2147483648; omega⟩, ⟨fun y => absurd y (by decide), fun _ => ⟨hq, ⟨by omega, by omega⟩, ?_⟩⟩⟩, fun z => ⟨fun _ => h2 (by have z : σ.1 2 9 ≤ σ.1 2 8 := z; omega), fun y => absurd rfl y⟩⟩
          have z : σ.1 2 8 < σ.1 2 9 := z
          exact add_at (by show 0 ≤ σ.2.2.1 0 (σ.1 2 3); omega) (by show σ.2.2.1 0 (σ.1 2 3) < capI (σ.1 2 3); omega) (h1 (by omega))
        have up1 : 320 ≤ tk → ∀ P, wp_unit_97 P f m t len a tk ta va w wa d (σ.1 2 8) most l ru rt 1 → wp_unit (n + 1) f m t len a tk ta va w wa d (σ.1 2 8) most l ru rt P := by
          intro ge P hP
          show wp_unit_b (wp_sumUp n) (wp_product n) (wp_unit n) f m t len a tk ta va w wa d (σ.1 2 8) most l ru rt P
          unfold wp_unit_b wp_unit_63 wp_unit_78
          exact ⟨fun _ => ⟨fun _ => ⟨fun z => absurd z (by omega), fun _ => ⟨fun z => absurd z t2, fun _ => ⟨fun _ => hP, fun z => absurd z (by decide)⟩⟩⟩, fun z => absurd z t2⟩, fun z => absurd z t40⟩
        have acc : ∀ (b l' : Int), 0 ≤ b → b ≤ 5 → ((ru = 0 ∧ tk = 320 + b) ∨ (ru = 1 ∧ b < 3 ∧ tk = 330 + b)) → Le ru rt (pU (adS (pU (tpS σ k v ta a) 2 8 (σ.1 2 8 + 1)) (σ.1 2 3) (20 + b)) 2 5 6) l' → (∀ P, wp_unit_151 P f m t len a tk ta va w wa d (σ.1 2 8) most ru l' → wp_unit (n + 1) f m t len a tk ta va w wa d (σ.1 2 8) most l ru rt P) → (∀ P, wp5_R_takeLetter_91 P (tpS σ k v ta a) b → wp5_R_takeOperand (tpS σ k v ta a) P) → LB rt l l' [cm ru (20 + b)] → ∃ ok f' m' a' tk' ta' va' w' wa' d' c' l', (∀ P, P ok f' m' a' tk' ta' va' w' wa' d' c' l' → wp_unit (n + 1) f m t len a tk ta va w wa d (σ.1 2 8) most l ru rt P) ∧ OutE K ru rt most off b0 t len σ i f w wa d (σ.1 2 8) ok f' m' a' tk' ta' va' w' wa' d' c' l' (fun σ' _ => σ'.1 2 10 = σ.1 2 10 ∧ σ'.1 2 11 = σ.1 2 11) ∧ (ok = 1 → ∃ e, Ex (lfx ru) e ∧ Wr f m e f' m' ∧ LB rt l l' e ∧ c' = σ.1 2 8 + e.length) := by
          intro b l' b0' b5 hb' hL' u ev hLB
          by_cases cmo : σ.1 2 8 = most
          · refine ⟨0, f, m, a, tk, ta, va, 3, ta, d, σ.1 2 8, l', fun P hP => u P ?_, lk_bad5 H hs (by omega) (by omega) S0.rg hva (fun P hP => ev P (cl b P b0' b5 (fun z => absurd cmo (by omega)) (fun _ => hP))), fun z => absurd z (by decide)⟩
            unfold wp_unit_151 wp_counts wp_bad
            exact ⟨fun z => absurd cmo z, fun _ => ⟨Or.inl rfl, fun z => absurd rfl z, fun _ => hP⟩⟩
          · obtain ⟨a', tk', ta', va', evn, out⟩ := lk_add (K := K) (w := w) (wa := wa) (x := 20 + b) (l' := l') g S0 H (by omega) (by omega) (by omega) (fun P hP => ev P (cl b P b0' b5 (fun _ => hP) (fun z => absurd z cmo))) hL'
            refine ⟨1, _, _, a', tk', ta', va', w, wa, d, σ.1 2 8 + 1, l', fun P hP => u P ?_, out, fun _ => ⟨[cm ru (20 + b)], Ex.leaf (by
              rcases hb' with h | h
              · rw [show cm ru (20 + b) = 20 + b by unfold cm; rw [if_neg (by omega)]]; exact Or.inr (Or.inl (by omega))
              · rw [show cm ru (20 + b) = 30 + b by unfold cm; rw [if_pos (by omega), if_pos (by omega)]; omega]; exact Or.inr (Or.inr (by omega))), wr1, hLB, by simp⟩⟩
            unfold wp_unit_151 wp_counts
            refine ⟨fun _ => ⟨⟨by omega, by omega⟩, fun _ => ⟨fun _ => ⟨fun r0 => ⟨⟨by omega, by omega⟩, ?_⟩, fun r1 => ⟨⟨by omega, by omega⟩, ?_⟩⟩, fun z => absurd z t2⟩, fun z => absurd z (by decide)⟩, fun z => absurd z cmo⟩
            · unfold wp_unit_208 wp_write
              refine ⟨⟨by omega, by omega⟩, ⟨by omega, by omega⟩, evn _ ?_⟩
              have e : cm ru (20 + b) = 20 + tk - 320 := by unfold cm; rw [if_neg (by omega)]; omega
              rw [e] at hP; exact hP
            · unfold wp_unit_208 wp_write
              refine ⟨⟨by omega, by omega⟩, ⟨by omega, by omega⟩, evn _ ?_⟩
              have e : cm ru (20 + b) = 30 + tk - 330 := by unfold cm; rw [if_pos (by omega), if_pos (by omega)]; omega
              rw [e] at hP; exact hP
        have hru := hT.2.2.2.1
        rcases hru.2 with ⟨u0, r0⟩ | ⟨u1, r1⟩
        · have to27 : ∀ P, wp5_R_takeLetter_27 P (tpS σ k v ta a) v → wp5_R_takeOperand (tpS σ k v ta a) P := fun P hP => toL P (by
            unfold wp5_R_takeLetter
            exact ⟨fun _ => hP, fun z => absurd z (by show ¬ 0 ≤ σ.1 2 4; omega)⟩)
          have pu : σ.1 2 6 < 3 := by rcases hLe with h | h; exact h.2.1; omega
          by_cases v6 : v < 6
          · refine acc v l (by omega) (by omega) (by unfold RT at hR; omega) (Or.inl ⟨u0, pu, hLe.l7⟩) (fun P hP => up1 (by unfold RT at hR; omega) P ?_) (fun P hP => to27 P ?_) (LBsame hLe.l7 (by unfold cm; rw [if_neg (by omega)]; omega))
            · unfold wp_unit_97
              exact ⟨fun z => absurd z (by decide), fun _ => ⟨fun _ => hP, fun z => absurd u0 z⟩⟩
            · unfold wp5_R_takeLetter_27 wp5_R_takeLetter_46
              exact ⟨fun z => absurd z (by omega), fun _ => ⟨fun _ => ⟨fun _ => ⟨fun _ => hP, fun z => absurd z (by show ¬ σ.1 2 6 = 4; omega)⟩, fun z => absurd z (by omega)⟩, fun z => absurd z (by show ¬ 0 ≤ σ.1 2 4; omega)⟩⟩
          · have t1 : tk = 1 := by unfold RT at hR; omega
            refine ⟨0, f, m, a, tk, ta, va, 1, ta, d, σ.1 2 8, l, fun P hP => bad1 (by omega) P hP, lk_bad5 H hs (by omega) (by omega) S0.rg hva (fun P hP => to27 P ?_), fun z => absurd z (by decide)⟩
            unfold wp5_R_takeLetter_27 wp5_R_takeLetter_46 wp5_R_takeLetter_49
            exact ⟨fun z => absurd z (by omega), fun _ => ⟨fun _ => ⟨fun z => absurd z v6, fun _ => hP⟩, fun z => absurd z (by show ¬ 0 ≤ σ.1 2 4; omega)⟩⟩
        · have to27 : ∀ P, wp5_R_takeLetter_27 P (tpS σ k v ta a) (v - 23) → wp5_R_takeOperand (tpS σ k v ta a) P := fun P hP => toL P (by
            unfold wp5_R_takeLetter
            exact ⟨fun z => absurd z (by show ¬ σ.1 2 4 < 0; omega), fun _ => ⟨⟨r1, hru.1⟩, ⟨by show -2147483648 ≤ v - 23; omega, by show v - 23 < 2147483648; omega⟩, hP⟩⟩)
          by_cases v23 : v < 23
          · have t1 : tk = 1 := by unfold RT at hR; omega
            refine ⟨0, f, m, a, tk, ta, va, 1, ta, d, σ.1 2 8, l, fun P hP => bad1 (by omega) P hP, lk_bad5 H hs (by omega) (by omega) S0.rg hva (fun P hP => to27 P ?_), fun z => absurd z (by decide)⟩
            unfold wp5_R_takeLetter_27 wp5_R_takeLetter_49
            exact ⟨fun _ => hP, fun z => absurd z (by omega)⟩
          · have tkb : tk = 330 + (v - 23) := by unfold RT at hR; omega
            have eb : tk - 330 = v - 23 := by omega
            have hbb : 0 ≤ v - 23 ∧ v - 23 < 3 := by omega
            have ecm : cm ru (20 + (v - 23)) = 30 + (v - 23) := by unfold cm; rw [if_pos (by omega), if_pos (by omega)]; omega
            rcases hLe with h | ⟨_, hl7, ⟨hrt, hpu, hbit⟩ | ⟨hrt, hpu, hbit⟩⟩
            · omega
            · refine acc (v - 23) (zior l (zishl 1 (v - 23))) (by omega) (by omega) (by omega) (Le.addL (σ := σ) rfl rfl (by omega) (adS_len _ _ _) (fun j => adS_cell (pU (tpS σ k v ta a) 2 8 (σ.1 2 8 + 1)) (σ.1 2 3) (20 + (v - 23)) j) hrt u1 hbb (Or.inr ⟨u1, hl7, Or.inl ⟨hrt, hpu, hbit⟩⟩)) (fun P hP => up1 (by omega) P ?_) (fun P hP => to27 P ?_) (by
                have o := ll_or hl7.1 hl7.2 hbb.1 (show v - 23 ≤ 2 by omega)
                rw [ecm]
                exact ⟨o.1, o.2.1, fun k k0 k2 hk => (o.2.2 k k0 k2 hk).imp id (fun e => by rw [e]; exact List.mem_singleton.mpr rfl), fun z => absurd hrt z⟩)
              · unfold wp_unit_97 wp_unit_141
                rw [eb]
                exact ⟨fun z => absurd z (by decide), fun _ => ⟨fun z => absurd z (by omega), fun _ => ⟨fun _ => hP, fun z => absurd hrt z⟩⟩⟩
              · unfold wp5_R_takeLetter_27 wp5_R_takeLetter_46
                exact ⟨fun z => absurd z (by omega), fun _ => ⟨fun z => absurd z (by show ¬ σ.1 2 4 < 0; omega), fun _ => ⟨⟨r1, hru.1⟩, fun _ => ⟨fun _ => hP, fun z => absurd z (by show ¬ σ.1 2 6 = 4; omega)⟩, fun z => absurd z (by omega)⟩⟩⟩
            · have c46 : ∀ P, wp5_U_hasLetter (tpS σ k v ta a) (σ.1 2 4) (v - 23) (fun r77 => (r77 ≠ 0 → wp5_R_takeLetter_91 P (tpS σ k v ta a) (v - 23)) ∧ (r77 = 0 → wp5_R_refuse (tpS σ k v ta a) 2 (fun s => P s))) → wp5_R_takeOperand (tpS σ k v ta a) P := fun P hP => to27 P (by
                unfold wp5_R_takeLetter_27 wp5_R_takeLetter_46
                exact ⟨fun z => absurd z (by omega), fun _ => ⟨fun z => absurd z (by show ¬ σ.1 2 4 < 0; omega), fun _ => ⟨⟨r1, hru.1⟩, fun _ => ⟨fun z => absurd (show (tpS σ k v ta a).1 2 6 = 4 from hpu) z, fun _ => ⟨fun z => absurd z (by show ¬ σ.1 2 4 < 0; omega), fun _ => ⟨⟨r1, hru.1⟩, hP⟩⟩⟩, fun z => absurd z (by omega)⟩⟩⟩)
              by_cases hbit2 : bitL l (v - 23)
              · have hbr := (hbit (v - 23) hbb.1 hbb.2).mp hbit2
                refine acc (v - 23) l (by omega) (by omega) (by omega) (Or.inr ⟨u1, hl7, Or.inr ⟨hrt, hpu, hbit⟩⟩) (fun P hP => up1 (by omega) P ?_) (fun P hP => c46 P ?_) (by
                  rw [ecm]
                  exact ⟨hl7.1, hl7.2, fun k _ _ h => Or.inl h, fun _ x hx _ _ => by rw [List.mem_singleton.mp hx, show 30 + (v - 23) - 30 = v - 23 by omega]; exact hbit2⟩)
                · unfold wp_unit_97 wp_unit_141
                  rw [eb]
                  refine ⟨fun z => absurd z (by decide), fun _ => ⟨fun z => absurd z (by omega), fun _ => ⟨fun z => absurd z (by omega), fun _ => ⟨fun _ => ?_, fun z => absurd z hbit2⟩⟩⟩⟩
                  rw [bit_same hl7 hbb hbit2]; exact hP
                · unfold wp5_U_hasLetter
                  exact ⟨fun z => absurd z (by omega), fun _ => ⟨fun z => absurd z (by omega), fun _ => ⟨fun z => absurd z hbr, fun _ => ⟨fun _ => hP, fun z => absurd z (by decide)⟩⟩⟩⟩
              · have hbr : ¬ bitR (σ.2.2.1 1 (σ.1 2 4)) (v - 23) := fun q => hbit2 ((hbit (v - 23) hbb.1 hbb.2).mpr q)
                have hz : ziand l (zishl 1 (v - 23)) = 0 := Classical.byContradiction hbit2
                have hz2 : ziand (zishr (σ.2.2.1 1 (σ.1 2 4)) (v - 23)) 1 = 0 := Classical.byContradiction hbr
                refine ⟨0, f, m, a, tk, ta, va, 2, ta, d, σ.1 2 8, l, fun P hP => up1 (by omega) P ?_, lk_bad5 H hs (by omega) (by omega) S0.rg hva (fun P hP => c46 P ?_), fun z => absurd z (by decide)⟩
                · unfold wp_unit_97 wp_bad
                  rw [eb]
                  exact ⟨fun z => absurd z (by decide), fun _ => ⟨fun z => absurd z (by omega), fun _ => ⟨fun z => absurd z (by omega), fun _ => ⟨fun z => absurd hz z, fun _ => ⟨Or.inl rfl, hP⟩⟩⟩⟩⟩
                · unfold wp5_U_hasLetter
                  exact ⟨fun z => absurd z (by omega), fun _ => ⟨fun z => absurd z (by omega), fun _ => ⟨fun _ => ⟨fun z => absurd rfl z, fun _ => hP⟩, fun z => absurd hz2 z⟩⟩⟩
      · refine ⟨0, f, m, a, tk, ta, va, 1, ta, d, σ.1 2 8, l, fun P hP => bad1 (by unfold RT at hR; omega) P hP, lk_bad5 H hs (by omega) (by omega) S0.rg hva (fun P hP => ?_), fun z => absurd z (by decide)⟩
        unfold wp5_R_takeOperand
        exact ⟨fun _ => ⟨fun _ => ⟨fun _ => hP, fun z => absurd z k3⟩, fun z => absurd z k2⟩, fun z => absurd z k40⟩
end UN2
