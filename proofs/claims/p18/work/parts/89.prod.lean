section PR
variable {K : Int → Sg → Prop} {ru rt most off b0 len : Int} {t : Int → Int} {σ : Sg} {i m a tk ta va w wa d c l : Int} {f : Int → Int}
theorem cm_op {ru c : Int} (h : 120 ≤ c) : cm ru c = c := by unfold cm; rw [if_neg (by omega)]
/-- an operation's sign goes ahead of its left side -/
theorem lk_ins {k0 oc : Int} {σ2 : Sg} (hR : Rw ru off b0 σ f m) (hC : Ct most σ d c) (hL : Le ru rt σ l) (hc : c < most) (e3 : σ2.1 2 3 = σ.1 2 3) (e4 : σ2.1 2 4 = σ.1 2 4) (e6 : σ2.1 2 6 = σ.1 2 6) (e8 : σ2.1 2 8 = c + 1) (e9 : σ2.1 2 9 = σ.1 2 9) (e10 : σ2.1 2 10 = σ.1 2 10) (e13 : σ2.1 2 13 = σ.1 2 13) (e11 : σ.1 2 10 ≤ σ2.1 2 11 ∧ σ2.1 2 11 ≤ σ.2.2.1 0 (σ.1 2 3) + 1) (eY : σ2.2.2.1 1 = σ.2.2.1 1) (el : σ2.2.2.1 0 (σ.1 2 3) = σ.2.2.1 0 (σ.1 2 3) + 1) (hk0 : b0 ≤ k0 ∧ k0 ≤ σ.2.2.1 0 (σ.1 2 3)) (hoc : 120 ≤ oc ∧ oc ≤ 122)
    (ec : ∀ j, j ≤ σ.2.2.1 0 (σ.1 2 3) → σ2.2.2.2 0 (σ.1 2 3) j = if j = k0 then oc else if k0 < j then σ.2.2.2 0 (σ.1 2 3) (j - 1) else σ.2.2.2 0 (σ.1 2 3) j) :
    Rw ru off b0 σ2 (insF f (off + k0) m oc) (m + 1) ∧ Ct most σ2 d (c + 1) ∧ Le ru rt σ2 l ∧ ∀ j, j < off + b0 → insF f (off + k0) m oc j = f j := by
  obtain ⟨hq, hb, hm, hf⟩ := hR
  obtain ⟨hd, ⟨hc0, hcc⟩, hp⟩ := hC
  refine ⟨?_, ?_, ?_, fun j z => ?_⟩
  · unfold Rw
    rw [e3, el, e10]
    refine ⟨hq, hb, by omega, fun j z1 z2 => ?_⟩
    rw [ec j (by omega)]
    unfold insF
    by_cases q : j = k0
    · rw [if_pos (by omega), if_pos q, cm_op hoc.1]
    · rw [if_neg (by omega), if_neg q]
      by_cases q2 : k0 < j
      · rw [if_pos (by omega), if_pos q2, show off + j - 1 = off + (j - 1) by omega]
        exact hf (j - 1) (by omega) (by omega)
      · rw [if_neg (by omega), if_neg q2]
        exact hf j z1 (by omega)
  · unfold Ct
    rw [e3, el, e8, e9, e10, e13]
    exact ⟨hd, ⟨rfl, hcc.1, by omega, by omega, by omega, by omega⟩, by omega, by omega, by omega⟩
  · refine Le.addN (σ := σ) (x := oc) e3 e4 e6 eY (by omega) el (fun j j0 j1 => ?_) (fun j j0 j1 => ?_) (by omega) hL
    · by_cases q : j = k0
      · exact ⟨0, Or.inr (by rw [ec j (by omega), if_pos q])⟩
      · by_cases q2 : k0 < j
        · exact ⟨j - 1, Or.inl ⟨by omega, by omega, by rw [ec j (by omega), if_neg q, if_pos q2]⟩⟩
        · exact ⟨j, Or.inl ⟨j0, by omega, by rw [ec j (by omega), if_neg q, if_neg q2]⟩⟩
    · by_cases q : j < k0
      · exact ⟨j, j0, by omega, by rw [ec j (by omega), if_neg (by omega), if_neg (by omega)]⟩
      · exact ⟨j + 1, by omega, by omega, by rw [ec (j + 1) (by omega), if_neg (by omega), if_pos (by omega), show j + 1 - 1 = j by omega]⟩
  · unfold insF
    rw [if_neg (by omega), if_neg (by omega)]
theorem inS_fr {τ : Sg} {k v : Int} (h0 : 0 ≤ k) (hk : k ≤ τ.2.2.1 0 (τ.1 2 3)) (hb : b0 ≤ k) : Fr d b0 τ (inS τ (τ.1 2 3) k v) :=
  ⟨fun _ _ _ => rfl, fun _ _ _ _ => rfl, fun _ _ => ⟨rfl, rfl, rfl⟩, fun n z => ⟨inS_lenN τ z, inS_cellN τ z⟩, fun c z => by
    constructor
    · show (bif Nat.beq c 0 then _ else τ.2.2.1 c) = _
      rw [show Nat.beq c 0 = false from Bool.eq_false_iff.mpr (fun q => z (Nat.eq_of_beq_eq_true q))]; rfl
    · show (bif Nat.beq c 0 then _ else bif Nat.beq c 0 then _ else τ.2.2.2 c) = _
      rw [show Nat.beq c 0 = false from Bool.eq_false_iff.mpr (fun q => z (Nat.eq_of_beq_eq_true q))]; rfl, fun j z => by
    rw [inS_cell τ (τ.1 2 3) k v j h0 hk (by omega), if_neg (by omega), if_neg (by omega)], by rw [inS_len]; omega⟩
end PR
def ProdR (K : Int → Sg → Prop) (ru rt most off b0 : Int) (t : Int → Int) (len : Int) (n : Nat) (w wa d p0 s0 : Int) (f0 : Int → Int) (m0 l0 q0 : Int) (σ : Sg) (i : Int) (f : Int → Int) (m a tk ta va c l : Int) : Prop :=
  ∃ ok f' m' a' tk' ta' va' w' wa' d' c' l', (∀ P, P ok f' m' a' tk' ta' va' w' wa' d' c' l' → wl11 (wp_product_14 (wp_unit n) P (off + p0) t len most ru rt) f m a tk ta va w wa d c l) ∧ OutE K ru rt most off b0 t len σ i f w wa d c ok f' m' a' tk' ta' va' w' wa' d' c' l' (fun σ' tk' => σ'.1 2 10 = s0 ∧ tk' ≠ 42) ∧ (ok = 1 → ∃ e, Ex (lfx ru) e ∧ Wr f0 m0 e f' m' ∧ LB rt l0 l' e ∧ c' = q0 + e.length)
def SumR (K : Int → Sg → Prop) (ru rt most off b0 : Int) (t : Int → Int) (len : Int) (n : Nat) (w wa d s0 : Int) (f0 : Int → Int) (m0 l0 q0 : Int) (σ : Sg) (i : Int) (f : Int → Int) (m a tk ta va c l : Int) : Prop :=
  ∃ ok f' m' a' tk' ta' va' w' wa' d' c' l', (∀ P, P ok f' m' a' tk' ta' va' w' wa' d' c' l' → wl11 (wp_sumUp_14 (wp_product n) P (off + s0) t len most ru rt) f m a tk ta va w wa d c l) ∧ OutE K ru rt most off b0 t len σ i f w wa d c ok f' m' a' tk' ta' va' w' wa' d' c' l' (fun _ tk' => tk' ≠ 42 ∧ tk' ≠ 43 ∧ tk' ≠ 45) ∧ (ok = 1 → ∃ e, Ex (lfx ru) e ∧ Wr f0 m0 e f' m' ∧ LB rt l0 l' e ∧ c' = q0 + e.length)
section PR2
variable {K : Int → Sg → Prop} {ru rt most off b0 len : Int} {t : Int → Int}
theorem prod_step (g : Gl t len) {D n : Nat} (hU : UnitOk K ru rt most off b0 t len D) (hn : 3 * D + 1 ≤ n) {w wa d p0 s0 : Int} {f0 : Int → Int} {l0 q0 : Int} (hD : 8 - d ≤ D) {σ : Sg} {i : Int} {f : Int → Int} {m a tk ta va c l : Int} (S : Sy 6 ru rt most off b0 t len σ i f m a tk ta va d c l) (hp0 : σ.1 2 11 = p0) (hs0 : σ.1 2 10 = s0) (hst : ∃ e, Ex (lfx ru) e ∧ Wr f0 (off + p0) e f m ∧ LB rt l0 l e ∧ c = q0 + e.length)
    (rec : ∀ σ2 i2 f2 m2 a2 tk2 ta2 va2 c2 l2, c < c2 → Sy 6 ru rt most off b0 t len σ2 i2 f2 m2 a2 tk2 ta2 va2 d c2 l2 → σ2.1 2 11 = p0 → σ2.1 2 10 = s0 → (∃ e, Ex (lfx ru) e ∧ Wr f0 (off + p0) e f2 m2 ∧ LB rt l0 l2 e ∧ c2 = q0 + e.length) → ProdR K ru rt most off b0 t len n w wa d p0 s0 f0 (off + p0) l0 q0 σ2 i2 f2 m2 a2 tk2 ta2 va2 c2 l2) :
    ProdR K ru rt most off b0 t len n w wa d p0 s0 f0 (off + p0) l0 q0 σ i f m a tk ta va c l := by
  obtain ⟨k, v, H, hR, hv, hg⟩ := Tp.hd g S.2.1
  have S0 := S
  obtain ⟨hs, hT, hRw, hCt, hLe⟩ := S
  have hRw0 := hRw; have hCt0 := hCt
  obtain ⟨hq, hb, hm, hf⟩ := hRw
  obtain ⟨hd, ⟨hc0, hcc⟩, hp⟩ := hCt
  subst hc0
  have hva := hT.2.2.2.2.2
  have cap := capI_pos (σ.1 2 3)
  have h35 := hT.2.2.1
  by_cases t42 : tk = 42
  · have k42 : k = 42 := by unfold RT at hR; omega
    have cl : ∀ P, wp5_R_takeOperation (tpS σ k v ta a) k (fun s => P s) → wp5_R_takeBehindOperand (tpS σ k v ta a) P := by
      intro P hP
      refine bo_op (by show 0 ≤ σ.1 2 13; omega) (by show σ.1 2 13 ≤ 8; omega) (fun s => ?_)
      unfold wp5_R_takeBehindOperand_43 wp5_R_takeBehindOperand_62
      exact ⟨fun _ => hP, fun _ => ⟨fun _ => hP, fun _ => ⟨fun z => absurd k42 z, fun _ => hP⟩⟩⟩
    by_cases cmo : σ.1 2 8 = most
    · refine ⟨0, f, m, a, tk, ta, va, 3, ta, d, σ.1 2 8, l, fun P hP Q hQ => hQ _ _ _ _ _ _ _ _ _ _ _ ?_, lk_bad6 H hs (by omega) (by omega) S0.rg hva (fun P hP => cl P ?_), fun z => absurd z (by decide)⟩
      · unfold wp_product_14 wp_counts wp_bad
        exact ⟨fun z => absurd t42 z, fun _ => ⟨fun z => absurd cmo z, fun _ => ⟨Or.inl rfl, fun z => absurd rfl z, fun _ => hP⟩⟩⟩
      · unfold wp5_R_takeOperation wp5_R_countThing
        exact ⟨fun z => absurd z (by show ¬ σ.1 2 8 < σ.1 2 9; omega), fun _ => ⟨fun z => absurd rfl z, fun _ => hP⟩⟩
    · obtain ⟨σ2, e2⟩ : ∃ σ2, σ2 = pU (inS (pU (tpS σ k v ta a) 2 8 (σ.1 2 8 + 1)) (σ.1 2 3) (σ.1 2 11) 122) 2 5 5 := ⟨_, rfl⟩
      have cs2 : CS K i σ (i + 1) σ2 := by
        rw [e2]
        refine CS_6 H hs (fun P hP => cl P ?_)
        unfold wp5_R_takeOperation wp5_R_countThing
        refine ⟨fun _ => ⟨⟨by show -2147483648 ≤ σ.1 2 8 + 1; omega, by show σ.1 2 8 + 1 < 2147483648; omega⟩, ⟨fun _ => ⟨fun z => absurd k42 z, fun _ => ⟨hq, ?_⟩⟩, fun z => absurd z (by decide)⟩⟩, fun z => absurd z (by show ¬ σ.1 2 9 ≤ σ.1 2 8; omega)⟩
        exact insert_at (by show 0 ≤ σ.1 2 11; omega) (by show σ.1 2 11 ≤ σ.2.2.1 0 (σ.1 2 3); omega) (by show σ.2.2.1 0 (σ.1 2 3) < capI (σ.1 2 3); omega) hP
      have fr2 : Fr d b0 σ σ2 := by
        rw [e2]
        refine (tpS_fr (k := k) (v := v) (pl := ta) (nx := a)).trans (Int.le_refl d) ?_
        refine (Fr.up (σ' := pU (tpS σ k v ta a) 2 8 (σ.1 2 8 + 1)) (fun a b z => pU_ne (by omega)) rfl).trans (Int.le_refl d) ?_
        refine (inS_fr (τ := pU (tpS σ k v ta a) 2 8 (σ.1 2 8 + 1)) (k := σ.1 2 11) (v := 122) (by omega) (by show σ.1 2 11 ≤ σ.2.2.1 0 (σ.1 2 3); omega) (by omega)).trans (Int.le_refl d) (Fr.up (fun a b z => pU_ne (by omega)) rfl)
      obtain ⟨a2, tk2, ta2, va2, hT2, ev2⟩ := Tp.next (tk := tk) (va := va) (σ1 := σ2) g H hva (by omega) (by omega) (by rw [e2]; exact H.1.1) (by rw [e2]; rfl) (by rw [e2]; exact H.2.1.1) (by rw [e2]; exact H.2.1.2.1) (by rw [e2]; rfl) (by rw [e2]; rfl) (by rw [e2]; exact hT.1.2.2)
      obtain ⟨hRw2, hCt2, hLe2, pre2⟩ := lk_ins (σ2 := σ2) (k0 := σ.1 2 11) (oc := 122) hRw0 hCt0 hLe (by omega) (by rw [e2]; rfl) (by rw [e2]; rfl) (by rw [e2]; rfl) (by rw [e2]; rfl) (by rw [e2]; rfl) (by rw [e2]; rfl) (by rw [e2]; rfl) (by rw [e2]; show σ.1 2 10 ≤ σ.1 2 11 ∧ σ.1 2 11 ≤ σ.2.2.1 0 (σ.1 2 3) + 1; omega) (by rw [e2]; rfl) (by rw [e2]; exact inS_len (pU (tpS σ k v ta a) 2 8 (σ.1 2 8 + 1)) (σ.1 2 3) (σ.1 2 11) 122) (by omega) (by omega) (fun j z => by rw [e2]; exact inS_cell (pU (tpS σ k v ta a) 2 8 (σ.1 2 8 + 1)) (σ.1 2 3) (σ.1 2 11) 122 j (by omega) (by show σ.1 2 11 ≤ σ.2.2.1 0 (σ.1 2 3); omega) z)
      obtain ⟨ok3, f3, m3, a3, tk3, ta3, va3, w3, wa3, d3, c3, l3, ev3, out3, st3⟩ := hU n hn σ2 (i + 1) _ _ a2 tk2 ta2 va2 w wa d (σ.1 2 8 + 1) l ⟨by rw [e2]; rfl, hT2, hRw2, hCt2, hLe2⟩ hD
      have run : ∀ P Q, (∀ f m a tk ta va w wa d c l, wp_product_14 (wp_unit n) P (off + p0) t len most ru rt Q f m a tk ta va w wa d c l → Q f m a tk ta va w wa d c l) → ((ok3 ≠ 0 → Q f3 m3 a3 tk3 ta3 va3 w3 wa3 d3 c3 l3) ∧ (ok3 = 0 → P 0 f3 m3 a3 tk3 ta3 va3 w3 wa3 d3 c3 l3)) → Q f m a tk ta va w wa d (σ.1 2 8) l := by
        intro P Q hQ h
        refine hQ _ _ _ _ _ _ _ _ _ _ _ ?_
        unfold wp_product_14 wp_counts
        refine ⟨fun z => absurd t42 z, fun _ => ⟨fun _ => ⟨⟨by omega, by omega⟩, ⟨fun _ => ev2 _ ?_, fun z => absurd z (by decide)⟩⟩, fun z => absurd z cmo⟩⟩
        refine ahead_at (by omega) (by omega) (by omega) ?_
        rw [← hp0]
        exact ev3 _ h
      rcases out3 with ⟨o1, ⟨o2, o3, o4, o5⟩, o6, i3, σ3, cs3, S3, fr3, oq⟩ | ⟨o1, ov, i3, σ3, cs3, ft3, fr3⟩
      · subst o1; subst o2; subst o3; subst o4
        obtain ⟨ok4, f4, m4, a4, tk4, ta4, va4, w4, wa4, d4, c4, l4, ev4, out4, st4⟩ := rec σ3 i3 f3 m3 a3 tk3 ta3 va3 c3 l3 (by omega) S3 (oq.2.trans (by rw [e2]; exact hp0)) (oq.1.trans (by rw [e2]; exact hs0)) (by
          obtain ⟨e, he, hw, hl, hn⟩ := hst
          obtain ⟨e', he', hw', hl', hn'⟩ := st3 rfl
          refine ⟨122 :: (e ++ e'), Ex.op (⟨by omega, by omega⟩ : opC 122) he he', ?_, hl.app hl' (⟨by omega, by omega⟩ : opC 122), by rw [hn', hn]; simp only [List.length_cons, List.length_append]; omega⟩
          have q := (wrI (h := 122) hw).app (by rw [← hp0]; exact hw')
          simpa using q)
        exact ⟨ok4, f4, m4, a4, tk4, ta4, va4, w4, wa4, d4, c4, l4, fun P hP Q hQ => run P Q hQ ⟨fun _ => ev4 P hP Q hQ, fun z => absurd z (by decide)⟩, OutE.pre (cs2.trans cs3) (fr2.trans (Int.le_refl d3) fr3) rfl (by omega) (fun j z => (o6 j z).trans (pre2 j z)) (fun _ _ h => h) out4, st4⟩
      · subst o1
        exact ⟨0, f3, m3, a3, tk3, ta3, va3, w3, wa3, d3, c3, l3, fun P hP Q hQ => run P Q hQ ⟨fun z => absurd rfl z, fun _ => hP⟩, Or.inr ⟨rfl, ov, i3, σ3, cs2.trans cs3, ft3, fr2.trans (Int.le_refl d) fr3⟩, fun z => absurd z (by decide)⟩
  · refine ⟨1, f, m, a, tk, ta, va, w, wa, d, σ.1 2 8, l, fun P hP Q hQ => hQ _ _ _ _ _ _ _ _ _ _ _ ?_, Or.inl ⟨rfl, ⟨rfl, rfl, rfl, Int.le_refl _⟩, fun _ _ => rfl, i, σ, CS.refl, S0, Fr.refl _ _ _, hs0, t42⟩, fun _ => hst⟩
    unfold wp_product_14
    exact ⟨fun _ => hP, fun z => absurd z t42⟩
theorem prod_loop (g : Gl t len) {D n : Nat} (hU : UnitOk K ru rt most off b0 t len D) (hn : 3 * D + 1 ≤ n) {w wa d p0 s0 : Int} {f0 : Int → Int} {l0 q0 : Int} (hD : 8 - d ≤ D) : ∀ (N : Nat) (σ : Sg) (i : Int) (f : Int → Int) (m a tk ta va c l : Int), most - c ≤ N → Sy 6 ru rt most off b0 t len σ i f m a tk ta va d c l → σ.1 2 11 = p0 → σ.1 2 10 = s0 → (∃ e, Ex (lfx ru) e ∧ Wr f0 (off + p0) e f m ∧ LB rt l0 l e ∧ c = q0 + e.length) → ProdR K ru rt most off b0 t len n w wa d p0 s0 f0 (off + p0) l0 q0 σ i f m a tk ta va c l
  | 0, σ, i, f, m, a, tk, ta, va, c, l, hN, S, h1, h2, h0 => prod_step g hU hn hD S h1 h2 h0 (fun σ2 i2 f2 m2 a2 tk2 ta2 va2 c2 l2 hc S2 _ _ _ => by
      have := S2.2.2.2.1.2.1.2.2.2.1
      omega)
  | N + 1, σ, i, f, m, a, tk, ta, va, c, l, hN, S, h1, h2, h0 => prod_step g hU hn hD S h1 h2 h0 (fun σ2 i2 f2 m2 a2 tk2 ta2 va2 c2 l2 hc S2 h3 h4 h5 => prod_loop g hU hn hD N σ2 i2 f2 m2 a2 tk2 ta2 va2 c2 l2 (by omega) S2 h3 h4 h5)
theorem prod_ok (g : Gl t len) {D : Nat} (hU : UnitOk K ru rt most off b0 t len D) : ProdOk K ru rt most off b0 t len D := by
  intro n hn σ i f m a tk ta va w wa d c l S hp hD
  obtain ⟨n, rfl⟩ : ∃ n', n = n' + 1 := ⟨n - 1, by omega⟩
  have hm : m = off + σ.1 2 11 := by rw [hp]; exact S.2.2.1.2.2.1
  obtain ⟨ok3, f3, m3, a3, tk3, ta3, va3, w3, wa3, d3, c3, l3, ev3, out3, st3⟩ := hU n (by omega) σ i f m a tk ta va w wa d c l S hD
  have run : ∀ P, ((ok3 ≠ 0 → wl11 (wp_product_14 (wp_unit n) P m t len most ru rt) f3 m3 a3 tk3 ta3 va3 w3 wa3 d3 c3 l3) ∧ (ok3 = 0 → P 0 f3 m3 a3 tk3 ta3 va3 w3 wa3 d3 c3 l3)) → wp_product (n + 1) f m t len a tk ta va w wa d c most l ru rt P := by
    intro P h
    show wp_product_b (wp_sumUp n) (wp_product n) (wp_unit n) f m t len a tk ta va w wa d c most l ru rt P
    unfold wp_product_b
    exact ev3 _ h
  rcases out3 with ⟨o1, ⟨o2, o3, o4, o5⟩, o6, i3, σ3, cs3, S3, fr3, oq⟩ | ⟨o1, ov, i3, σ3, cs3, ft3, fr3⟩
  · subst o1; subst o2; subst o3; subst o4
    obtain ⟨ok4, f4, m4, a4, tk4, ta4, va4, w4, wa4, d4, c4, l4, ev4, out4, st4⟩ := prod_loop g hU (n := n) (by omega) (w := w3) (wa := wa3) (f0 := f) (l0 := l) (q0 := c) hD (most - c3).toNat σ3 i3 f3 m3 a3 tk3 ta3 va3 c3 l3 (by omega) S3 oq.2 oq.1 (by rw [← hm]; exact st3 rfl)
    refine ⟨ok4, f4, m4, a4, tk4, ta4, va4, w4, wa4, d4, c4, l4, fun P hP => run P ⟨fun _ => ?_, fun z => absurd z (by decide)⟩, OutE.pre cs3 fr3 rfl o5 o6 (fun _ _ h => h) out4, by rw [hm]; exact st4⟩
    rw [hm]; exact ev4 P hP
  · subst o1
    exact ⟨0, f3, m3, a3, tk3, ta3, va3, w3, wa3, d3, c3, l3, fun P hP => run P ⟨fun z => absurd rfl z, fun _ => hP⟩, Or.inr ⟨rfl, ov, i3, σ3, cs3, ft3, fr3⟩, fun z => absurd z (by decide)⟩
theorem sum_step (g : Gl t len) {D n : Nat} (hU : ProdOk K ru rt most off b0 t len D) (hn : 3 * D + 2 ≤ n) {w wa d s0 : Int} {f0 : Int → Int} {l0 q0 : Int} (hD : 8 - d ≤ D) {σ : Sg} {i : Int} {f : Int → Int} {m a tk ta va c l : Int} (S : Sy 6 ru rt most off b0 t len σ i f m a tk ta va d c l) (hs0 : σ.1 2 10 = s0) (t42 : tk ≠ 42) (hst : ∃ e, Ex (lfx ru) e ∧ Wr f0 (off + s0) e f m ∧ LB rt l0 l e ∧ c = q0 + e.length)
    (rec : ∀ σ2 i2 f2 m2 a2 tk2 ta2 va2 c2 l2, c < c2 → Sy 6 ru rt most off b0 t len σ2 i2 f2 m2 a2 tk2 ta2 va2 d c2 l2 → σ2.1 2 10 = s0 → tk2 ≠ 42 → (∃ e, Ex (lfx ru) e ∧ Wr f0 (off + s0) e f2 m2 ∧ LB rt l0 l2 e ∧ c2 = q0 + e.length) → SumR K ru rt most off b0 t len n w wa d s0 f0 (off + s0) l0 q0 σ2 i2 f2 m2 a2 tk2 ta2 va2 c2 l2) :
    SumR K ru rt most off b0 t len n w wa d s0 f0 (off + s0) l0 q0 σ i f m a tk ta va c l := by
  obtain ⟨k, v, H, hR, hv, hg⟩ := Tp.hd g S.2.1
  have S0 := S
  obtain ⟨hs, hT, hRw, hCt, hLe⟩ := S
  have hRw0 := hRw; have hCt0 := hCt
  obtain ⟨hq, hb, hm, hf⟩ := hRw
  obtain ⟨hd, ⟨hc0, hcc⟩, hp⟩ := hCt
  subst hc0
  have hva := hT.2.2.2.2.2
  have cap := capI_pos (σ.1 2 3)
  have h35 := hT.2.2.1
  by_cases to : tk = 43 ∨ tk = 45
  · have ko : (k = 43 ∧ tk = 43) ∨ (k = 45 ∧ tk = 45) := by unfold RT at hR; omega
    obtain ⟨oc, hoc⟩ : ∃ oc : Int, (k = 43 ∧ oc = 120) ∨ (k = 45 ∧ oc = 121) := by
      rcases ko with h | h
      · exact ⟨120, Or.inl ⟨h.1, rfl⟩⟩
      · exact ⟨121, Or.inr ⟨h.1, rfl⟩⟩
    have cl : ∀ P, wp5_R_takeOperation (tpS σ k v ta a) k (fun s => P s) → wp5_R_takeBehindOperand (tpS σ k v ta a) P := by
      intro P hP
      refine bo_op (by show 0 ≤ σ.1 2 13; omega) (by show σ.1 2 13 ≤ 8; omega) (fun s => ?_)
      unfold wp5_R_takeBehindOperand_43 wp5_R_takeBehindOperand_62
      exact ⟨fun _ => hP, fun z1 => ⟨fun _ => hP, fun z2 => ⟨fun _ => False.elim (by have z1 : k ≠ 43 := z1; have z2 : k ≠ 45 := z2; omega), fun _ => hP⟩⟩⟩
    have rs : ∀ P Q, wp_sumUp_48 (wp_product n) P (off + s0) t len most ru rt a (σ.1 2 8) d f l m ta tk va wa w Q oc → wp_sumUp_14 (wp_product n) P (off + s0) t len most ru rt Q f m a tk ta va w wa d (σ.1 2 8) l := by
      intro P Q h
      have h32 : wp_sumUp_32 (wp_product n) P (off + s0) t len most ru rt a (σ.1 2 8) d f l m ta tk va wa w Q := by
        unfold wp_sumUp_32
        exact ⟨fun z => by obtain rfl : oc = 121 := by omega
                           exact h, fun z => by obtain rfl : oc = 120 := by omega
                                                exact h⟩
      unfold wp_sumUp_14
      exact ⟨fun _ => h32, fun z => ⟨fun z2 => False.elim (by omega), fun _ => h32⟩⟩
    by_cases cmo : σ.1 2 8 = most
    · refine ⟨0, f, m, a, tk, ta, va, 3, ta, d, σ.1 2 8, l, fun P hP Q hQ => hQ _ _ _ _ _ _ _ _ _ _ _ (rs P Q ?_), lk_bad6 H hs (by omega) (by omega) S0.rg hva (fun P hP => cl P ?_), fun z => absurd z (by decide)⟩
      · unfold wp_sumUp_48 wp_counts wp_bad
        exact ⟨fun z => absurd cmo z, fun _ => ⟨Or.inl rfl, fun z => absurd rfl z, fun _ => hP⟩⟩
      · unfold wp5_R_takeOperation wp5_R_countThing
        exact ⟨fun z => absurd z (by show ¬ σ.1 2 8 < σ.1 2 9; omega), fun _ => ⟨fun z => absurd rfl z, fun _ => hP⟩⟩
    · obtain ⟨τ, eτ⟩ : ∃ τ, τ = inS (pU (tpS σ k v ta a) 2 8 (σ.1 2 8 + 1)) (σ.1 2 3) (σ.1 2 10) oc := ⟨_, rfl⟩
      have elτ : τ.2.2.1 0 (σ.1 2 3) = σ.2.2.1 0 (σ.1 2 3) + 1 := by rw [eτ]; exact inS_len (pU (tpS σ k v ta a) 2 8 (σ.1 2 8 + 1)) (σ.1 2 3) (σ.1 2 10) oc
      obtain ⟨σ2, e2⟩ : ∃ σ2, σ2 = pU (pU τ 2 11 (τ.2.2.1 0 (σ.1 2 3))) 2 5 5 := ⟨_, rfl⟩
      have cs2 : CS K i σ (i + 1) σ2 := by
        rw [e2, eτ]
        refine CS_6 H hs (fun P hP => cl P ?_)
        unfold wp5_R_takeOperation wp5_R_countThing
        refine ⟨fun _ => ⟨⟨by show -2147483648 ≤ σ.1 2 8 + 1; omega, by show σ.1 2 8 + 1 < 2147483648; omega⟩, ⟨fun _ => ⟨fun _ => ⟨hq, ?_⟩, fun z => absurd z (by omega)⟩, fun z => absurd z (by decide)⟩⟩, fun z => absurd z (by show ¬ σ.1 2 9 ≤ σ.1 2 8; omega)⟩
        have h51 : wp5_R_takeOperation_51 (fun s => P s) (pU (tpS σ k v ta a) 2 8 (σ.1 2 8 + 1)) oc := by
          unfold wp5_R_takeOperation_51
          exact insert_at (by show 0 ≤ σ.1 2 10; omega) (by show σ.1 2 10 ≤ σ.2.2.1 0 (σ.1 2 3); omega) (by show σ.2.2.1 0 (σ.1 2 3) < capI (σ.1 2 3); omega) ⟨hq, hP⟩
        exact ⟨fun z => by obtain rfl : oc = 121 := by omega
                           exact h51, fun z => by obtain rfl : oc = 120 := by omega
                                                  exact h51⟩
      have fr2 : Fr d b0 σ σ2 := by
        rw [e2, eτ]
        refine (tpS_fr (k := k) (v := v) (pl := ta) (nx := a)).trans (Int.le_refl d) ?_
        refine (Fr.up (σ' := pU (tpS σ k v ta a) 2 8 (σ.1 2 8 + 1)) (fun a b z => pU_ne (by omega)) rfl).trans (Int.le_refl d) ?_
        refine (inS_fr (τ := pU (tpS σ k v ta a) 2 8 (σ.1 2 8 + 1)) (k := σ.1 2 10) (v := oc) (by omega) (by show σ.1 2 10 ≤ σ.2.2.1 0 (σ.1 2 3); omega) (by omega)).trans (Int.le_refl d) (Fr.up (fun a b z => ?_) rfl)
        rw [pU_ne (by omega), pU_ne (by omega)]
        rfl
      obtain ⟨a2, tk2, ta2, va2, hT2, ev2⟩ := Tp.next (tk := tk) (va := va) (σ1 := σ2) g H hva (by omega) (by omega) (by rw [e2, eτ]; exact H.1.1) (by rw [e2, eτ]; rfl) (by rw [e2, eτ]; exact H.2.1.1) (by rw [e2, eτ]; exact H.2.1.2.1) (by rw [e2, eτ]; rfl) (by rw [e2, eτ]; rfl) (by rw [e2, eτ]; exact hT.1.2.2)
      obtain ⟨hRw2, hCt2, hLe2, pre2⟩ := lk_ins (σ2 := σ2) (k0 := σ.1 2 10) (oc := oc) hRw0 hCt0 hLe (by omega) (by rw [e2, eτ]; rfl) (by rw [e2, eτ]; rfl) (by rw [e2, eτ]; rfl) (by rw [e2, eτ]; rfl) (by rw [e2, eτ]; rfl) (by rw [e2, eτ]; rfl) (by rw [e2, eτ]; rfl) (by rw [e2]; show σ.1 2 10 ≤ τ.2.2.1 0 (σ.1 2 3) ∧ τ.2.2.1 0 (σ.1 2 3) ≤ σ.2.2.1 0 (σ.1 2 3) + 1; rw [elτ]; omega) (by rw [e2, eτ]; rfl) (by rw [e2]; exact elτ) (by omega) (by omega) (fun j z => by rw [e2, eτ]; exact inS_cell (pU (tpS σ k v ta a) 2 8 (σ.1 2 8 + 1)) (σ.1 2 3) (σ.1 2 10) oc j (by omega) (by show σ.1 2 10 ≤ σ.2.2.1 0 (σ.1 2 3); omega) z)
      obtain ⟨ok3, f3, m3, a3, tk3, ta3, va3, w3, wa3, d3, c3, l3, ev3, out3, st3⟩ := hU n hn σ2 (i + 1) _ _ a2 tk2 ta2 va2 w wa d (σ.1 2 8 + 1) l ⟨by rw [e2]; rfl, hT2, hRw2, hCt2, hLe2⟩ (by rw [e2]; show τ.2.2.1 0 (σ.1 2 3) = τ.2.2.1 0 (τ.1 2 3); rw [eτ]; rfl) hD
      have run : ∀ P Q, (∀ f m a tk ta va w wa d c l, wp_sumUp_14 (wp_product n) P (off + s0) t len most ru rt Q f m a tk ta va w wa d c l → Q f m a tk ta va w wa d c l) → ((ok3 ≠ 0 → Q f3 m3 a3 tk3 ta3 va3 w3 wa3 d3 c3 l3) ∧ (ok3 = 0 → P 0 f3 m3 a3 tk3 ta3 va3 w3 wa3 d3 c3 l3)) → Q f m a tk ta va w wa d (σ.1 2 8) l := by
        intro P Q hQ h
        refine hQ _ _ _ _ _ _ _ _ _ _ _ (rs P Q ?_)
        unfold wp_sumUp_48 wp_counts
        refine ⟨fun _ => ⟨⟨by omega, by omega⟩, ⟨fun _ => ev2 _ ?_, fun z => absurd z (by decide)⟩⟩, fun z => absurd z cmo⟩
        refine ahead_at (by omega) (by omega) (by omega) ?_
        rw [← hs0]
        exact ev3 _ h
      rcases out3 with ⟨o1, ⟨o2, o3, o4, o5⟩, o6, i3, σ3, cs3, S3, fr3, oq⟩ | ⟨o1, ov, i3, σ3, cs3, ft3, fr3⟩
      · subst o1; subst o2; subst o3; subst o4
        obtain ⟨ok4, f4, m4, a4, tk4, ta4, va4, w4, wa4, d4, c4, l4, ev4, out4, st4⟩ := rec σ3 i3 f3 m3 a3 tk3 ta3 va3 c3 l3 (by omega) S3 (oq.1.trans (by rw [e2, eτ]; exact hs0)) oq.2 (by
          obtain ⟨e, he, hw, hl, hn⟩ := hst
          obtain ⟨e', he', hw', hl', hn'⟩ := st3 rfl
          refine ⟨oc :: (e ++ e'), Ex.op (⟨by omega, by omega⟩ : opC oc) he he', ?_, hl.app hl' (⟨by omega, by omega⟩ : opC oc), by rw [hn', hn]; simp only [List.length_cons, List.length_append]; omega⟩
          have q := (wrI (h := oc) hw).app (by rw [← hs0]; exact hw')
          simpa using q)
        exact ⟨ok4, f4, m4, a4, tk4, ta4, va4, w4, wa4, d4, c4, l4, fun P hP Q hQ => run P Q hQ ⟨fun _ => ev4 P hP Q hQ, fun z => absurd z (by decide)⟩, OutE.pre (cs2.trans cs3) (fr2.trans (Int.le_refl d3) fr3) rfl (by omega) (fun j z => (o6 j z).trans (pre2 j z)) (fun _ _ h => h) out4, st4⟩
      · subst o1
        exact ⟨0, f3, m3, a3, tk3, ta3, va3, w3, wa3, d3, c3, l3, fun P hP Q hQ => run P Q hQ ⟨fun z => absurd rfl z, fun _ => hP⟩, Or.inr ⟨rfl, ov, i3, σ3, cs2.trans cs3, ft3, fr2.trans (Int.le_refl d) fr3⟩, fun z => absurd z (by decide)⟩
  · refine ⟨1, f, m, a, tk, ta, va, w, wa, d, σ.1 2 8, l, fun P hP Q hQ => hQ _ _ _ _ _ _ _ _ _ _ _ ?_, Or.inl ⟨rfl, ⟨rfl, rfl, rfl, Int.le_refl _⟩, fun _ _ => rfl, i, σ, CS.refl, S0, Fr.refl _ _ _, t42, by omega, by omega⟩, fun _ => hst⟩
    unfold wp_sumUp_14
    exact ⟨fun z => absurd (Or.inl z) to, fun _ => ⟨fun _ => hP, fun z => absurd (Or.inr z) to⟩⟩
theorem sum_loop (g : Gl t len) {D n : Nat} (hU : ProdOk K ru rt most off b0 t len D) (hn : 3 * D + 2 ≤ n) {w wa d s0 : Int} {f0 : Int → Int} {l0 q0 : Int} (hD : 8 - d ≤ D) : ∀ (N : Nat) (σ : Sg) (i : Int) (f : Int → Int) (m a tk ta va c l : Int), most - c ≤ N → Sy 6 ru rt most off b0 t len σ i f m a tk ta va d c l → σ.1 2 10 = s0 → tk ≠ 42 → (∃ e, Ex (lfx ru) e ∧ Wr f0 (off + s0) e f m ∧ LB rt l0 l e ∧ c = q0 + e.length) → SumR K ru rt most off b0 t len n w wa d s0 f0 (off + s0) l0 q0 σ i f m a tk ta va c l
  | 0, σ, i, f, m, a, tk, ta, va, c, l, hN, S, h1, h2, h0 => sum_step g hU hn hD S h1 h2 h0 (fun σ2 i2 f2 m2 a2 tk2 ta2 va2 c2 l2 hc S2 _ _ _ => by
      have := S2.2.2.2.1.2.1.2.2.2.1
      omega)
  | N + 1, σ, i, f, m, a, tk, ta, va, c, l, hN, S, h1, h2, h0 => sum_step g hU hn hD S h1 h2 h0 (fun σ2 i2 f2 m2 a2 tk2 ta2 va2 c2 l2 hc S2 h3 h4 h5 => sum_loop g hU hn hD N σ2 i2 f2 m2 a2 tk2 ta2 va2 c2 l2 (by omega) S2 h3 h4 h5)
theorem sum_ok (g : Gl t len) {D : Nat} (hU : ProdOk K ru rt most off b0 t len D) : SumOk K ru rt most off b0 t len D := by
  intro n hn σ i f m a tk ta va w wa d c l S hp hD
  obtain ⟨n, rfl⟩ : ∃ n', n = n' + 1 := ⟨n - 1, by omega⟩
  have hm : m = off + σ.1 2 10 := by rw [hp]; exact S.2.2.1.2.2.1
  have h11 : σ.1 2 11 = σ.2.2.1 0 (σ.1 2 3) := by have := S.2.2.2.1.2.2; omega
  obtain ⟨ok3, f3, m3, a3, tk3, ta3, va3, w3, wa3, d3, c3, l3, ev3, out3, st3⟩ := hU n (by omega) σ i f m a tk ta va w wa d c l S h11 hD
  have run : ∀ P, ((ok3 ≠ 0 → wl11 (wp_sumUp_14 (wp_product n) P m t len most ru rt) f3 m3 a3 tk3 ta3 va3 w3 wa3 d3 c3 l3) ∧ (ok3 = 0 → P 0 f3 m3 a3 tk3 ta3 va3 w3 wa3 d3 c3 l3)) → wp_sumUp (n + 1) f m t len a tk ta va w wa d c most l ru rt P := by
    intro P h
    show wp_sumUp_b (wp_sumUp n) (wp_product n) (wp_unit n) f m t len a tk ta va w wa d c most l ru rt P
    unfold wp_sumUp_b
    exact ev3 _ h
  rcases out3 with ⟨o1, ⟨o2, o3, o4, o5⟩, o6, i3, σ3, cs3, S3, fr3, oq⟩ | ⟨o1, ov, i3, σ3, cs3, ft3, fr3⟩
  · subst o1; subst o2; subst o3; subst o4
    obtain ⟨ok4, f4, m4, a4, tk4, ta4, va4, w4, wa4, d4, c4, l4, ev4, out4, st4⟩ := sum_loop g hU (n := n) (by omega) (w := w3) (wa := wa3) (f0 := f) (l0 := l) (q0 := c) hD (most - c3).toNat σ3 i3 f3 m3 a3 tk3 ta3 va3 c3 l3 (by omega) S3 oq.1 oq.2 (by rw [← hm]; exact st3 rfl)
    refine ⟨ok4, f4, m4, a4, tk4, ta4, va4, w4, wa4, d4, c4, l4, fun P hP => run P ⟨fun _ => ?_, fun z => absurd z (by decide)⟩, OutE.pre cs3 fr3 rfl o5 o6 (fun _ _ h => h) out4, by rw [hm]; exact st4⟩
    rw [hm]; exact ev4 P hP
  · subst o1
    exact ⟨0, f3, m3, a3, tk3, ta3, va3, w3, wa3, d3, c3, l3, fun P hP => run P ⟨fun z => absurd rfl z, fun _ => hP⟩, Or.inr ⟨rfl, ov, i3, σ3, cs3, ft3, fr3⟩, fun z => absurd z (by decide)⟩
theorem expr_ok (g : Gl t len) : ∀ D : Nat, SumOk K ru rt most off b0 t len D
  | 0 => sum_ok g (prod_ok g (unit_ok g (fun D' h => absurd h (by omega))))
  | D + 1 => sum_ok g (prod_ok g (unit_ok g (fun D' h => by
      obtain rfl : D' = D := by omega
      exact expr_ok g D')))
end PR2
