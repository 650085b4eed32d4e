def isSt (k v : Int) : Prop := (k = 3 ∧ v < 6) ∨ k = 4 ∨ k = 5 ∨ k = 6 ∨ k = 8
theorem ts_any {τ : Sg} {P : Sg → Prop} {k v : Int} (e : τ.1 3 2 = k) (ev : τ.1 3 3 = v) (hk : isSt k v) (h : wp5_R_takeStatement_118 (fun s => P s) τ) : wp5_R_takeStatement τ P := by
  unfold isSt at hk
  unfold wp5_R_takeStatement wp5_R_takeStatement_21 wp5_R_takeStatement_39 wp5_R_takeStatement_60 wp5_R_takeStatement_61 wp5_R_takeStatement_72 wp5_R_takeStatement_77 wp5_R_takeStatement_90 wp5_R_takeStatement_95
  rw [e, ev]
  repeat' (first | intro _ | with_reducible apply And.intro)
  all_goals first | exact h | (exfalso; omega)
theorem ts_bad {τ : Sg} {P : Sg → Prop} {k v o : Int} (e : τ.1 3 2 = k) (ev : τ.1 3 3 = v) (eo : τ.1 2 13 = o) (hk : ¬ isSt k v) (h1 : ¬ (k = 1 ∧ o = 0)) (h2 : ¬ (k = 125 ∧ 0 < o)) (h : P (rfS τ 1)) : wp5_R_takeStatement τ P := by
  unfold isSt at hk
  unfold wp5_R_takeStatement wp5_R_takeStatement_21 wp5_R_takeStatement_39 wp5_R_takeStatement_60 wp5_R_takeStatement_61 wp5_R_takeStatement_72 wp5_R_takeStatement_77 wp5_R_takeStatement_90 wp5_R_takeStatement_95
  rw [e, ev, eo]
  repeat' (first | intro _ | with_reducible apply And.intro)
  all_goals first | exact h | (exfalso; omega)
theorem RT.st {k v tk : Int} (h : RT 0 k v tk) (hk : 0 ≤ k ∧ k ≤ 125) (hv : k = 3 → 0 ≤ v ∧ v ≤ 25) : (isSt k v ↔ (320 ≤ tk ∨ tk = 3 ∨ tk = 4 ∨ tk = 5 ∨ tk = 7)) ∧ (k = 3 → v < 6 → tk = 320 + v) ∧ (k = 4 ↔ tk = 3) ∧ (k = 5 ↔ tk = 4) ∧ (k = 6 ↔ tk = 5) ∧ (k = 8 ↔ tk = 7) ∧ (k = 7 ↔ tk = 6) ∧ (k = 1 ↔ tk = 0) ∧ tk ≤ 325 := by
  unfold RT at h
  unfold isSt
  refine ⟨⟨fun z => ?_, fun z => ?_⟩, fun z1 z2 => ?_, ⟨fun z => ?_, fun z => ?_⟩, ⟨fun z => ?_, fun z => ?_⟩, ⟨fun z => ?_, fun z => ?_⟩, ⟨fun z => ?_, fun z => ?_⟩, ⟨fun z => ?_, fun z => ?_⟩, ⟨fun z => ?_, fun z => ?_⟩, ?_⟩
  all_goals omega
section RS
variable {n : Nat} {f t : Int → Int} {m len a tk ta va w wa d c kst l : Int} {P : Int → (Int → Int) → Int → Int → Int → Int → Int → Int → Int → Int → Int → Int → Int → Prop}
theorem rs_any {s : Int} (hs : (320 ≤ tk ∧ s = 1) ∨ (s = 0 ∧ (tk = 3 ∨ tk = 4 ∨ tk = 5 ∨ tk = 7))) (h : wp_statement_59 (wp_block n) (wp_otherwise n) P f m t len a tk ta va w wa d c kst 300 l 0 0 s) : wp_statement (n + 1) f m t len a tk ta va w wa d c kst 300 l 0 0 P := by
  show wp_statement_b (wp_block n) (wp_statement n) (wp_otherwise n) f m t len a tk ta va w wa d c kst 300 l 0 0 P
  unfold wp_statement_b wp_statement_15
  rcases hs with ⟨h1, rfl⟩ | ⟨rfl, h1⟩
  · exact ⟨fun z => absurd z (by omega), fun _ => ⟨fun _ => h, fun z => absurd z (by decide)⟩⟩
  · refine ⟨fun _ => ⟨fun z => absurd rfl z, fun _ => ⟨fun _ => h, fun _ => ⟨fun _ => h, fun _ => ⟨fun _ => h, fun _ => ⟨fun _ => h, fun z => False.elim (by omega)⟩⟩⟩⟩⟩, fun z => absurd z (by omega)⟩
theorem rs_bad (hs : ¬ (320 ≤ tk ∨ tk = 3 ∨ tk = 4 ∨ tk = 5 ∨ tk = 7)) (h : P 0 f m a tk ta va 1 ta d c kst l) : wp_statement (n + 1) f m t len a tk ta va w wa d c kst 300 l 0 0 P := by
  show wp_statement_b (wp_block n) (wp_statement n) (wp_otherwise n) f m t len a tk ta va w wa d c kst 300 l 0 0 P
  unfold wp_statement_b wp_statement_15 wp_bad
  exact ⟨fun _ => ⟨fun z => absurd rfl z, fun _ => ⟨fun z => absurd z (by omega), fun _ => ⟨fun z => absurd z (by omega), fun _ => ⟨fun z => absurd z (by omega), fun _ => ⟨fun z => absurd z (by omega), fun _ => ⟨Or.inl rfl, h⟩⟩⟩⟩⟩⟩, fun z => absurd z (by omega)⟩
end RS
/-- the row behind an EXPRESSION in a PROGRAM is the reference's -/
theorem row_eq {b0 m : Int} {f f0 : Int → Int} {σ σ' : Sg} (hR : Rw 0 0 b0 σ' f m) (hpre : ∀ j, 0 ≤ j → j < b0 → f j = σ'.2.2.2 0 (σ'.1 2 3) j) : m = σ'.2.2.1 0 (σ'.1 2 3) ∧ ∀ j, 0 ≤ j → j < m → f j = σ'.2.2.2 0 (σ'.1 2 3) j := by
  obtain ⟨hq, hb, hm, hf⟩ := hR
  refine ⟨by omega, fun j j0 j1 => ?_⟩
  by_cases q : j < b0
  · exact hpre j j0 q
  · have := hf j (by omega) (by omega)
    rw [Int.zero_add] at this
    rw [this]; unfold cm; rw [if_neg (by omega)]
/-- from an EXPRESSION's outcome to the STATEMENT's -/
theorem semi_out {K : Int → Sg → Prop} {B b0 len i i1 m0 m1 a' tk' ta' va' w wa d c c1 k l ok : Int} {t f0 f1 f' : Int → Int} {m' w' wa' d' c' l' : Int} {σ σ1 : Sg} (cs1 : CS K i σ i1 σ1) (fz1 : Fz d σ σ1) (hC : Cz B σ m0 d c k l) (hk : k < 40) (h7 : σ1.1 2 7 = k + 1) (hrow : b0 = σ1.2.2.1 0 (σ1.1 2 3) ∧ m1 = b0 ∧ ∀ j, 0 ≤ j → j < b0 → f1 j = σ1.2.2.2 0 (σ1.1 2 3) j) (hm1 : m1 = m0 + 1) (hc1 : c1 = c) {x : Int} (hx : setC x ∨ x = 110) (hw1 : Wr f0 m0 [x] f1 m1)
    (out : (ok = 1 ∧ (w' = w ∧ wa' = wa ∧ d' = d) ∧ (∃ e, Ex (lfx 0) e ∧ Wr f1 m1 e f' m' ∧ c' = c1 + e.length) ∧ (0 ≤ l' ∧ l' ≤ 7) ∧ ∃ i' σ', CS K i1 σ1 i' σ' ∧ Tp 0 t len σ' i' a' tk' ta' va' ∧ σ'.1 2 5 = 0 ∧ Rw 0 0 b0 σ' f' m' ∧ Ct 300 σ' d c' ∧ Fr d b0 σ1 σ') ∨
       (ok = 0 ∧ (0 ≤ va' ∧ va' ≤ 9999) ∧ ∃ i' σ', CS K i1 σ1 i' σ' ∧ Ft t len σ' w' wa' ∧ Fr d b0 σ1 σ')) :
    OutZ K B t len σ i w wa d ok f' m' a' tk' ta' va' w' wa' d' c' (k + 1) l' ∧ (ok = 1 → ∃ s, Sm Sq s ∧ Wr f0 m0 s f' m' ∧ c' = c + cp s ∧ k + 1 = k + cs s) := by
  rcases out with ⟨o1, ⟨o2, o3, o4⟩, ⟨e, he, hw, hn⟩, hl, i', σ', cs', hT', h5, hRw, hCt, fr⟩ | ⟨o1, ov, i', σ', cs', ft, fr⟩
  · have he' := lfx0 he
    have hlen := hw.1
    obtain ⟨hq, hd, hc, hk', hl', hB, h0⟩ := hC
    have r1 := fz1.row
    have r2 := fr.row
    refine ⟨Or.inl ⟨o1, ⟨o2, o3, o4⟩, i', σ', cs1.trans cs', ⟨hT', ⟨?_, ?_, ?_, ?_, hl, ?_, ?_⟩, Or.inl ⟨h5, row_eq (f0 := f0) (σ := σ) hRw (fun j j0 j1 => ?_)⟩⟩, fz1.trans (Int.le_refl d) fr.z⟩, fun _ => ⟨x :: e, Or.inl ⟨x, e, hx, he', rfl⟩, by have := hw1.app hw; simpa using this, ?_, ?_⟩⟩
    · rw [r2, r1]; exact hq
    · rw [o4]
      refine ⟨hCt.1.1, hd.2.1, hd.2.2.1, fun j j0 j1 => ?_⟩
      rw [(fr.2.2.1 j j1).1, fz1.2.2.1 j j1]; exact hd.2.2.2 j j0 j1
    · have := hCt.2.1; exact ⟨this.1, this.2.1, this.2.2.1, this.2.2.2.1⟩
    · exact ⟨by rw [fr.1 2 7 (by omega), h7], by omega, by omega⟩
    · omega
    · have := hCt.2.2; omega
    · rw [r2]
      have q1 := fr.2.2.2.2.2.1 j j1
      rw [q1]
      have q2 := hrow.2.2 j j0 j1
      rw [← q2]
      exact hw.2.2 j (by omega)
    · rw [cp_no (by unfold setC at hx; omega), he'.cpz, hn, hc1]
    · rw [cs_yes (by unfold setC at hx; omega), he'.csz]; omega
  · exact ⟨Or.inr ⟨o1, ov, i', σ', cs1.trans cs', ft, fz1.trans (Int.le_refl d) fr.z, by rw [fr.1 2 7 (by omega), h7]; have := hC.2.2.2.1; omega, by rw [fr.1 2 7 (by omega), h7]; omega⟩, fun z => by omega⟩
