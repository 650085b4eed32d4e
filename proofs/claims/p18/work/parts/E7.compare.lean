-- ===== Judge.compare, exactly
theorem gP_a {l m : List Int} (hl : Sq l) (hm : Sq m) (h1 : ¬ LV l NoV 0) (h2 : ¬ LV m NoV 0) {i j : Nat} (h : i % 16 = j % 16) : gP l m i = gP l m j ∧ tP l m i = tP l m j := by
  have o1 : obs (rnF l ((i / 16 : Nat) : Int) ((i % 16 : Nat) : Int)) = obs (rnF l ((j / 16 : Nat) : Int) ((j % 16 : Nat) : Int)) := rn_live hl (fun q => absurd q h1) (fun _ => by rw [h])
  have o2 : obs (rnF m ((i / 16 : Nat) : Int) ((i % 16 : Nat) : Int)) = obs (rnF m ((j / 16 : Nat) : Int) ((j % 16 : Nat) : Int)) := rn_live hm (fun q => absurd q h2) (fun _ => by rw [h])
  have := obs_eq o1 o2
  exact ⟨this.1, this.2.2⟩
theorem gP_b {l m : List Int} (hl : Sq l) (hm : Sq m) (h1 : ¬ LV l NoV 1) (h2 : ¬ LV m NoV 1) {i j : Nat} (h : i / 16 = j / 16) : gP l m i = gP l m j ∧ tP l m i = tP l m j := by
  have o1 : obs (rnF l ((i / 16 : Nat) : Int) ((i % 16 : Nat) : Int)) = obs (rnF l ((j / 16 : Nat) : Int) ((j % 16 : Nat) : Int)) := rn_live hl (fun _ => by rw [h]) (fun q => absurd q h1)
  have o2 : obs (rnF m ((i / 16 : Nat) : Int) ((i % 16 : Nat) : Int)) = obs (rnF m ((j / 16 : Nat) : Int) ((j % 16 : Nat) : Int)) := rn_live hm (fun _ => by rw [h]) (fun q => absurd q h2)
  have := obs_eq o1 o2
  exact ⟨this.1, this.2.2⟩
section CP
variable {n1 n2 : Int} {l1 l2 : List Int} {σ0 σ : Sg} {K : Int → Sg → Prop} {e : Int}
theorem Jd_fin (s1 : Sq l1) (s2 : Sq l2) {c : Int} {N : Nat} (h : (c = 1 ∧ N = 256) ∨ (c = 16 ∧ N = 16 ∧ ¬ LV l1 NoV 0 ∧ ¬ LV l2 NoV 0)) (hD : Jd l1 l2 c N σ) : Jd l1 l2 1 256 σ := by
  rcases h with ⟨rfl, rfl⟩ | ⟨rfl, rfl, h1, h2⟩
  · exact hD
  · have hg : ∀ i, gP l1 l2 (i + 16) = gP l1 l2 i := fun i => (gP_a s1 s2 h1 h2 (by omega)).1
    have ht : ∀ i, tP l1 l2 (i + 16) = tP l1 l2 i := fun i => (gP_a s1 s2 h1 h2 (by omega)).2
    obtain ⟨e1, e2, e3⟩ := perf (pl := pP l1 l2) (p := 16) (by decide) hg ht 240
    have e4 := per (p := 16) hg 16 0
    obtain ⟨d0, d1, d2, d3⟩ := hD
    have e5 : cntP (gP l1 l2) 256 = 16 * cntP (gP l1 l2) 16 := e4
    refine ⟨d0.trans e1.symm, d1.trans e2.symm, ?_, ?_⟩
    · rw [d2, e5]; omega
    · rw [d3]
      have e6 : anyP (tP l1 l2) 256 = anyP (tP l1 l2) 16 := e3
      rw [e6]
theorem compare95_k (s1 : Sq l1) (s2 : Sq l2) (c1 : cs l1 ≤ 40) (c2 : cs l2 ≤ 40) (p1 : cp l1 ≤ 300) (p2 : cp l2 ≤ 300) (hJ : Jv n1 n2 l1 l2 σ0 σ) {c : Int} {d : Nat} (hc : c = 1 ∨ (c = 16 ∧ ¬ LV l1 NoV 0 ∧ ¬ LV l2 NoV 0)) (hd : d = 1 ∨ (d = 16 ∧ ¬ LV l1 NoV 1 ∧ ¬ LV l2 NoV 1)) (hD : Jd l1 l2 c 0 σ) (k : ∀ r σ', Fq cj No No σ0 σ' → ((r = 0 ∧ fstP (gP l1 l2) 256 = -1) ∨ (r = 1 ∧ fstP (gP l1 l2) 256 ≠ -1)) → σ'.1 32 0 = fstP (gP l1 l2) 256 → (e = 0 → Jd l1 l2 1 256 σ') → K r σ') : wp5_J_compare_95 K e c σ d := by
  have hc1 : c = 1 ∨ c = 16 := hc.imp (fun z => z) (fun z => z.1)
  have hd1 : d = 1 ∨ d = 16 := hd.imp (fun z => z) (fun z => z.1)
  refine wl2_rule (fun (i : Int) (s : Sg) => ∃ a N : Nat, i = (a : Int) ∧ Jv n1 n2 l1 l2 σ0 s ∧ Jd l1 l2 c N s ∧ (e ≠ 0 → fstP (gP l1 l2) N = -1) ∧ ((a < 16 ∧ N = 16 * a ∧ (c = 16 → a = 0)) ∨ (a = 16 ∧ (c = 1 → N = 256) ∧ (c = 16 → N = 16)))) (fun (i : Int) _ => (16 - i).toNat) ?_ ⟨0, 0, rfl, hJ, hD, fun _ => rfl, Or.inl ⟨by decide, rfl, fun _ => rfl⟩⟩
  rintro P i s ⟨a, N, rfl, iJ, iD, iE, iA⟩ ih
  refine ⟨fun hge => ?_, fun hlt => ?_⟩
  · have ha : a = 16 ∧ (c = 1 → N = 256) ∧ (c = 16 → N = 16) := by
      rcases iA with z | z
      · exfalso; omega
      · exact z
    have D2 : Jd l1 l2 1 256 s := by
      refine Jd_fin s1 s2 ?_ iD
      rcases hc with z | z
      · exact Or.inl ⟨z, ha.2.1 z⟩
      · exact Or.inr ⟨z.1, ha.2.2 z.1, z.2⟩
    have e1 : (cntP (gP l1 l2) N : Int) = 0 ↔ fstP (gP l1 l2) 256 = -1 := by
      have q1 : c * (cntP (gP l1 l2) N : Int) = 1 * (cntP (gP l1 l2) 256 : Int) := iD.2.2.1.symm.trans D2.2.2.1
      have m1 := mul01 (m := cntP (gP l1 l2) N) hc1
      have m2 := fst_cnt (g := gP l1 l2) 256
      rw [m2]
      constructor
      · intro z
        have : c * (cntP (gP l1 l2) N : Int) = 0 := m1.1.mpr (by omega)
        omega
      · intro z
        have : c * (cntP (gP l1 l2) N : Int) = 0 := by omega
        have := m1.1.mp this
        omega
    have m1 := mul01 (m := cntP (gP l1 l2) N) hc1
    rw [iD.2.2.1]
    refine ⟨fun z => k 0 s iJ.2.2.2.2 (Or.inl ⟨rfl, e1.mp ?_⟩) D2.1 (fun _ => D2), fun z => k 1 s iJ.2.2.2.2 (Or.inr ⟨rfl, fun q => ?_⟩) D2.1 (fun _ => D2)⟩
    · have : c * (cntP (gP l1 l2) N : Int) = 0 := by omega
      have := m1.1.mp this
      omega
    · have w := e1.mpr q
      have : c * (cntP (gP l1 l2) N : Int) = 0 := m1.1.mpr (by omega)
      omega
  · have ha : a < 16 ∧ N = 16 * a ∧ (c = 16 → a = 0) := by
      rcases iA with z | z
      · exact z
      · exfalso; omega
    obtain ⟨a16, hN, ac⟩ := ha
    refine wl2_rule (fun (j : Int) (s : Sg) => ∃ b M : Nat, j = (b : Int) ∧ Jv n1 n2 l1 l2 σ0 s ∧ Jd l1 l2 c M s ∧ (e ≠ 0 → fstP (gP l1 l2) M = -1) ∧ ((b < 16 ∧ M = 16 * a + b ∧ (d = 16 → b = 0)) ∨ (b = 16 ∧ M = 16 * a + 16))) (fun (j : Int) _ => (16 - j).toNat) ?_ ⟨0, N, rfl, iJ, iD, iE, Or.inl ⟨by decide, by omega, fun _ => rfl⟩⟩
    rintro P2 j s2' ⟨b, M, rfl, jJ, jD, jE, jB⟩ ih2
    refine ⟨fun hge => ?_, fun hlt2 => ?_⟩
    · have hb : b = 16 ∧ M = 16 * a + 16 := by
        rcases jB with z | z
        · exfalso; omega
        · exact z
      have hr : rng ((a : Int) + c) := by rcases hc1 with z | z <;> rw [z] <;> exact rng_small (by omega) (by omega)
      refine ⟨hr, ?_⟩
      rcases hc1 with z | z
      · have ec : (a : Int) + c = ((a + 1 : Nat) : Int) := by rw [z]; omega
        rw [ec]
        refine ih _ _ ⟨a + 1, M, rfl, jJ, jD, jE, ?_⟩ (by omega)
        by_cases q : a + 1 < 16
        · exact Or.inl ⟨q, by omega, fun q2 => by rw [z] at q2; exact absurd q2 (by decide)⟩
        · exact Or.inr ⟨by omega, fun _ => by omega, fun q2 => by rw [z] at q2; exact absurd q2 (by decide)⟩
      · have a0 := ac z
        have ec : (a : Int) + c = ((16 : Nat) : Int) := by rw [z]; omega
        rw [ec]
        exact ih _ _ ⟨16, M, rfl, jJ, jD, jE, Or.inr ⟨rfl, fun q2 => by rw [z] at q2; exact absurd q2 (by decide), fun _ => by omega⟩⟩ (by omega)
    · have hb : b < 16 ∧ M = 16 * a + b ∧ (d = 16 → b = 0) := by
        rcases jB with z | z
        · exact z
        · exfalso; omega
      obtain ⟨b16, hM, bd⟩ := hb
      have same : ∀ j, j < d → gP l1 l2 (M + j) = gP l1 l2 M ∧ tP l1 l2 (M + j) = tP l1 l2 M := by
        intro j hj
        rcases hd with z | z
        · have : j = 0 := by omega
          rw [this]; exact ⟨rfl, rfl⟩
        · have := bd z.1
          exact gP_b s1 s2 z.2.1 z.2.2 (by omega)
      refine judge_one s1 s2 c1 c2 p1 p2 jJ hc1 hd1 a16 b16 hM jD same (fun σ' kJ kD => ?_)
      have next : (e ≠ 0 → fstP (gP l1 l2) (M + d) = -1) → rng ((b : Int) + d) ∧ P2 ((b : Int) + d) σ' := by
        intro hE
        have ec : (b : Int) + d = ((b + d : Nat) : Int) := by omega
        refine ⟨rng_small (by omega) (by omega), ?_⟩
        rw [ec]
        refine ih2 _ _ ⟨b + d, M + d, rfl, kJ, kD, hE, ?_⟩ (by omega)
        rcases hd1 with z | z
        · by_cases q : b + d < 16
          · exact Or.inl ⟨q, by omega, fun q2 => by omega⟩
          · exact Or.inr ⟨by omega, by omega⟩
        · have := bd z
          exact Or.inr ⟨by omega, by omega⟩
      refine ⟨fun z => next (fun q => absurd z q), fun z => ⟨fun z2 => next (fun _ => ?_), fun z2 => ?_⟩⟩
      · rw [kD.2.2.1] at z2
        have m1 := mul01 (m := cntP (gP l1 l2) (M + d)) hc1
        exact (fst_cnt _).mpr (m1.1.mp (by omega))
      · rw [kD.2.2.1] at z2
        have m1 := mul01 (m := cntP (gP l1 l2) (M + d)) hc1
        have nz : fstP (gP l1 l2) (M + d) ≠ -1 := fun q => by
          have := m1.1.mpr ((fst_cnt _).mp q)
          omega
        have st := (fst_stay (pl := pP l1 l2) nz (256 - (M + d))).1
        rw [show M + d + (256 - (M + d)) = 256 by omega] at st
        exact k 1 σ' kJ.2.2.2.2 (Or.inr ⟨rfl, by rw [st]; exact nz⟩) (by rw [st]; exact kD.1) (fun q => absurd q z)
theorem compare_k (h1 : RowL σ n1 l1) (h2 : RowL σ n2 l2) (s1 : Sq l1) (s2 : Sq l2) (c1 : cs l1 ≤ 40) (c2 : cs l2 ≤ 40) (p1 : cp l1 ≤ 300) (p2 : cp l2 ≤ 300) (k : ∀ r σ', Fq cj No No σ σ' → ((r = 0 ∧ fstP (gP l1 l2) 256 = -1) ∨ (r = 1 ∧ fstP (gP l1 l2) 256 ≠ -1)) → σ'.1 32 0 = fstP (gP l1 l2) 256 → (e = 0 → Jd l1 l2 1 256 σ') → K r σ') : wp5_J_compare σ n1 n2 e K := by
  have len1 := s1.len
  have len2 := s2.len
  refine trace_k (h1.of22 rfl) s1 c1 (by omega) (fun σ1 u1_ f1 => ?_)
  refine trace_k ((h2.of22 (σ' := pU (pU (pU (pU σ 32 0 (-1)) 32 1 (-1)) 32 2 0) 32 3 0) rfl).fl f1) s2 c2 (by omega) (fun σ2 u2_ f2 => ?_)
  have T1 : Trc 37 n1 l1 σ2 := u1_.same (fun j _ => by rw [(f2.1 37 (by unfold fl; omega)).1]) (fun k k1 k2 => (f2.1 (37 + k) (by unfold fl; omega)).2)
  have J : Jv n1 n2 l1 l2 σ σ2 := ⟨T1, u2_, ((h1.of22 (σ' := pU (pU (pU (pU σ 32 0 (-1)) 32 1 (-1)) 32 2 0) 32 3 0) rfl).fl f1).fl f2, ((h2.of22 (σ' := pU (pU (pU (pU σ 32 0 (-1)) 32 1 (-1)) 32 2 0) 32 3 0) rfl).fl f1).fl f2, ((((fq32.trans fq32).trans fq32).trans fq32).trans (flcj f1 (Or.inl rfl))).trans (flcj f2 (Or.inr rfl))⟩
  have e32 : σ2.1 32 = (pU (pU (pU (pU σ 32 0 (-1)) 32 1 (-1)) 32 2 0) 32 3 0).1 32 := ((f2.1 32 (by unfold fl; omega)).1).trans (f1.1 32 (by unfold fl; omega)).1
  have D : ∀ c : Int, Jd l1 l2 c 0 σ2 := by
    intro c
    unfold Jd
    rw [e32]
    refine ⟨?_, ?_, ?_, ?_⟩
    · rw [pU_get, if_neg (by omega), pU_get, if_neg (by omega), pU_get, if_neg (by omega), pU_get, if_pos ⟨rfl, rfl⟩] <;> rfl
    · rw [pU_get, if_neg (by omega), pU_get, if_neg (by omega), pU_get, if_pos ⟨rfl, rfl⟩] <;> rfl
    · rw [pU_get, if_neg (by omega), pU_get, if_pos ⟨rfl, rfl⟩]
      show (0 : Int) = c * ((0 : Nat) : Int)
      simp
    · rw [pU_get, if_pos ⟨rfl, rfl⟩] <;> rfl
  have lv : ∀ {q : Nat} {n : Int} {l : List Int}, Sq l → Trc q n l σ2 → b63 (ahv (σ2.2.1 (q + 9)) (cs l) 0) ∧ ∀ w, bv w → (bitR (ahv (σ2.2.1 (q + 9)) (cs l) 0) w ↔ LV l NoV w) := by
    intro q n l hl ht
    obtain ⟨_, _, _, _, _, _, _, _, _, _, hb, hA⟩ := ht
    exact ⟨ahv_b hb 0, fun w hw => (hA 0 w hw).trans (Cof0 hl)⟩
  obtain ⟨x1, y1⟩ := lv s1 T1
  obtain ⟨x2, y2⟩ := lv s2 u2_
  refine aheadOf_k T1.2.1 (by omega) (aheadOf_k u2_.2.1 (by omega) ?_)
  obtain ⟨xo, yo⟩ := or63 x1 x2
  obtain ⟨n, hn⟩ := in63 xo.1 xo.2
  have b12 := b63_12 n
  rw [← hn] at b12
  have dead0 : ziand (zior (ahv (σ2.2.1 (37 + 9)) (cs l1) 0) (ahv (σ2.2.1 (54 + 9)) (cs l2) 0)) 1 = 0 → ¬ LV l1 NoV 0 ∧ ¬ LV l2 NoV 0 := by
    intro z
    have nb := b12.1.mp z
    have w0 : bv 0 := ⟨by decide, by decide⟩
    exact ⟨fun q => nb ((yo 0 w0).mpr (Or.inl ((y1 0 w0).mpr q))), fun q => nb ((yo 0 w0).mpr (Or.inr ((y2 0 w0).mpr q)))⟩
  have dead1 : ziand (zior (ahv (σ2.2.1 (37 + 9)) (cs l1) 0) (ahv (σ2.2.1 (54 + 9)) (cs l2) 0)) 2 = 0 → ¬ LV l1 NoV 1 ∧ ¬ LV l2 NoV 1 := by
    intro z
    have nb := b12.2.mp z
    have w0 : bv 1 := ⟨by decide, by decide⟩
    exact ⟨fun q => nb ((yo 1 w0).mpr (Or.inl ((y1 1 w0).mpr q))), fun q => nb ((yo 1 w0).mpr (Or.inr ((y2 1 w0).mpr q)))⟩
  have c80 : ∀ c : Int, (c = 1 ∨ (c = 16 ∧ ¬ LV l1 NoV 0 ∧ ¬ LV l2 NoV 0)) → wp5_J_compare_80 K e (ahv (σ2.2.1 (37 + 9)) (cs l1) 0) (ahv (σ2.2.1 (54 + 9)) (cs l2) 0) σ2 c := fun c hc =>
    ⟨fun z => compare95_k (d := 16) s1 s2 c1 c2 p1 p2 J hc (Or.inr ⟨rfl, dead1 z⟩) (D c) k, fun _ => compare95_k (d := 1) s1 s2 c1 c2 p1 p2 J hc (Or.inl rfl) (D c) k⟩
  exact ⟨fun z => c80 16 (Or.inr ⟨rfl, dead0 z⟩), fun _ => c80 1 (Or.inl rfl)⟩
end CP
