theorem program_both {σ : Sg} {slot slotLong row fresh : Int → Int} {many made at0 token tokenAt value wrong wrongAt fk depth cP cS pM lL fp iR iT x : Int} (g : Gl (σ.2.1 4) (σ.1 3 1)) (hS : SW slot slotLong) (hva : 0 ≤ value ∧ value ≤ 9999) (hRd : RdOk σ) (hRo : RowOk σ) :
    ∃ (r : Int) (σ' : Sg), (∀ K, K r σ' → wp5_S_program σ x K) ∧ PostP x σ σ' ∧ ∃ fresh' many' made' at' token' tokenAt' value' wrong' wrongAt' fk' depth' cP' cS' pM' lL' fp' iR' iT',
      (∀ K, (∀ slot' slotLong' row', SW slot' slotLong' → (SL σ slot slotLong → SL σ' slot' slotLong') → K r slot' slotLong' row' fresh' many' made' 0 at' token' tokenAt' value' wrong' wrongAt' fk' depth' cP' cS' pM' lL' fp' iR' iT') → wp_program slot slotLong row fresh many made (σ.2.1 4) (σ.1 3 1) at0 token tokenAt value wrong wrongAt fk depth cP cS pM lL fp iR iT x K) ∧ (fk' = σ'.1 2 1 ∧ fp' = σ'.1 2 2) ∧ 0 ≤ value' ∧ value' ≤ 9999 := by
  by_cases hx : 0 ≤ x ∧ x ≤ 5
  · obtain ⟨a1, tk1, ta1, va1, S1, ev1⟩ := prog_start (fresh := fresh) (token := token) (tokenAt := tokenAt) g hva
    obtain ⟨ok, f', m', a', tk', ta', va', w', wa', d', c', k', l', ev, hv', out, st⟩ := pg_loop (K := fun _ _ => True) (w := 0) (wa := -1) g 40 (bpS σ) 0 fresh 0 a1 tk1 ta1 va1 0 0 0 (by omega) S1
    have cls : ∀ K, wp5_R_readAll (bpS σ) (fun r34 σr34 => (r34 ≠ 0 → wp5_W_copy σr34 x 8 (fun σr47 => wp5_W_statements σr47 x (fun r51 => K r51 σr47))) ∧ (r34 = 0 → K (-1) σr34)) → wp5_S_program σ x K := by
      intro K h
      clear out st
      unfold wp5_S_program wp5_S_slotAt
      refine ⟨fun z => absurd z (by omega), fun _ => ⟨fun z => absurd z (by omega), fun _ => ⟨⟨by omega, by omega⟩, ⟨fun z => absurd z (by omega), fun _ => ⟨⟨by omega, by omega⟩, ?_⟩⟩⟩⟩⟩
      unfold wp5_R_beginProgram wp5_R_begin_n1 wp5_T_rewind
      exact h
    have ref : ∀ K, wp_program_47 K slot slotLong row many (σ.1 3 1) fk fp x a' c' k' d' f' 0 0 ok l' m' 300 ta' tk' va' wa' w' → wp_program slot slotLong row fresh many made (σ.2.1 4) (σ.1 3 1) at0 token tokenAt value wrong wrongAt fk depth cP cS pM lL fp iR iT x K := by
      intro K h
      clear out st
      unfold wp_program wp_isSlot wp_isIn wp_begins
      exact ⟨fun z => absurd z (by omega), fun _ => ⟨fun z => absurd z (by omega), fun _ => ⟨Or.inr rfl, ⟨fun _ => ⟨Or.inl rfl, ev1 _ (ev K slot slotLong row many fk fp x h)⟩, fun z => absurd z (by decide)⟩⟩⟩⟩
    have c8 : capI 8 = 1000 := by unfold capI; rw [if_neg (by omega), if_pos (by omega)]
    have cx : capI x = 480 := by unfold capI; rw [if_pos (by omega)]
    rcases out with ⟨o1, ⟨o2, o3⟩, i2, σ2, cs2, ⟨p1, p2, p3, p4⟩, C2, hr2, fz2⟩ | ⟨o1, i2, σ2, cs2, ft, fz2, o7⟩
    · subst o1; subst o2; subst o3
      obtain ⟨s, hs, hw, hcp, hcs⟩ := st rfl
      have hlen := hs.len
      have hm' := hw.1
      have b7 := C2.2.2.2.1
      have b8 := C2.2.2.1
      have b13 := C2.2.1
      have hr28 : (pU σ2 3 1 0).2.2.1 0 8 = m' := hr2.1
      have hr2c : ∀ j, 0 ≤ j → j < m' → f' j = σ2.2.2.2 0 8 j := hr2.2
      obtain ⟨σ4, ev4, q1, q2, q3, q4, q5, q6⟩ := copy_at (σ := pU σ2 3 1 0) (x := x) (m := m') hx hr28 ⟨by omega, by omega⟩
      have fr4 : FrP x σ σ4 := (bp_fr σ x).trans ((fz2.p (x := x) rfl).trans ⟨fun a b z1 z2 => by rw [q1, pU_ne (Or.inl z2)], fun a _ _ _ => by rw [q2]; rfl, fun n _ z2 => q5 n z2, q6⟩)
      have hAf : At f' 0 s := hw.2.1
      have hAx : At (σ4.2.2.2 0 x) 0 s := At_congr (g := f') (p := 0) (fun i i0 i1 => by rw [Int.zero_add, q4 i i0 (by omega)]; exact (hr2c i i0 (by omega)).symm) hAf
      have lx : σ4.2.2.1 0 x = s.length := by rw [q3]; omega
      refine ⟨cs s, σ4, fun K hK => cls K (read_over p1 p3 (by rw [p4]; exact g.1) cs2 ⟨fun _ => ev4 _ (wc_ok hAx lx (by rw [q3, cx]; omega) hK), fun z => absurd z (by decide)⟩), ⟨by rw [q1]; rfl, fr4, ?_, ?_⟩, f', m', 0, a', tk', ta', va', 0, -1, 0, d', c', k', 300, l', -1, 0, 0, fun K hK => ref K ?_, ⟨by rw [q1]; exact p1.symm, by rw [q1]; exact p2.symm⟩, hv'.1, hv'.2⟩
      · unfold RdOk
        rw [q1]
        show (0 ≤ σ2.1 2 7 ∧ σ2.1 2 7 ≤ 40) ∧ (0 ≤ σ2.1 2 9 ∧ σ2.1 2 9 ≤ 1000) ∧ 0 ≤ σ2.1 2 13 ∧ σ2.1 2 13 ≤ 8
        omega
      · exact fun _ _ _ => trivial
      · unfold wp_program_47 wp_ends
        refine ⟨fun z => absurd rfl z, fun _ => ⟨fun _ => ?_, fun z => absurd z (by decide)⟩⟩
        refine turns_ok hAf (by omega) (by omega) (fun r hr => puts_ok hx.1 hx.2 hr (by omega) (by omega) (fun f hf hfo => statements_ok hr (by omega) (by omega) (hK f (uZ slotLong x m') r ?_ ?_)))
        · intro s' s0 s5
          by_cases e : s' = x
          · rw [e]
            exact ⟨s, hs, hf, by rw [uZ_eq]; omega, by omega, by omega⟩
          · obtain ⟨l, h1, h2, h3, h4, h5⟩ := hS s' s0 s5
            have hl := h1.len
            exact ⟨l, h1, At_congr (g := slot) (p := 520 * s') (fun i i0 i1 => hfo _ (by omega)) h2, by rw [uZ_ne e]; exact h3, h4, h5⟩
        · intro hS s' s0 s5
          by_cases e : s' = x
          · rw [e]
            exact ⟨s, hs, hf, by rw [uZ_eq]; omega, by omega, by omega, hAx, lx⟩
          · obtain ⟨l, h1, h2, h3, h4, h5, h6, h7⟩ := hS s' s0 s5
            have hl := h1.len
            refine ⟨l, h1, At_congr (g := slot) (p := 520 * s') (fun i i0 i1 => hfo _ (by omega)) h2, by rw [uZ_ne e]; exact h3, h4, h5, ?_, ?_⟩
            · rw [(fr4.2.2.1 s' (by omega) e).2]; exact h6
            · rw [(fr4.2.2.1 s' (by omega) e).1]; exact h7
    · subst o1
      obtain ⟨f1, f2', f3, f4, f5, f6, f7, f8, frg⟩ := ft
      have fr2 : FrP x σ (pU σ2 3 1 0) := (bp_fr σ x).trans ((fz2.p (x := x) rfl).trans ⟨fun a b z1 z2 => pU_ne (Or.inl z2), fun a _ _ _ => rfl, fun n _ z2 => ⟨rfl, rfl⟩, fun _ _ => ⟨rfl, rfl⟩⟩)
      have e9 : σ2.1 2 9 = 300 := fz2.1 2 9 (by omega)
      have e3 : σ2.1 2 3 = 8 := fz2.1 2 3 (by omega)
      have nox : ∀ n, n ≠ 8 → (pU σ2 3 1 0).2.2.1 0 n = σ.2.2.1 0 n ∧ (pU σ2 3 1 0).2.2.2 0 n = σ.2.2.2 0 n := fun n z => by
        have y1 := fz2.2.2.2.1 n z
        have y2 := (bp_fr σ (n + 1)).2.2.1 n z (by omega)
        exact ⟨y1.1.trans y2.1, y1.2.trans y2.2⟩
      refine ⟨-1, pU σ2 3 1 0, fun K hK => cls K (read_fault (by omega) (by rw [f8]; exact g.1) cs2 ⟨fun z => absurd rfl z, fun _ => hK⟩), ⟨rfl, fr2, ?_, ?_⟩, f', many, m', a', tk', ta', va', w', wa', w', d', c', k', 300, l', wa', 0, 0, fun K hK => ref K ?_, ⟨f1.symm, f2'.symm⟩, hv'.1, hv'.2⟩
      · exact ⟨o7, by show 0 ≤ σ2.1 2 9 ∧ σ2.1 2 9 ≤ 1000; omega, frg.1⟩
      · exact fun _ _ _ => trivial
      · unfold wp_program_47 wp_ends
        exact ⟨fun _ => ⟨fun z => absurd rfl z, fun _ => hK slot slotLong row hS (fun q => q.cg (fun s s0 s5 => nox s (by omega)))⟩, fun z => absurd z (by omega)⟩
  · refine ⟨-1, pU (pU (pU σ 2 1 0) 2 2 (-1)) 3 1 0, fun K hK => ?_, ⟨rfl, ⟨fun a b z1 z2 => by rw [pU_ne (Or.inl z2), pU_ne (Or.inl z1), pU_ne (Or.inl z1)], fun _ _ _ _ => rfl, fun _ _ _ => ⟨rfl, rfl⟩, fun _ _ => ⟨rfl, rfl⟩⟩, hRd, hRo⟩, fresh, many, made, at0, token, tokenAt, value, 0, wrongAt, 0, depth, cP, cS, pM, lL, -1, iR, iT, fun K hK => ?_, ⟨rfl, rfl⟩, hva.1, hva.2⟩
    · have dr : wp5_R_drop σ (fun σr14 => K (-1) σr14) := by
        unfold wp5_R_drop wp5_T_shorten
        exact ⟨fun z => absurd z (by decide), fun _ => ⟨fun _ => hK, fun z => absurd z (by show ¬ σ.1 3 1 < 0; have := g.1; omega)⟩⟩
      have dr2 : ((-1 : Int) < 0 → wp5_R_drop σ (fun σr14 => K (-1) σr14)) := fun _ => dr
      unfold wp5_S_program wp5_S_slotAt
      refine ⟨fun _ => ⟨fun _ => dr, fun z => absurd z (by decide)⟩, fun z => ⟨fun _ => ⟨fun _ => dr, fun z => absurd z (by decide)⟩, fun z2 => absurd (show 0 ≤ x ∧ x ≤ 5 by omega) hx⟩⟩
    · have en : wp_ends (σ.1 3 1) 0 wrongAt fk fp (fun taped_r13 faultKind_r13 faultPlace_r13 => K (-1) slot slotLong row fresh many made taped_r13 at0 token tokenAt value 0 wrongAt faultKind_r13 depth cP cS pM lL faultPlace_r13 iR iT) := by
        unfold wp_ends
        exact ⟨fun z => absurd rfl z, fun _ => hK slot slotLong row hS (fun q => q.cg (fun s _ _ => ⟨rfl, rfl⟩))⟩
      unfold wp_program wp_isSlot wp_isIn
      exact ⟨fun _ => ⟨Or.inl rfl, fun z => absurd rfl z, fun _ => en⟩, fun z => ⟨fun _ => ⟨Or.inl rfl, fun z => absurd rfl z, fun _ => en⟩, fun z2 => absurd (show 0 ≤ x ∧ x ≤ 5 by omega) hx⟩⟩
