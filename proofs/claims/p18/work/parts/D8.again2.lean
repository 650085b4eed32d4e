-- ===== the same in the reference
theorem again_x {row f : Int → Int} {many m : Int} {l : List Int} (h : WF row many l) {rule ruleRight ruleLong : Int → Int} {r : Int} {L R : List Int} (r0 : 0 ≤ r) (r1 : r ≤ 11) (hr : RW rule ruleRight ruleLong r L R) {bound : Int → Int} {pat : Int} {K : Int → (Int → Int) → (Int → Int) → Int → Int → (Int → Int) → Int → Prop}
    (k1 : ∀ l', agR L R 50 l (some l') → ∀ row' f' many' m' b' p', WF row' many' l' → K 1 row' f' many' m' b' p') (k0 : agR L R 50 l none → ∀ row' f' many' m' b' p', K 0 row' f' many' m' b' p') : wp_again row f many m rule ruleRight ruleLong bound pat r K := by
  have hr' := hr
  obtain ⟨eL, eR, aLR, eRight, eLong, le40, hsub⟩ := hr'
  obtain ⟨aL, aR⟩ := At_app.mp aLR
  unfold wp_again
  refine wl7_rule (fun (i : Int) row f many m (_ : Int → Int) (_ : Int) => ∃ (j : Nat) (l1 : List Int), i = (j : Int) ∧ j ≤ 50 ∧ WF row many l1 ∧ ∀ o, agR L R (50 - j) l1 o → agR L R 50 l o) (fun (i : Int) _ _ _ _ _ _ => (50 - i).toNat) ?_ ⟨0, l, rfl, by omega, h, fun o q => q⟩
  rintro P i row f many m bd pt ⟨j, l1, rfl, hj, hw, ho⟩ ih
  refine ⟨fun z => ?_, fun z => ?_⟩
  · have : j = 50 := by omega
    subst this
    exact k1 l1 (ho _ rfl) _ _ _ _ _ _ hw
  have ek : 50 - j = (50 - (j + 1)) + 1 := by omega
  refine match_x hw r0 r1 eL aL (by omega) (Int.le_refl 0) (fun q g hq hm hcnt b' p' => ⟨fun _ => ?_, fun z => absurd z (by omega)⟩) (fun hcnt b' p' => ⟨fun z => absurd rfl z, fun _ => ?_⟩)
  · obtain ⟨pre, e, t, e2, hp, he, hmL, hy, eap, eok, ecs, ecp, ei⟩ := at_match eL eR hsub hw.1 hw.2.2.2.1 hq hm
    have hF : Fst L l1 q g := ⟨hq, hm, by omega⟩
    subst hp
    refine applies_x hw r0 r1 hr e2 he hy hmL (fun nok b2 p2 => ⟨fun z => absurd rfl z, fun _ => k0 (ho _ ?_) _ _ _ _ _ _⟩) (fun okk row' f' many' m' b2 p2 hw' => ⟨fun _ => ⟨⟨by omega, by omega⟩, ih _ _ _ _ _ _ _ ⟨j + 1, _, by omega, by omega, hw', fun o q => ho o ?_⟩ (by omega)⟩, fun z => absurd z (by decide)⟩)
    · rw [ek]
      exact Or.inr ⟨_, g, hF, Or.inr ⟨fun z => nok (eok.mp z), rfl⟩⟩
    · rw [ek]
      exact Or.inr ⟨_, g, hF, Or.inl ⟨eok.mpr okk, by rw [eap]; exact q⟩⟩
  · refine k1 l1 (ho _ ?_) _ _ _ _ _ _ hw
    rw [ek]
    exact Or.inl ⟨by omega, rfl⟩
