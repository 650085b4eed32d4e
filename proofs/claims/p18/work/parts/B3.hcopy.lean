-- ===== the hasty COPY: from one statement on
theorem Lk.rf : ∀ (l : List Int), Lk l l
  | [] => trivial
  | c :: l => ⟨Or.inl rfl, Lk.rf l⟩
theorem Lk.app : ∀ {a b c d : List Int}, Lk a c → Lk b d → Lk (a ++ b) (c ++ d)
  | [], _, [], _, _, h => h
  | _ :: _, _, [], _, h, _ => h.elim
  | [], _, _ :: _, _, h, _ => h.elim
  | _ :: _, _, _ :: _, _, h, h' => ⟨h.1, Lk.app h.2 h'⟩
def rnV (v w : Int) : Int → Int := rn1 (20 + v) (20 + w)
theorem rnV_no {v w c : Int} (hv : 0 ≤ v ∧ v ≤ 5) (h : ¬ vr c) : rnV v w c = c := if_neg (fun q => h (by unfold vr; omega))
theorem Lk_map {v w : Int} (hv : 0 ≤ v ∧ v ≤ 5) (hw : 0 ≤ w ∧ w ≤ 5) : ∀ (l : List Int), Lk l (l.map (rnV v w))
  | [] => trivial
  | c :: l => by
    refine ⟨?_, Lk_map hv hw l⟩
    show c = rn1 (20 + v) (20 + w) c ∨ (vr c ∧ vr (rn1 (20 + v) (20 + w) c))
    unfold rn1
    by_cases h : c = 20 + v
    · rw [if_pos h]; unfold vr; exact Or.inr ⟨by omega, by omega⟩
    · rw [if_neg h]; exact Or.inl rfl
theorem map_id {v w : Int} (hv : 0 ≤ v ∧ v ≤ 5) {e : List Int} (h : ∀ c ∈ e, ¬ vr c) : e.map (rnV v w) = e := by
  induction e with
  | nil => rfl
  | cons c e ih => rw [List.map_cons, rnV_no hv (h c List.mem_cons_self), ih (fun d hd => h d (List.mem_cons_of_mem _ hd))]
noncomputable def cpS (v w : Int) (l : List Int) : List Int := SqF [] (fun c e r y => (c :: e).map (rnV v w) ++ (if c = 100 + v then r else y)) (fun _ y => 111 :: y)
  (fun t a b B C r _ _ y => if 100 + v ∈ (112 :: t :: (a ++ (b ++ (B ++ (113 :: (C ++ [114])))))) then (112 :: t :: (a ++ (b ++ (B ++ (113 :: (C ++ [114])))))) ++ r else (112 :: t :: (a ++ (b ++ (B ++ (113 :: (C ++ [114])))))).map (rnV v w) ++ y)
  (fun t a b B r _ y => if 100 + v ∈ (115 :: t :: (a ++ (b ++ (B ++ [114])))) then (115 :: t :: (a ++ (b ++ (B ++ [114])))) ++ r else (115 :: t :: (a ++ (b ++ (B ++ [114])))).map (rnV v w) ++ y) l
section CP
variable {v w : Int}
theorem cpS_nil : cpS v w [] = [] := SqF_nil
theorem cpS_set {c : Int} {e r : List Int} (hc : setC c ∨ c = 110) (he : Ex lfR e) (hr : Sq r) : cpS v w ((c :: e) ++ r) = (c :: e).map (rnV v w) ++ (if c = 100 + v then r else cpS v w r) := SqF_set hc he hr
theorem cpS_fail {r : List Int} (hr : Sq r) : cpS v w ([111] ++ r) = 111 :: cpS v w r := SqF_fail hr
theorem cpS_br {s r : List Int} (hs : Br s) (hr : Sq r) : cpS v w (s ++ r) = if 100 + v ∈ s then s ++ r else s.map (rnV v w) ++ cpS v w r := by
  rcases hs with ⟨t, x, y, B, C, h1, h2, h3, h4, h5, rfl⟩ | ⟨t, x, y, B, h1, h2, h3, h4, rfl⟩
  · exact SqF_if h1 h2 h3 h4 h5 hr
  · exact SqF_wh h1 h2 h3 h4 hr
theorem Sm.kind {s : List Int} (hs : Sm Sq s) : (∃ c e, (setC c ∨ c = 110) ∧ Ex lfR e ∧ s = c :: e) ∨ s = [111] ∨ Br s := by
  rcases hs with ⟨c, e, hc, he, rfl⟩ | rfl | ⟨t, x, y, B, C, h1, h2, h3, h4, h5, rfl⟩ | ⟨t, x, y, B, h1, h2, h3, h4, rfl⟩
  · exact Or.inl ⟨c, e, hc, he, rfl⟩
  · exact Or.inr (Or.inl rfl)
  · exact Or.inr (Or.inr (Or.inl ⟨t, x, y, B, C, h1, h2, h3, h4, h5, rfl⟩))
  · exact Or.inr (Or.inr (Or.inr ⟨t, x, y, B, h1, h2, h3, h4, rfl⟩))
theorem Br.head {s : List Int} (h : Br s) : ∃ c q, s = c :: q ∧ (c = 112 ∨ c = 115) := by
  rcases h with ⟨t, x, y, B, C, _, _, _, _, _, rfl⟩ | ⟨t, x, y, B, _, _, _, _, rfl⟩
  · exact ⟨112, _, rfl, Or.inl rfl⟩
  · exact ⟨115, _, rfl, Or.inr rfl⟩
theorem cpS_lk (hv : 0 ≤ v ∧ v ≤ 5) (hw : 0 ≤ w ∧ w ≤ 5) : ∀ {l : List Int}, Sq l → Lk l (cpS v w l) := by
  intro l hl
  refine Sq.ind (P := fun l => Lk l (cpS v w l)) ?_ ?_ hl
  · rw [cpS_nil]; trivial
  · intro s r hs hr ih
    have hs' := hs.mono (T := Sq) (fun _ h => h.1)
    rcases hs'.kind with ⟨c, e, hc, he, rfl⟩ | rfl | hb
    · rw [cpS_set hc he hr]
      split
      · exact (Lk_map hv hw _).app (Lk.rf _)
      · exact (Lk_map hv hw _).app ih
    · rw [cpS_fail hr]
      exact ⟨Or.inl rfl, ih⟩
    · rw [cpS_br hb hr]
      split
      · exact Lk.rf _
      · exact (Lk_map hv hw _).app ih
/-- the class, from here on -/
theorem Cb {n : Int} {K : Sg → Prop} {L : Int → Int → Sg → Prop} (hL : ∀ k c s, wp5_A_copyBehind_6 K n v w L k c s → L k c s) (hv : 0 ≤ v ∧ v ≤ 5) (hw : 0 ≤ w ∧ w ≤ 5) : ∀ {r : List Int}, Sq r → ∀ (cnt : Int) (σ : Sg) (a t : List Int), RowL σ n (a ++ (r ++ t)) → NH t → 0 ≤ cnt → cnt + cs r ≤ 40 → (∀ σ', RowL σ' n (a ++ (cpS v w r ++ t)) → Fq No (one n) No σ σ' → K σ') → L (a.length : Int) cnt σ := by
  intro r hr
  refine Sq.ind (P := fun r => ∀ (cnt : Int) (σ : Sg) (a t : List Int), RowL σ n (a ++ (r ++ t)) → NH t → 0 ≤ cnt → cnt + cs r ≤ 40 → (∀ σ', RowL σ' n (a ++ (cpS v w r ++ t)) → Fq No (one n) No σ σ' → K σ') → L (a.length : Int) cnt σ) ?_ ?_ hr
  · intro cnt σ a t h ht c0 c1 k
    have kk : K σ := k σ (by rw [cpS_nil]; exact h) Fq.refl
    refine hL _ _ _ ⟨fun _ => kk, fun _ => ?_⟩
    cases t with
    | nil => exact cell_out h (Or.inr (by simp)) (isStatement_k (fun q => absurd q (by decide)) (fun _ => t0 kk))
    | cons d t =>
      have := ht d t rfl
      exact cell_mid (b := t) h rfl (isStatement_k (fun q => by rw [this] at q; cases q) (fun _ => t0 kk))
  · intro s r hs hr ih cnt σ a t h ht c0 c1 k
    have hs' := hs.mono (T := Sq) (fun _ h => h.1)
    have hcs := hs'.csp
    rw [cs_app] at c1
    have bd := h.bd
    simp only [List.length_append] at bd
    have h2 : RowL σ n (a ++ (s ++ (r ++ t))) := by simpa using h
    obtain ⟨c, q, es, hc⟩ := hs'.head
    have cel : ∀ {K : Int → Prop}, K c → wp5_W_cell σ n a.length K := fun hk => cell_mid (b := q ++ (r ++ t)) (by rw [es] at h2; simpa using h2) rfl hk
    -- replace, and go on or end
    have go : ∀ (r42 : Int), (r42 = 0 → ∀ σ', RowL σ' n (a ++ (s.map (rnV v w) ++ (r ++ t))) → Fq No (one n) No σ σ' → L ((a.length : Int) + s.length) (cnt + 1) σ') → (r42 ≠ 0 → ∀ σ', RowL σ' n (a ++ (s.map (rnV v w) ++ (r ++ t))) → Fq No (one n) No σ σ' → K σ') → wp5_A_copyBehind_65 K n v w a.length cnt ((a.length : Int) + s.length) r42 σ L := fun r42 g0 g1 => ⟨rng_small (by omega) (by omega), rng_small (by omega) (by omega), replace_k h2 rfl rfl (fun σ' hr' f' => ⟨fun z => ⟨rng_small (by omega) (by omega), g0 z σ' hr' f'⟩, fun z => g1 z σ' hr' f'⟩)⟩
    have next : (cpS v w (s ++ r) = s.map (rnV v w) ++ cpS v w r) → ∀ σ', RowL σ' n (a ++ (s.map (rnV v w) ++ (r ++ t))) → Fq No (one n) No σ σ' → L ((a.length : Int) + s.length) (cnt + 1) σ' := fun e σ' hr' f' => by
      have el : (a.length : Int) + s.length = ((a ++ s.map (rnV v w)).length : Nat) := by simp only [List.length_append, List.length_map]; omega
      rw [el]
      exact ih (cnt + 1) σ' (a ++ s.map (rnV v w)) t (by simpa using hr') ht (by omega) (by omega) (fun σ'' hr'' f'' => k σ'' (by rw [e]; simpa using hr'') (f'.trans f''))
    have stop : (cpS v w (s ++ r) = s.map (rnV v w) ++ r) → ∀ σ', RowL σ' n (a ++ (s.map (rnV v w) ++ (r ++ t))) → Fq No (one n) No σ σ' → K σ' := fun e σ' hr' f' => k σ' (by rw [e]; simpa using hr') f'
    refine hL _ _ _ ⟨fun z => absurd z (by omega), fun _ => cel (isStatement_k (fun _ => t1 ?_) (fun z => by rw [hc] at z; cases z))⟩
    refine statementEnd_k h2 hs' rfl ⟨rng_small (by omega) (by omega), ?_⟩
    refine has_k h2 rfl rfl (fun hm => t1 ?_) (fun hm => t0 ?_)
    · -- v is set in it
      refine cel ?_
      rcases hs'.kind with ⟨c', e, hc', he, es'⟩ | es' | hb
      · have ec : c' = 100 + v := by
          rw [es'] at hm
          rcases List.mem_cons.mp hm with z | z
          · exact z.symm
          · exact absurd ⟨by omega, by omega⟩ (he.noset _ z)
        have ecc : c = c' := (List.cons.inj (es.symm.trans es')).1
        refine isBranch_k (fun z => by omega) (fun _ _ => t0 (go 1 (fun z => absurd z (by decide)) (fun _ => stop ?_)))
        rw [es', cpS_set hc' he hr, if_pos ec]
      · rw [es'] at hm
        have := List.mem_singleton.mp hm
        omega
      · obtain ⟨d, q', ed, hd⟩ := hb.head
        have ecc : c = d := (List.cons.inj (es.symm.trans ed)).1
        refine isBranch_k (fun _ => t1 (k σ ?_ Fq.refl)) (fun z1 z2 => absurd hd (by omega))
        rw [cpS_br hb hr, if_pos hm]; simpa using h2
    · have e : cpS v w (s ++ r) = s.map (rnV v w) ++ cpS v w r := by
        rcases hs'.kind with ⟨c', e, hc', he, es'⟩ | es' | hb
        · have ec : c' ≠ 100 + v := fun z => hm (by rw [es', z]; exact List.mem_cons_self)
          rw [es', cpS_set hc' he hr, if_neg ec]
        · rw [es', cpS_fail hr]
          have : rnV v w 111 = 111 := rnV_no hv (by unfold vr; omega)
          show _ = rnV v w 111 :: cpS v w r
          rw [this]
        · rw [cpS_br hb hr, if_neg hm]
      exact go 0 (fun _ => next e) (fun z => absurd rfl z)
theorem copyBehind_k {n : Int} {K : Sg → Prop} {σ : Sg} {a r t : List Int} {x : Int} (hv : 0 ≤ v ∧ v ≤ 5) (hw : 0 ≤ w ∧ w ≤ 5) (hr : Sq r) (h : RowL σ n (a ++ (r ++ t))) (ht : NH t) (hc : cs r ≤ 40) (hx : x = a.length) (k : ∀ σ', RowL σ' n (a ++ (cpS v w r ++ t)) → Fq No (one n) No σ σ' → K σ') : wp5_A_copyBehind σ n x v w K := by
  subst hx
  intro L hL
  exact Cb hL hv hw hr 0 σ a t h ht (by omega) (by omega) k
-- ===== the same in the reference
theorem sets_x {row : Int → Int} {p q : Int} {e : List Int} {K : Int → Prop} (ha : At row p e) (hq : q = p + e.length) (h0 : 0 ≤ p) (h1 : q ≤ 2400) (hv : 0 ≤ v ∧ v ≤ 5) (k1 : 100 + v ∈ e → K 1) (k0 : 100 + v ∉ e → K 0) : wp_sets row p q v K := by
  refine wl2_rule (fun r i => ∃ e1 e2 : List Int, e = e1 ++ e2 ∧ i = p + e1.length ∧ (r = 0 ∨ r = 1) ∧ (r = 0 → 100 + v ∉ e1) ∧ (r ≠ 0 → 100 + v ∈ e1)) (fun _ i => (q - i).toNat) ?_ ⟨[], e, rfl, by simp, Or.inl rfl, by simp, fun z => absurd rfl z⟩
  rintro P r i ⟨e1, e2, rfl, rfl, hb, hr0, hr1⟩ ih
  simp only [List.length_append] at hq
  refine ⟨fun z => ⟨hb, ?_⟩, fun z => ?_⟩
  · have : e2 = [] := List.length_eq_zero_iff.mp (by omega)
    subst this
    rw [List.append_nil] at k1 k0
    rcases hb with rfl | rfl
    · exact k0 (hr0 rfl)
    · exact k1 (hr1 (by decide))
  · cases e2 with
    | nil => simp at hq; omega
    | cons c e2 =>
      have ec : row (p + e1.length) = c := (At_app.mp ha).2.1
      have nx : ∀ r', (r' = 0 ∨ r' = 1) → (r' = 0 → 100 + v ∉ e1 ++ [c]) → (r' ≠ 0 → 100 + v ∈ e1 ++ [c]) → P r' (p + e1.length + 1) := fun r' z1 z2 z3 => ih _ _ ⟨e1 ++ [c], e2, by simp, by simp only [List.length_append, List.length_cons, List.length_nil]; omega, z1, z2, z3⟩ (by omega)
      refine ⟨fun z2 => ⟨⟨by omega, by omega⟩, nx 1 (Or.inr rfl) (fun z => absurd z (by decide)) (fun _ => List.mem_append.mpr (Or.inl (hr1 z2)))⟩, fun z2 => ⟨⟨by omega, by omega⟩, ⟨by omega, by omega⟩, ?_⟩⟩
      rw [ec]
      refine ⟨fun z3 => ⟨⟨by omega, by omega⟩, nx 0 (Or.inl rfl) (fun _ q => ?_) (fun z => absurd rfl z)⟩, fun z3 => ⟨⟨by omega, by omega⟩, nx 1 (Or.inr rfl) (fun z => absurd z (by decide)) (fun _ => by rw [z3]; simp)⟩⟩
      rcases List.mem_append.mp q with q | q
      · exact hr0 z2 q
      · exact z3 (List.mem_singleton.mp q).symm
theorem replaces_x {row : Int → Int} {p q : Int} {e : List Int} {K : (Int → Int) → Prop} (ha : At row p e) (hq : q = p + e.length) (h0 : 0 ≤ p) (h1 : q ≤ 2400) (hv : 0 ≤ v ∧ v ≤ 5) (hw : 0 ≤ w ∧ w ≤ 5) (k : ∀ row', At row' p (e.map (rnV v w)) → (∀ j, j < p ∨ q ≤ j → row' j = row j) → K row') : wp_replaces row p q v w K := by
  refine wl2_rule (fun i g => ∃ e1 e2 : List Int, e = e1 ++ e2 ∧ i = p + e1.length ∧ At g p (e1.map (rnV v w)) ∧ At g (p + e1.length) e2 ∧ ∀ j, j < p ∨ q ≤ j → g j = row j) (fun i _ => (q - i).toNat) ?_ ⟨[], e, rfl, by simp, trivial, by simpa using ha, fun _ _ => rfl⟩
  rintro P i g ⟨e1, e2, rfl, rfl, g1, g2, g3⟩ ih
  simp only [List.length_append] at hq
  refine ⟨fun z => ?_, fun z => ⟨⟨by omega, by omega⟩, ⟨by omega, by omega⟩, ?_⟩⟩
  · have : e2 = [] := List.length_eq_zero_iff.mp (by omega)
    subst this
    rw [List.append_nil] at k
    exact k g g1 g3
  · cases e2 with
    | nil => simp at hq; omega
    | cons c e2 =>
      have ec : g (p + e1.length) = c := g2.1
      rw [ec]
      have el : ((e1.map (rnV v w)).length : Int) = e1.length := by rw [List.length_map]
      have nx : ∀ g', At g' p ((e1 ++ [c]).map (rnV v w)) → At g' (p + e1.length + 1) e2 → (∀ j, j < p ∨ q ≤ j → g' j = row j) → P (p + e1.length + 1) g' := fun g' z1 z2 z3 => ih _ _ ⟨e1 ++ [c], e2, by simp, by simp only [List.length_append, List.length_cons, List.length_nil]; omega, z1, by rw [show p + (((e1 ++ [c]).length : Nat) : Int) = p + e1.length + 1 by simp only [List.length_append, List.length_cons, List.length_nil]; omega]; exact z2, z3⟩ (by omega)
      refine ⟨fun z3 => ⟨⟨by omega, by omega⟩, nx g ?_ g2.2 g3⟩, fun z3 => ⟨⟨by omega, by omega⟩, ⟨by omega, by omega⟩, ⟨by omega, by omega⟩, nx _ ?_ (At_uZ (Or.inl (by omega)) g2.2) (fun j hj => ?_)⟩⟩
      · rw [List.map_append]
        have : rnV v w c = c := if_neg z3
        exact At_app.mpr ⟨g1, by rw [el]; exact ⟨by rw [this]; exact ec, trivial⟩⟩
      · rw [List.map_append]
        have : rnV v w c = 20 + w := if_pos z3
        exact At_app.mpr ⟨At_uZ (Or.inr (by rw [el]; omega)) g1, by rw [el]; exact ⟨by rw [this]; exact if_pos rfl, trivial⟩⟩
      · rw [show uZ g (p + e1.length) (20 + w) j = g j from if_neg (by omega)]
        exact g3 j hj
end CP
