-- ===== Flow.number, the whole row
theorem ng_add {a b : Nat} : ng (a + b) = ng a ++ ng b := (List.replicate_append_replicate ..).symm
def AtN (σ : Sg) (qi : Nat) (i : Int) (N : List N6) : Prop := At (σ.2.1 (qi + 1)) i (N.map (·.1)) ∧ At (σ.2.1 (qi + 2)) i (N.map (·.2.1)) ∧ At (σ.2.1 (qi + 3)) i (N.map (·.2.2.1)) ∧ At (σ.2.1 (qi + 4)) i (N.map (·.2.2.2.1)) ∧ At (σ.2.1 (qi + 7)) i (N.map (·.2.2.2.2.1)) ∧ At (σ.2.1 (qi + 8)) i (N.map (·.2.2.2.2.2)) ∧ At (σ.2.1 (qi + 5)) i (ng N.length) ∧ At (σ.2.1 (qi + 6)) i (ng N.length)
theorem AtN.app {σ : Sg} {qi : Nat} {i : Int} {N M : List N6} (h : AtN σ qi i N) (g : AtN σ qi (i + N.length) M) : AtN σ qi i (N ++ M) := by
  obtain ⟨h1, h2, h3, h4, h5, h6, h7, h8⟩ := h
  obtain ⟨g1, g2, g3, g4, g5, g6, g7, g8⟩ := g
  unfold AtN
  simp only [List.map_append, List.length_append, ng_add]
  exact ⟨At_app.mpr ⟨h1, by rw [List.length_map]; exact g1⟩, At_app.mpr ⟨h2, by rw [List.length_map]; exact g2⟩, At_app.mpr ⟨h3, by rw [List.length_map]; exact g3⟩, At_app.mpr ⟨h4, by rw [List.length_map]; exact g4⟩, At_app.mpr ⟨h5, by rw [List.length_map]; exact g5⟩, At_app.mpr ⟨h6, by rw [List.length_map]; exact g6⟩, At_app.mpr ⟨h7, by rw [ng_len]; exact g7⟩, At_app.mpr ⟨h8, by rw [ng_len]; exact g8⟩⟩
theorem AtN.fr {σ σ' : Sg} {qi : Nat} {i : Int} {N : List N6} (h : AtN σ qi i N) (f : ∀ k j, 1 ≤ k → k ≤ 8 → j < i + N.length → σ'.2.1 (qi + k) j = σ.2.1 (qi + k) j) : AtN σ' qi i N := by
  obtain ⟨h1, h2, h3, h4, h5, h6, h7, h8⟩ := h
  refine ⟨At_same (fun j j0 j1 => f 1 j (by decide) (by decide) (by rw [List.length_map] at j1; exact j1)) h1, At_same (fun j j0 j1 => f 2 j (by decide) (by decide) (by rw [List.length_map] at j1; exact j1)) h2, At_same (fun j j0 j1 => f 3 j (by decide) (by decide) (by rw [List.length_map] at j1; exact j1)) h3, At_same (fun j j0 j1 => f 4 j (by decide) (by decide) (by rw [List.length_map] at j1; exact j1)) h4, At_same (fun j j0 j1 => f 7 j (by decide) (by decide) (by rw [List.length_map] at j1; exact j1)) h5, At_same (fun j j0 j1 => f 8 j (by decide) (by decide) (by rw [List.length_map] at j1; exact j1)) h6, At_same (fun j j0 j1 => f 5 j (by decide) (by decide) (by rw [ng_len] at j1; exact j1)) h7, At_same (fun j j0 j1 => f 6 j (by decide) (by decide) (by rw [ng_len] at j1; exact j1)) h8⟩
/-- what a piece of the row does: its statements, its owners -/
def Gn (qi : Nat) (σ σ' : Sg) (p i d : Int) (N : List N6) (w : List Int) : Prop :=
  σ'.1 qi 1 = i + N.length ∧ σ'.1 qi 0 = σ.1 qi 0 ∧ AtN σ' qi i N ∧ At (σ'.2.1 (qi + 12)) p w ∧ (∀ k j, 1 ≤ k → k ≤ 8 → j < i → σ'.2.1 (qi + k) j = σ.2.1 (qi + k) j) ∧ (∀ j, j < d → σ'.2.1 (qi + 11) j = σ.2.1 (qi + 11) j) ∧ (∀ j, j < p → σ'.2.1 (qi + 12) j = σ.2.1 (qi + 12) j) ∧ Fq (fl qi) No No σ σ'
theorem Gn.app {qi : Nat} {σ σ1 σ2 : Sg} {p i d d' : Int} {N M : List N6} {w x : List Int} (h : Gn qi σ σ1 p i d N w) (g : Gn qi σ1 σ2 (p + w.length) (i + N.length) d' M x) (hd : d ≤ d') : Gn qi σ σ2 p i d (N ++ M) (w ++ x) := by
  obtain ⟨h1, h2, h3, h4, h5, h6, h7, h8⟩ := h
  obtain ⟨g1, g2, g3, g4, g5, g6, g7, g8⟩ := g
  refine ⟨by rw [g1, List.length_append]; omega, g2.trans h2, (h3.fr (fun k j k1 k2 hj => g5 k j k1 k2 hj)).app g3, At_app.mpr ⟨At_same (fun j j0 j1 => g7 j j1) h4, g4⟩, fun k j k1 k2 hj => (g5 k j k1 k2 (by omega)).trans (h5 k j k1 k2 hj), fun j hj => (g6 j (by omega)).trans (h6 j hj), fun j hj => (g7 j (by omega)).trans (h7 j hj), h8.trans g8⟩
section NC
variable {σ : Sg} {qi : Nat} {K : Sg → Prop} {L : Int → Int → Sg → Prop} {d p i c : Int} {a b e : List Int}
def BgS (qi : Nat) (i p c st fr : Int) (σ σ' : Sg) : Prop :=
  σ'.1 qi 1 = i + 1 ∧ σ'.1 qi 0 = σ.1 qi 0 ∧ σ'.2.1 (qi + 1) = uZ (σ.2.1 (qi + 1)) i p ∧ σ'.2.1 (qi + 2) = uZ (σ.2.1 (qi + 2)) i c ∧ σ'.2.1 (qi + 3) = uZ (σ.2.1 (qi + 3)) i fr ∧ σ'.2.1 (qi + 4) = uZ (σ.2.1 (qi + 4)) i fr ∧ σ'.2.1 (qi + 5) = uZ (σ.2.1 (qi + 5)) i (-1) ∧ σ'.2.1 (qi + 6) = uZ (σ.2.1 (qi + 6)) i (-1) ∧ σ'.2.1 (qi + 7) = uZ (σ.2.1 (qi + 7)) i 0 ∧ σ'.2.1 (qi + 8) = uZ (σ.2.1 (qi + 8)) i st ∧ (∀ k, 9 ≤ k → k ≤ 12 → σ'.2.1 (qi + k) = σ.2.1 (qi + k)) ∧ Fq (fl qi) No No σ σ'
theorem begin80_k {st fr : Int} (hi : σ.1 qi 1 = i) (i0 : 0 ≤ i ∧ i < 40) (k : ∀ σ', BgS qi i p c st fr σ σ' → K σ') : wp5_F_begin_80 K σ qi p c st fr := by
  unfold wp5_F_begin_80
  rw [hi]
  refine ⟨rng_small (by omega) (by omega), k _ ⟨?_, ?_, ?_, ?_, ?_, ?_, ?_, ?_, ?_, ?_, fun x x1 x2 => ?_, ?_⟩⟩
  · rw [pU_get, if_pos ⟨rfl, rfl⟩]
  · rw [pU_get, if_neg (by omega)]; rfl
  · simp [pU_2, pF_get]
  · simp [pU_2, pF_get]
  · simp [pU_2, pF_get]
  · simp only [pU_2, pF_get]
    rw [show uZ (σ.2.1 (qi + 3)) i fr i = fr from if_pos rfl]
    simp
  · simp [pU_2, pF_get]
  · simp [pU_2, pF_get]
  · simp [pU_2, pF_get]
  · simp [pU_2, pF_get]
  · rw [pU_2]
    iterate 8 rw [pF_get, if_neg (by omega)]
  · exact ((((((((fqF (k := 1) (by decide)).trans (fqF (k := 2) (by decide))).trans (fqF (k := 8) (by decide))).trans (fqF (k := 3) (by decide))).trans (fqF (k := 4) (by decide))).trans (fqF (k := 7) (by decide))).trans (fqF (k := 5) (by decide))).trans (fqF (k := 6) (by decide))).trans fqU
theorem begin_k (hi : σ.1 qi 1 = i) (i0 : 0 ≤ i ∧ i < 40) (hp : 0 ≤ p ∧ p ≤ 480) (k : ∀ σ', BgS qi i p c (stC c) (if c = 112 ∨ c = 115 then p + 2 else p + 1) σ σ' → K σ') : wp5_F_begin σ qi p c K := by
  have h55 : wp5_F_begin_55 K σ qi p c (stC c) := by
    refine isBranch_k (fun z => t1 ⟨rng_small (by omega) (by omega), begin80_k hi i0 (fun σ' q => k σ' ?_)⟩) (fun z1 z2 => t0 ⟨rng_small (by omega) (by omega), begin80_k hi i0 (fun σ' q => k σ' ?_)⟩)
    · rw [if_pos z]; exact q
    · rw [if_neg (fun q => q.elim z1 z2)]; exact q
  refine ⟨fun _ => ⟨by omega, isSet_k (fun z => t1 ?_) (fun z => t0 ?_)⟩, fun z => absurd z (by omega)⟩
  · unfold stC at h55; rw [if_pos z] at h55; exact h55
  · unfold stC at h55; rw [if_neg z] at h55; exact h55
/-- the first cell of a statement -/
def HdS (qi : Nat) (i p d c fr : Int) (σ σ' : Sg) : Prop :=
  Gn qi σ σ' p i d [(p, c, fr, fr, 0, stC c)] [i] ∧ ((c = 112 ∨ c = 115) → σ'.2.1 (qi + 11) d = i)
theorem hd_of {σ σ1 σ' : Sg} {fr : Int} (h : BgS qi i p c (stC c) fr σ1 σ') (e0 : σ1.1 = σ.1) (e1 : ∀ k, 1 ≤ k → k ≤ 10 → σ1.2.1 (qi + k) = σ.2.1 (qi + k)) (e2 : ∀ j, j < d → σ1.2.1 (qi + 11) j = σ.2.1 (qi + 11) j) (e3 : σ1.2.1 (qi + 12) p = i) (e4 : ∀ j, j < p → σ1.2.1 (qi + 12) j = σ.2.1 (qi + 12) j) (e5 : Fq (fl qi) No No σ σ1) (e6 : (c = 112 ∨ c = 115) → σ1.2.1 (qi + 11) d = i) : HdS qi i p d c fr σ σ' := by
  obtain ⟨b1, b2, b3, b4, b5, b6, b7, b8, b9, b10, b11, b12⟩ := h
  have up : ∀ {f : Int → Int} {v : Int}, uZ f i v i = v := fun {f v} => if_pos rfl
  refine ⟨⟨b1, by rw [b2, e0], ⟨⟨by rw [b3]; exact up, trivial⟩, ⟨by rw [b4]; exact up, trivial⟩, ⟨by rw [b5]; exact up, trivial⟩, ⟨by rw [b6]; exact up, trivial⟩, ⟨by rw [b9]; exact up, trivial⟩, ⟨by rw [b10]; exact up, trivial⟩, ⟨by rw [b7]; exact up, trivial⟩, ⟨by rw [b8]; exact up, trivial⟩⟩, ⟨by rw [b11 12 (by decide) (by decide)]; exact e3, trivial⟩, fun k j k1 k2 hj => ?_, fun j hj => by rw [b11 11 (by decide) (by decide)]; exact e2 j hj, fun j hj => by rw [b11 12 (by decide) (by decide)]; exact e4 j hj, e5.trans b12⟩, fun z => by rw [b11 11 (by decide) (by decide)]; exact e6 z⟩
  have un : ∀ {f : Int → Int} {v : Int}, uZ f i v j = f j := fun {f v} => if_neg (by omega)
  obtain rfl | rfl | rfl | rfl | rfl | rfl | rfl | rfl : k = 1 ∨ k = 2 ∨ k = 3 ∨ k = 4 ∨ k = 5 ∨ k = 6 ∨ k = 7 ∨ k = 8 := by omega
  · rw [b3, e1 1 (by decide) (by decide)]; exact un
  · rw [b4, e1 2 (by decide) (by decide)]; exact un
  · rw [b5, e1 3 (by decide) (by decide)]; exact un
  · rw [b6, e1 4 (by decide) (by decide)]; exact un
  · rw [b7, e1 5 (by decide) (by decide)]; exact un
  · rw [b8, e1 6 (by decide) (by decide)]; exact un
  · rw [b9, e1 7 (by decide) (by decide)]; exact un
  · rw [b10, e1 8 (by decide) (by decide)]; exact un
theorem tk_head (hL : ∀ d p s, wp5_F_number_9 K qi L d p s → L d p s) (h : RowL σ (σ.1 qi 0) (a ++ c :: b)) (hb : (a ++ c :: b).length ≤ 480) (hp : p = a.length) (hc : isS c = true) (hi : σ.1 qi 1 = i) (i0 : 0 ≤ i ∧ i < 40) (d0 : 0 ≤ d ∧ d < 40) (k : ∀ σ', HdS qi i p d c (if c = 112 ∨ c = 115 then p + 2 else p + 1) σ σ' → L (if c = 112 ∨ c = 115 then d + 1 else d) (p + 1) σ') : L d p σ := by
  have hr := h.1
  have hn := h.2.2.1
  simp only [List.length_append, List.length_cons] at hb hn
  have up : ∀ {f : Int → Int} {q v : Int}, uZ f q v q = v := fun {f q v} => if_pos rfl
  refine hL _ _ _ ⟨hr, fun z => absurd z (by omega), fun _ => ⟨fun z => absurd z (by omega), fun _ => cell_mid h hp ⟨⟨by omega, by omega⟩, isStatement_k (fun _ => t1 ⟨fun z => absurd z (by omega), fun _ => isBranch_k (fun z => t1 ⟨fun z => absurd z (by omega), fun _ => ⟨d0, rng_small (by omega) (by omega), ?_⟩⟩) (fun z1 z2 => t0 ?_)⟩) (fun z => by rw [hc] at z; cases z)⟩⟩⟩
  · rw [if_pos z] at k
    refine begin_k (i := i) hi i0 (by omega) (fun σ' q => ⟨rng_small (by omega) (by omega), ?_⟩)
    rw [if_pos z] at q k
    refine k σ' (hd_of q rfl (fun x x1 x2 => ?_) (fun j hj => ?_) ?_ (fun j hj => ?_) (((fqF (k := 12) (by decide)).trans (fqF (k := 12) (by decide))).trans (fqF (k := 11) (by decide))) (fun _ => ?_))
    · rw [pF_get, if_neg (by omega), pF_get, if_neg (by omega), pF_get, if_neg (by omega)]
    · rw [pF_get, if_pos rfl]; exact if_neg (by omega)
    · rw [pF_get, if_neg (by omega), pF_get, if_pos rfl, up]; exact hi
    · rw [pF_get, if_neg (by omega), pF_get, if_pos rfl]
      exact (if_neg (by omega)).trans (if_neg (by omega))
    · rw [pF_get, if_pos rfl, up]; exact hi
  · have zn : ¬ (c = 112 ∨ c = 115) := fun q => q.elim z1 z2
    rw [if_neg zn] at k
    refine begin_k (i := i) hi i0 (by omega) (fun σ' q => ⟨rng_small (by omega) (by omega), ?_⟩)
    rw [if_neg zn] at q k
    refine k σ' (hd_of q rfl (fun x x1 x2 => ?_) (fun j hj => ?_) ?_ (fun j hj => ?_) ((fqF (k := 12) (by decide)).trans (fqF (k := 12) (by decide))) (fun z => absurd z zn))
    · rw [pF_get, if_neg (by omega), pF_get, if_neg (by omega)]
    · rw [pF_get, if_neg (by omega), pF_get, if_neg (by omega)]
    · rw [pF_get, if_pos rfl, up]; exact hi
    · rw [pF_get, if_pos rfl]
      exact (if_neg (by omega)).trans (if_neg (by omega))
theorem gn0 {σ1 : Sg} {v : Int} {w : Int} (hi : σ.1 qi 1 = i) (e0 : σ1.1 = σ.1) (e1 : ∀ k, 1 ≤ k → k ≤ 11 → σ1.2.1 (qi + k) = σ.2.1 (qi + k)) (e3 : σ1.2.1 (qi + 12) p = w) (e4 : ∀ j, j < p → σ1.2.1 (qi + 12) j = σ.2.1 (qi + 12) j) (e5 : Fq (fl qi) No No σ σ1) : Gn qi σ σ1 p i d [] [w] :=
  ⟨by rw [e0, hi]; simp, by rw [e0], ⟨trivial, trivial, trivial, trivial, trivial, trivial, trivial, trivial⟩, ⟨e3, trivial⟩, fun k j k1 k2 _ => by rw [e1 k k1 (by omega)], fun j _ => by rw [e1 11 (by decide) (by decide)], e4, e5⟩
theorem tk_skip (hL : ∀ d p s, wp5_F_number_9 K qi L d p s → L d p s) (h : RowL σ (σ.1 qi 0) (a ++ c :: b)) (hb : (a ++ c :: b).length ≤ 480) (hp : p = a.length) (hc : testC c) (hi : σ.1 qi 1 = i) (k : ∀ σ', σ'.1 = σ.1 → (∀ k, 1 ≤ k → k ≤ 11 → σ'.2.1 (qi + k) = σ.2.1 (qi + k)) → σ'.2.1 (qi + 12) p = -1 → (∀ j, j < p → σ'.2.1 (qi + 12) j = σ.2.1 (qi + 12) j) → Fq (fl qi) No No σ σ' → L d (p + 1) σ') : L d p σ := by
  have hr := h.1
  have hn := h.2.2.1
  unfold testC at hc
  simp only [List.length_append, List.length_cons] at hb hn
  refine hL _ _ _ ⟨hr, fun z => absurd z (by omega), fun _ => ⟨fun z => absurd z (by omega), fun _ => cell_mid h hp ⟨⟨by omega, by omega⟩, isStatement_k (fun z => absurd (isS_t.mp z) (by omega)) (fun _ => t0 ⟨fun _ => ⟨fun _ => isExpression_k (fun z => absurd (isP_t.mp z) (by omega)) (fun _ => t0 ⟨rng_small (by omega) (by omega), k _ rfl (fun x x1 x2 => ?_) ?_ (fun j hj => ?_) (fqF (by decide))⟩), fun z => absurd z (by omega)⟩, fun z => absurd z (by omega)⟩)⟩⟩⟩
  · rw [pF_get, if_neg (by omega)]
  · rw [pF_get, if_pos rfl]; exact if_pos rfl
  · rw [pF_get, if_pos rfl]; exact if_neg (by omega)
theorem tk_end {w : Int} (hL : ∀ d p s, wp5_F_number_9 K qi L d p s → L d p s) (h : RowL σ (σ.1 qi 0) (a ++ c :: b)) (hb : (a ++ c :: b).length ≤ 480) (hp : p = a.length) (hc : c = 113 ∨ c = 114) (hi : σ.1 qi 1 = i) (d0 : 0 < d ∧ d ≤ 40) (ho : σ.2.1 (qi + 11) (d - 1) = w) (k : ∀ σ', Gn qi σ σ' p i d [] [w] → (∀ k, 1 ≤ k → k ≤ 11 → σ'.2.1 (qi + k) = σ.2.1 (qi + k)) → L (if c = 113 then d else d - 1) (p + 1) σ') : L d p σ := by
  have hr := h.1
  have hn := h.2.2.1
  simp only [List.length_append, List.length_cons] at hb hn
  have key : Gn qi σ (pF (pF σ (qi + 12) (uZ (σ.2.1 (qi + 12)) p (-1))) (qi + 12) (uZ (uZ (σ.2.1 (qi + 12)) p (-1)) p (σ.2.1 (qi + 11) (d - 1)))) p i d [] [w] := by
    refine gn0 (v := 0) hi rfl (fun x x1 x2 => ?_) ?_ (fun j hj => ?_) ((fqF (k := 12) (by decide)).trans (fqF (k := 12) (by decide)))
    · rw [pF_get, if_neg (by omega), pF_get, if_neg (by omega)]
    · rw [pF_get, if_pos rfl]; exact (if_pos rfl).trans ho
    · rw [pF_get, if_pos rfl]; exact (if_neg (by omega)).trans (if_neg (by omega))
  have sm : ∀ x, 1 ≤ x → x ≤ 11 → (pF (pF σ (qi + 12) (uZ (σ.2.1 (qi + 12)) p (-1))) (qi + 12) (uZ (uZ (σ.2.1 (qi + 12)) p (-1)) p (σ.2.1 (qi + 11) (d - 1)))).2.1 (qi + x) = σ.2.1 (qi + x) := fun x x1 x2 => by rw [pF_get, if_neg (by omega), pF_get, if_neg (by omega)]
  have kk := k _ key sm
  refine hL _ _ _ ⟨hr, fun z => absurd z (by omega), fun _ => ⟨fun z => absurd z (by omega), fun _ => cell_mid h hp ⟨⟨by omega, by omega⟩, isStatement_k (fun z => absurd (isS_t.mp z) (by omega)) (fun _ => t0 ⟨fun z => ⟨fun z2 => absurd hc (by omega), fun z2 => ⟨fun z3 => absurd z3 (by omega), fun _ => ⟨by omega, rng_small (by omega) (by omega), rng_small (by omega) (by omega), ?_⟩⟩⟩, fun z => ⟨fun z3 => absurd z3 (by omega), fun _ => ⟨by omega, rng_small (by omega) (by omega), ?_⟩⟩⟩)⟩⟩⟩
  · rw [if_neg z] at kk; exact kk
  · rw [if_pos z] at kk; exact kk
end NC
