-- ===== Flow.link: what follows every statement
def nxt (l : List Int) (j nx : Int) : Int := if l = [] then nx else j
/-- yes and no of every statement -/
noncomputable def ynL (l : List Int) : Int → Int → List (Int × Int) := SqF (X := Int → Int → List (Int × Int)) (fun _ _ => []) (fun _ _ r y i nx => (nxt r (i + 1) nx, -1) :: y (i + 1) nx) (fun _ y i nx => (-1, -1) :: y (i + 1) nx)
  (fun _ _ _ B C r yB yC y i nx => ((nxt B (i + 1) (nxt r (i + 1 + cs B + cs C) nx), nxt C (i + 1 + cs B) (nxt r (i + 1 + cs B + cs C) nx)) :: (yB (i + 1) (nxt r (i + 1 + cs B + cs C) nx) ++ yC (i + 1 + cs B) (nxt r (i + 1 + cs B + cs C) nx))) ++ y (i + 1 + cs B + cs C) nx)
  (fun _ _ _ B r yB y i nx => ((nxt B (i + 1) i, nxt r (i + 1 + cs B) nx) :: yB (i + 1) i) ++ y (i + 1 + cs B) nx) l
section YL
variable {i nx : Int}
theorem ynL_nil : ynL [] i nx = [] := congrFun (congrFun (SqF_nil (X := Int → Int → List (Int × Int))) i) nx
theorem ynL_set {v : Int} {e r : List Int} (hv : setC v ∨ v = 110) (he : Ex lfR e) (hr : Sq r) : ynL ((v :: e) ++ r) i nx = (nxt r (i + 1) nx, -1) :: ynL r (i + 1) nx := congrFun (congrFun (SqF_set (X := Int → Int → List (Int × Int)) hv he hr) i) nx
theorem ynL_fail {r : List Int} (hr : Sq r) : ynL ([111] ++ r) i nx = (-1, -1) :: ynL r (i + 1) nx := congrFun (congrFun (SqF_fail (X := Int → Int → List (Int × Int)) hr) i) nx
theorem ynL_if {t : Int} {a b B C r : List Int} (ht : testC t) (ha : Ex lfR a) (hb : Ex lfR b) (hB : Sq B) (hC : Sq C) (hr : Sq r) : ynL ((112 :: t :: (a ++ (b ++ (B ++ (113 :: (C ++ [114])))))) ++ r) i nx = ((nxt B (i + 1) (nxt r (i + 1 + cs B + cs C) nx), nxt C (i + 1 + cs B) (nxt r (i + 1 + cs B + cs C) nx)) :: (ynL B (i + 1) (nxt r (i + 1 + cs B + cs C) nx) ++ ynL C (i + 1 + cs B) (nxt r (i + 1 + cs B + cs C) nx))) ++ ynL r (i + 1 + cs B + cs C) nx := congrFun (congrFun (SqF_if (X := Int → Int → List (Int × Int)) ht ha hb hB hC hr) i) nx
theorem ynL_wh {t : Int} {a b B r : List Int} (ht : testC t) (ha : Ex lfR a) (hb : Ex lfR b) (hB : Sq B) (hr : Sq r) : ynL ((115 :: t :: (a ++ (b ++ (B ++ [114])))) ++ r) i nx = ((nxt B (i + 1) i, nxt r (i + 1 + cs B) nx) :: ynL B (i + 1) i) ++ ynL r (i + 1 + cs B) nx := congrFun (congrFun (SqF_wh (X := Int → Int → List (Int × Int)) ht ha hb hB hr) i) nx
theorem ynL_len : ∀ {l : List Int}, Sq l → ∀ i nx, (ynL l i nx).length = cs l := by
  intro l hl
  refine Sq.ind (P := fun l => ∀ i nx, (ynL l i nx).length = cs l) ?_ ?_ hl
  · intro i nx; rw [ynL_nil]; rfl
  · intro s r hs hr ih p nx
    rcases hs with ⟨v, e, hv, he, rfl⟩ | rfl | ⟨t, a, b, B, C, ht, hA, hB, hb, hc, rfl⟩ | ⟨t, a, b, B, ht, hA, hB, hb, rfl⟩
    · rw [ynL_set hv he hr, List.length_cons, ih, cs_app, cs_yes (by unfold setC at hv; omega), he.csz]; omega
    · rw [ynL_fail hr, List.length_cons, ih, cs_app, cs_yes (by omega)]; show _ = 0 + 1 + _; omega
    · rw [ynL_if ht hA hB hb.1 hc.1 hr, List.length_append, List.length_cons, List.length_append, ih, hb.2, hc.2, cs_app, cs_if ht hA hB]
    · rw [ynL_wh ht hA hB hb.1 hr, List.length_append, List.length_cons, ih, hb.2, cs_app, cs_wh ht hA hB]
end YL
/-- what linking a piece changes -/
def Lr (qi : Nat) (σ σ' : Sg) (i : Int) (M : List (Int × Int)) : Prop :=
  At (σ'.2.1 (qi + 5)) i (M.map (·.1)) ∧ At (σ'.2.1 (qi + 6)) i (M.map (·.2)) ∧ (∀ k j, (k = 5 ∨ k = 6) → (j < i ∨ i + M.length ≤ j) → σ'.2.1 (qi + k) j = σ.2.1 (qi + k) j) ∧ (∀ j, j < i → σ'.2.1 (qi + 10) j = σ.2.1 (qi + 10) j) ∧ σ'.1 = σ.1 ∧ (∀ k, 1 ≤ k → k ≤ 12 → k ≠ 5 → k ≠ 6 → k ≠ 10 → σ'.2.1 (qi + k) = σ.2.1 (qi + k)) ∧ Fq (fl qi) No No σ σ'
theorem Lr.app {qi : Nat} {σ σ1 σ2 : Sg} {i : Int} {N M : List (Int × Int)} (g : Lr qi σ σ1 (i + N.length) M) (h : Lr qi σ1 σ2 i N) : Lr qi σ σ2 i (N ++ M) := by
  obtain ⟨h1, h2, h3, h4, h5, h6, h7⟩ := h
  obtain ⟨g1, g2, g3, g4, g5, g6, g7⟩ := g
  unfold Lr
  rw [List.map_append, List.map_append, List.length_append]
  refine ⟨At_app.mpr ⟨h1, ?_⟩, At_app.mpr ⟨h2, ?_⟩, fun k j hk hj => (h3 k j hk (by omega)).trans (g3 k j hk (by omega)), fun j hj => (h4 j hj).trans (g4 j (by omega)), h5.trans g5, fun k k0 k1 k2 k3 k4 => (h6 k k0 k1 k2 k3 k4).trans (g6 k k0 k1 k2 k3 k4), g7.trans h7⟩
  · rw [List.length_map]; exact At_same (fun j j0 j1 => h3 5 j (Or.inl rfl) (Or.inr j0)) g1
  · rw [List.length_map]; exact At_same (fun j j0 j1 => h3 6 j (Or.inr rfl) (Or.inr j0)) g2
section LK
variable {σ : Sg} {qi : Nat} {K : Sg → Prop} {L : Int → Int → Sg → Prop} {p i c nx : Int} {a b e : List Int}
theorem lk_neg (hL : ∀ d p s, wp5_F_link_20 K qi L d p s → L d p s) (p0 : 0 ≤ p ∧ p < 480) (ho : σ.2.1 (qi + 12) p = -1) (k : L nx (p - 1) σ) : L nx p σ := by
  refine hL _ _ _ ⟨fun z => absurd z (by omega), fun _ => ⟨p0, ?_⟩⟩
  rw [ho]
  exact isHere_k (fun z => absurd z.1 (by decide)) (fun _ => t0 ⟨rng_small (by omega) (by omega), k⟩)
theorem lk_negs (hL : ∀ d p s, wp5_F_link_20 K qi L d p s → L d p s) : ∀ (k : Nat) {p : Int}, 0 ≤ p → p + k ≤ 480 → At (σ.2.1 (qi + 12)) p (ng k) → L nx (p - 1) σ → L nx (p + k - 1) σ
  | 0, p, _, _, _, h => by rw [show p + ((0 : Nat) : Int) - 1 = p - 1 by omega]; exact h
  | k + 1, p, p0, p1, ha, h => by
    have e : ng (k + 1) = ng k ++ [-1] := by rw [show k + 1 = k + 1 from rfl, ng_add]; rfl
    rw [e] at ha
    obtain ⟨a1, a2⟩ := At_app.mp ha
    rw [ng_len] at a2
    refine lk_neg hL (by omega) (by rw [show p + ((k + 1 : Nat) : Int) - 1 = p + k by omega]; exact a2.1) ?_
    rw [show p + ((k + 1 : Nat) : Int) - 1 - 1 = p + k - 1 by omega]
    exact lk_negs hL k p0 (by omega) a1 h
theorem lk_at (hL : ∀ d p s, wp5_F_link_20 K qi L d p s → L d p s) (h : RowL σ (σ.1 qi 0) (a ++ c :: b)) (hb : (a ++ c :: b).length ≤ 480) (hp : p = a.length) (ho : σ.2.1 (qi + 12) p = i) (hi : 0 ≤ i ∧ i < σ.1 qi 1 ∧ i < 40) (k : wp5_F_linkAt σ qi c i nx (fun r s => rng (p - 1) ∧ L r (p - 1) s)) : L nx p σ := by
  simp only [List.length_append, List.length_cons] at hb
  refine hL _ _ _ ⟨fun z => absurd z (by omega), fun _ => ⟨by omega, ?_⟩⟩
  rw [ho]
  exact isHere_k (fun _ => t1 ⟨h.1, cell_mid h hp k⟩) (fun z => absurd hi z)
/-- the last cell of an if or while -/
theorem lk_close (hL : ∀ d p s, wp5_F_link_20 K qi L d p s → L d p s) (h : RowL σ (σ.1 qi 0) (a ++ 114 :: b)) (hb : (a ++ 114 :: b).length ≤ 480) (hp : p = a.length) (ho : σ.2.1 (qi + 12) p = i) (hi : 0 ≤ i ∧ i < σ.1 qi 1 ∧ i < 40) (hk : σ.2.1 (qi + 2) i = c) (k : L (if c = 115 then i else nx) (p - 1) (pF σ (qi + 10) (uZ (σ.2.1 (qi + 10)) i nx))) : L nx p σ := by
  have hr : rng (p - 1) := by
    simp only [List.length_append, List.length_cons] at hb
    exact rng_small (by omega) (by omega)
  refine lk_at hL h hb hp ho hi (isHere_k (fun _ => u1 ⟨fun z => absurd rfl z, fun _ => ⟨⟨hi.1, hi.2.2⟩, fun z => ⟨hr, ?_⟩, fun z => ⟨hr, ?_⟩⟩⟩) (fun z => absurd hi z))
  · rw [if_neg (by rw [← hk]; exact z)] at k; exact k
  · rw [if_pos (by rw [← hk]; exact z)] at k; exact k
theorem lk_else (hL : ∀ d p s, wp5_F_link_20 K qi L d p s → L d p s) (h : RowL σ (σ.1 qi 0) (a ++ 113 :: b)) (hb : (a ++ 113 :: b).length ≤ 480) (hp : p = a.length) (ho : σ.2.1 (qi + 12) p = i) (hi : 0 ≤ i ∧ i < σ.1 qi 1 ∧ i < 40) (k : L (σ.2.1 (qi + 10) i) (p - 1) (pF σ (qi + 6) (uZ (σ.2.1 (qi + 6)) i nx))) : L nx p σ := by
  have hr : rng (p - 1) := by
    simp only [List.length_append, List.length_cons] at hb
    exact rng_small (by omega) (by omega)
  exact lk_at hL h hb hp ho hi (isHere_k (fun _ => u1 ⟨fun _ => ⟨fun z => absurd rfl z, fun _ => ⟨⟨hi.1, hi.2.2⟩, hr, k⟩⟩, fun z => absurd z (by decide)⟩) (fun z => absurd hi z))
theorem lk_fail (hL : ∀ d p s, wp5_F_link_20 K qi L d p s → L d p s) (h : RowL σ (σ.1 qi 0) (a ++ 111 :: b)) (hb : (a ++ 111 :: b).length ≤ 480) (hp : p = a.length) (ho : σ.2.1 (qi + 12) p = i) (hi : 0 ≤ i ∧ i < σ.1 qi 1 ∧ i < 40) (k : L i (p - 1) σ) : L nx p σ := by
  have hr : rng (p - 1) := by
    simp only [List.length_append, List.length_cons] at hb
    exact rng_small (by omega) (by omega)
  exact lk_at hL h hb hp ho hi (isHere_k (fun _ => u1 ⟨fun _ => ⟨fun _ => ⟨fun _ => ⟨fun _ => ⟨hr, k⟩, fun z => absurd z (by decide)⟩, fun z => absurd rfl z⟩, fun z => absurd z (by decide)⟩, fun z => absurd z (by decide)⟩) (fun z => absurd hi z))
/-- another statement's first cell, no while -/
theorem lk_head (hL : ∀ d p s, wp5_F_link_20 K qi L d p s → L d p s) (h : RowL σ (σ.1 qi 0) (a ++ c :: b)) (hb : (a ++ c :: b).length ≤ 480) (hp : p = a.length) (ho : σ.2.1 (qi + 12) p = i) (hi : 0 ≤ i ∧ i < σ.1 qi 1 ∧ i < 40) (hc : c ≠ 114 ∧ c ≠ 113 ∧ c ≠ 111 ∧ c ≠ 115) (k : L i (p - 1) (pF σ (qi + 5) (uZ (σ.2.1 (qi + 5)) i nx))) : L nx p σ := by
  have hr : rng (p - 1) := by
    simp only [List.length_append, List.length_cons] at hb
    exact rng_small (by omega) (by omega)
  exact lk_at hL h hb hp ho hi (isHere_k (fun _ => u1 ⟨fun _ => ⟨fun _ => ⟨fun z => absurd z hc.2.2.1, fun _ => ⟨⟨hi.1, hi.2.2⟩, fun _ => ⟨hr, k⟩, fun z => absurd z hc.2.2.2⟩⟩, fun z => absurd z hc.2.1⟩, fun z => absurd z hc.1⟩) (fun z => absurd hi z))
theorem lk_while (hL : ∀ d p s, wp5_F_link_20 K qi L d p s → L d p s) (h : RowL σ (σ.1 qi 0) (a ++ 115 :: b)) (hb : (a ++ 115 :: b).length ≤ 480) (hp : p = a.length) (ho : σ.2.1 (qi + 12) p = i) (hi : 0 ≤ i ∧ i < σ.1 qi 1 ∧ i < 40) (k : L i (p - 1) (pF (pF σ (qi + 5) (uZ (σ.2.1 (qi + 5)) i nx)) (qi + 6) (uZ (σ.2.1 (qi + 6)) i (σ.2.1 (qi + 10) i)))) : L nx p σ := by
  have hr : rng (p - 1) := by
    simp only [List.length_append, List.length_cons] at hb
    exact rng_small (by omega) (by omega)
  refine lk_at hL h hb hp ho hi (isHere_k (fun _ => u1 ⟨fun _ => ⟨fun _ => ⟨fun z => absurd z (by decide), fun _ => ⟨⟨hi.1, hi.2.2⟩, fun z => absurd rfl z, fun _ => ⟨⟨hi.1, hi.2.2⟩, hr, ?_⟩⟩⟩, fun z => absurd z (by decide)⟩, fun z => absurd z (by decide)⟩) (fun z => absurd hi z))
  have e1 : (pF σ (qi + 5) (uZ (σ.2.1 (qi + 5)) i nx)).2.1 (qi + 6) = σ.2.1 (qi + 6) := by rw [pF_get, if_neg (by omega)]
  have e2 : (pF σ (qi + 5) (uZ (σ.2.1 (qi + 5)) i nx)).2.1 (qi + 10) = σ.2.1 (qi + 10) := by rw [pF_get, if_neg (by omega)]
  rw [e1, e2]
  exact k
end LK
