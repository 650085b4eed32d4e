-- ===== the class's loop over TOKENS as steps
def CS (_K : Int → Sg → Prop) (i : Int) (σ : Sg) (i' : Int) (σ' : Sg) : Prop := ∀ (K L : Int → Sg → Prop), (∀ n s, wp5_R_readAll_2 K L n s → L n s) → L i' σ' → L i σ
theorem CS.refl {K : Int → Sg → Prop} {i : Int} {σ : Sg} : CS K i σ i σ := fun _ _ _ h => h
theorem CS.trans {K : Int → Sg → Prop} {i i' i'' : Int} {σ σ' σ'' : Sg} (h : CS K i σ i' σ') (h' : CS K i' σ' i'' σ'') : CS K i σ i'' σ'' := fun K2 L hL z => h K2 L hL (h' K2 L hL z)
/-- what the loop's head needs: no fault, a TOKEN may come, and it is the one named -/
def Hd (ru : Int) (t : Int → Int) (len : Int) (σ : Sg) (i k v pl nx : Int) : Prop :=
  (σ.1 2 1 = 0 ∧ σ.1 3 2 ≠ 1) ∧ (σ.2.1 4 = t ∧ σ.1 3 1 = len ∧ len ≤ 800 ∧ ∀ j, 0 ≤ j → j < 800 → 0 ≤ t j ∧ t j ≤ 255) ∧ (0 ≤ i ∧ i ≤ σ.1 3 5 ∧ σ.1 3 5 ≤ len) ∧ (σ.1 2 4 < 12 ∧ ((ru = 0 ∧ σ.1 2 4 < 0) ∨ (ru = 1 ∧ 0 ≤ σ.1 2 4))) ∧ Tk t len ru (σ.1 3 3) (σ.1 3 5) k v pl nx
theorem CS_0 {K : Int → Sg → Prop} {ru len i k v pl nx : Int} {t : Int → Int} {σ σ' : Sg} (H : Hd ru t len σ i k v pl nx) (hs : σ.1 2 5 = 0) (ev : ∀ P : Sg → Prop, P σ' → wp5_R_takeStatement (tpS σ k v pl nx) P) : CS K i σ (i + 1) σ' := by
  obtain ⟨⟨hf, hk⟩, ⟨e1, e2, h8, hb⟩, ⟨h0, h1, h2⟩, ⟨hr, hru⟩, hT⟩ := H
  intro K2 L hL h
  have main : wp5_R_readAll_43 i σ L ru := by
    unfold wp5_R_readAll_43
    subst e1; subst e2
    refine advance_at (by omega) h2 h8 hb hT ?_
    have e : (tpS σ k v pl nx).1 2 5 = 0 := hs
    rw [e]
    exact ⟨fun z => absurd z (by decide), fun z => absurd z (by decide), fun z => absurd z (by decide), fun z => absurd z (by decide), fun z => absurd z (by decide), fun z => absurd z (by decide), fun _ => ev _ ⟨⟨by omega, by omega⟩, h⟩⟩
  refine hL _ _ ?_
  unfold wp5_R_readAll_2
  refine ⟨fun z => absurd z (by omega), fun _ => ⟨fun z => absurd hf z, fun _ => ⟨fun z => absurd z hk, fun _ => ⟨fun z => ?_, fun z => ?_⟩⟩⟩⟩
  · obtain rfl : ru = 0 := by omega
    exact main
  · obtain rfl : ru = 1 := by omega
    exact ⟨⟨z, hr⟩, main⟩
theorem CS_1 {K : Int → Sg → Prop} {ru len i k v pl nx : Int} {t : Int → Int} {σ σ' : Sg} (H : Hd ru t len σ i k v pl nx) (hs : σ.1 2 5 = 1) (ev : ∀ P : Sg → Prop, P σ' → wp5_R_takeBehindThen (tpS σ k v pl nx) P) : CS K i σ (i + 1) σ' := by
  obtain ⟨⟨hf, hk⟩, ⟨e1, e2, h8, hb⟩, ⟨h0, h1, h2⟩, ⟨hr, hru⟩, hT⟩ := H
  intro K2 L hL h
  have main : wp5_R_readAll_43 i σ L ru := by
    unfold wp5_R_readAll_43
    subst e1; subst e2
    refine advance_at (by omega) h2 h8 hb hT ?_
    have e : (tpS σ k v pl nx).1 2 5 = 1 := hs
    rw [e]
    exact ⟨fun _ => ev _ ⟨⟨by omega, by omega⟩, h⟩, fun z => absurd z (by decide), fun z => absurd z (by decide), fun z => absurd z (by decide), fun z => absurd z (by decide), fun z => absurd z (by decide), fun z => absurd z (by decide)⟩
  refine hL _ _ ?_
  unfold wp5_R_readAll_2
  refine ⟨fun z => absurd z (by omega), fun _ => ⟨fun z => absurd hf z, fun _ => ⟨fun z => absurd z hk, fun _ => ⟨fun z => ?_, fun z => ?_⟩⟩⟩⟩
  · obtain rfl : ru = 0 := by omega
    exact main
  · obtain rfl : ru = 1 := by omega
    exact ⟨⟨z, hr⟩, main⟩
theorem CS_2 {K : Int → Sg → Prop} {ru len i k v pl nx : Int} {t : Int → Int} {σ σ' : Sg} (H : Hd ru t len σ i k v pl nx) (hs : σ.1 2 5 = 2) (ev : ∀ P : Sg → Prop, P σ' → wp5_R_takeElseBrace (tpS σ k v pl nx) P) : CS K i σ (i + 1) σ' := by
  obtain ⟨⟨hf, hk⟩, ⟨e1, e2, h8, hb⟩, ⟨h0, h1, h2⟩, ⟨hr, hru⟩, hT⟩ := H
  intro K2 L hL h
  have main : wp5_R_readAll_43 i σ L ru := by
    unfold wp5_R_readAll_43
    subst e1; subst e2
    refine advance_at (by omega) h2 h8 hb hT ?_
    have e : (tpS σ k v pl nx).1 2 5 = 2 := hs
    rw [e]
    exact ⟨fun z => absurd z (by decide), fun _ => ev _ ⟨⟨by omega, by omega⟩, h⟩, fun z => absurd z (by decide), fun z => absurd z (by decide), fun z => absurd z (by decide), fun z => absurd z (by decide), fun z => absurd z (by decide)⟩
  refine hL _ _ ?_
  unfold wp5_R_readAll_2
  refine ⟨fun z => absurd z (by omega), fun _ => ⟨fun z => absurd hf z, fun _ => ⟨fun z => absurd z hk, fun _ => ⟨fun z => ?_, fun z => ?_⟩⟩⟩⟩
  · obtain rfl : ru = 0 := by omega
    exact main
  · obtain rfl : ru = 1 := by omega
    exact ⟨⟨z, hr⟩, main⟩
theorem CS_3 {K : Int → Sg → Prop} {ru len i k v pl nx : Int} {t : Int → Int} {σ σ' : Sg} (H : Hd ru t len σ i k v pl nx) (hs : σ.1 2 5 = 3) (ev : ∀ P : Sg → Prop, P σ' → wp5_R_takeSetSign (tpS σ k v pl nx) P) : CS K i σ (i + 1) σ' := by
  obtain ⟨⟨hf, hk⟩, ⟨e1, e2, h8, hb⟩, ⟨h0, h1, h2⟩, ⟨hr, hru⟩, hT⟩ := H
  intro K2 L hL h
  have main : wp5_R_readAll_43 i σ L ru := by
    unfold wp5_R_readAll_43
    subst e1; subst e2
    refine advance_at (by omega) h2 h8 hb hT ?_
    have e : (tpS σ k v pl nx).1 2 5 = 3 := hs
    rw [e]
    exact ⟨fun z => absurd z (by decide), fun z => absurd z (by decide), fun _ => ev _ ⟨⟨by omega, by omega⟩, h⟩, fun z => absurd z (by decide), fun z => absurd z (by decide), fun z => absurd z (by decide), fun z => absurd z (by decide)⟩
  refine hL _ _ ?_
  unfold wp5_R_readAll_2
  refine ⟨fun z => absurd z (by omega), fun _ => ⟨fun z => absurd hf z, fun _ => ⟨fun z => absurd z hk, fun _ => ⟨fun z => ?_, fun z => ?_⟩⟩⟩⟩
  · obtain rfl : ru = 0 := by omega
    exact main
  · obtain rfl : ru = 1 := by omega
    exact ⟨⟨z, hr⟩, main⟩
theorem CS_4 {K : Int → Sg → Prop} {ru len i k v pl nx : Int} {t : Int → Int} {σ σ' : Sg} (H : Hd ru t len σ i k v pl nx) (hs : σ.1 2 5 = 4) (ev : ∀ P : Sg → Prop, P σ' → wp5_R_takeSemicolon (tpS σ k v pl nx) P) : CS K i σ (i + 1) σ' := by
  obtain ⟨⟨hf, hk⟩, ⟨e1, e2, h8, hb⟩, ⟨h0, h1, h2⟩, ⟨hr, hru⟩, hT⟩ := H
  intro K2 L hL h
  have main : wp5_R_readAll_43 i σ L ru := by
    unfold wp5_R_readAll_43
    subst e1; subst e2
    refine advance_at (by omega) h2 h8 hb hT ?_
    have e : (tpS σ k v pl nx).1 2 5 = 4 := hs
    rw [e]
    exact ⟨fun z => absurd z (by decide), fun z => absurd z (by decide), fun z => absurd z (by decide), fun _ => ev _ ⟨⟨by omega, by omega⟩, h⟩, fun z => absurd z (by decide), fun z => absurd z (by decide), fun z => absurd z (by decide)⟩
  refine hL _ _ ?_
  unfold wp5_R_readAll_2
  refine ⟨fun z => absurd z (by omega), fun _ => ⟨fun z => absurd hf z, fun _ => ⟨fun z => absurd z hk, fun _ => ⟨fun z => ?_, fun z => ?_⟩⟩⟩⟩
  · obtain rfl : ru = 0 := by omega
    exact main
  · obtain rfl : ru = 1 := by omega
    exact ⟨⟨z, hr⟩, main⟩
theorem CS_5 {K : Int → Sg → Prop} {ru len i k v pl nx : Int} {t : Int → Int} {σ σ' : Sg} (H : Hd ru t len σ i k v pl nx) (hs : σ.1 2 5 = 5) (ev : ∀ P : Sg → Prop, P σ' → wp5_R_takeOperand (tpS σ k v pl nx) P) : CS K i σ (i + 1) σ' := by
  obtain ⟨⟨hf, hk⟩, ⟨e1, e2, h8, hb⟩, ⟨h0, h1, h2⟩, ⟨hr, hru⟩, hT⟩ := H
  intro K2 L hL h
  have main : wp5_R_readAll_43 i σ L ru := by
    unfold wp5_R_readAll_43
    subst e1; subst e2
    refine advance_at (by omega) h2 h8 hb hT ?_
    have e : (tpS σ k v pl nx).1 2 5 = 5 := hs
    rw [e]
    exact ⟨fun z => absurd z (by decide), fun z => absurd z (by decide), fun z => absurd z (by decide), fun z => absurd z (by decide), fun _ => ev _ ⟨⟨by omega, by omega⟩, h⟩, fun z => absurd z (by decide), fun z => absurd z (by decide)⟩
  refine hL _ _ ?_
  unfold wp5_R_readAll_2
  refine ⟨fun z => absurd z (by omega), fun _ => ⟨fun z => absurd hf z, fun _ => ⟨fun z => absurd z hk, fun _ => ⟨fun z => ?_, fun z => ?_⟩⟩⟩⟩
  · obtain rfl : ru = 0 := by omega
    exact main
  · obtain rfl : ru = 1 := by omega
    exact ⟨⟨z, hr⟩, main⟩
theorem CS_6 {K : Int → Sg → Prop} {ru len i k v pl nx : Int} {t : Int → Int} {σ σ' : Sg} (H : Hd ru t len σ i k v pl nx) (hs : σ.1 2 5 = 6) (ev : ∀ P : Sg → Prop, P σ' → wp5_R_takeBehindOperand (tpS σ k v pl nx) P) : CS K i σ (i + 1) σ' := by
  obtain ⟨⟨hf, hk⟩, ⟨e1, e2, h8, hb⟩, ⟨h0, h1, h2⟩, ⟨hr, hru⟩, hT⟩ := H
  intro K2 L hL h
  have main : wp5_R_readAll_43 i σ L ru := by
    unfold wp5_R_readAll_43
    subst e1; subst e2
    refine advance_at (by omega) h2 h8 hb hT ?_
    have e : (tpS σ k v pl nx).1 2 5 = 6 := hs
    rw [e]
    exact ⟨fun z => absurd z (by decide), fun z => absurd z (by decide), fun z => absurd z (by decide), fun z => absurd z (by decide), fun z => absurd z (by decide), fun _ => ev _ ⟨⟨by omega, by omega⟩, h⟩, fun z => absurd z (by decide)⟩
  refine hL _ _ ?_
  unfold wp5_R_readAll_2
  refine ⟨fun z => absurd z (by omega), fun _ => ⟨fun z => absurd hf z, fun _ => ⟨fun z => absurd z hk, fun _ => ⟨fun z => ?_, fun z => ?_⟩⟩⟩⟩
  · obtain rfl : ru = 0 := by omega
    exact main
  · obtain rfl : ru = 1 := by omega
    exact ⟨⟨z, hr⟩, main⟩
-- ===== evaluation of small methods
def rfS (τ : Sg) (x : Int) : Sg := pU (pU τ 2 1 x) 2 2 (τ.1 3 4)
theorem refuse_at {τ : Sg} {x : Int} {P : Sg → Prop} (h : P (rfS τ x)) : wp5_R_refuse τ x P := h
def adS (τ : Sg) (n v : Int) : Sg := pY (pZ τ 0 n (uZ (τ.2.2.2 0 n) (τ.2.2.1 0 n) v)) 0 n (τ.2.2.1 0 n + 1)
theorem add_at {τ : Sg} {n v : Int} {P : Sg → Prop} (h0 : 0 ≤ τ.2.2.1 0 n) (h1 : τ.2.2.1 0 n < capI n) (h : P (adS τ n v)) : wp5_W_add τ n v P := by
  unfold wp5_W_add
  have := capI_pos n
  exact ⟨fun z => absurd z (by omega), fun _ => ⟨⟨h0, h1⟩, ⟨by omega, by omega⟩, h⟩⟩
def inS (τ : Sg) (n k v : Int) : Sg := pY (pZ (pZ τ 0 n (cpI (τ.2.2.2 0 n) (τ.2.2.2 0 n) k (k + 1) (τ.2.2.1 0 n - k))) 0 n (uZ ((uF (τ.2.2.2 0) n (cpI (τ.2.2.2 0 n) (τ.2.2.2 0 n) k (k + 1) (τ.2.2.1 0 n - k))) n) k v)) 0 n (τ.2.2.1 0 n + 1)
theorem insert_at {τ : Sg} {n k v : Int} {P : Sg → Prop} (h0 : 0 ≤ k) (hk : k ≤ τ.2.2.1 0 n) (h1 : τ.2.2.1 0 n < capI n) (h : P (inS τ n k v)) : wp5_W_insert τ n k v P := by
  unfold wp5_W_insert
  have := capI_pos n
  exact ⟨fun z => absurd z (by omega), fun _ => ⟨fun z => absurd z (by omega), fun _ => ⟨fun z => absurd z (by omega), fun _ => ⟨⟨by omega, by omega, by omega, by omega, by omega⟩, ⟨by omega, by omega⟩, ⟨by omega, by omega⟩, h⟩⟩⟩⟩
theorem inS_len (τ : Sg) (n k v : Int) : (inS τ n k v).2.2.1 0 n = τ.2.2.1 0 n + 1 := by
  show uZ _ n _ n = _
  exact uZ_eq
theorem inS_cell (τ : Sg) (n k v j : Int) (h0 : 0 ≤ k) (hk : k ≤ τ.2.2.1 0 n) (hj : j ≤ τ.2.2.1 0 n) : (inS τ n k v).2.2.2 0 n j = if j = k then v else if k < j then τ.2.2.2 0 n (j - 1) else τ.2.2.2 0 n j := by
  show uF _ n (uZ ((uF (τ.2.2.2 0) n (cpI (τ.2.2.2 0 n) (τ.2.2.2 0 n) k (k + 1) (τ.2.2.1 0 n - k))) n) k v) n j = _
  rw [uF_eq, uF_eq]
  unfold uZ cpI
  by_cases c : j = k
  · rw [if_pos c, if_pos c]
  · rw [if_neg c, if_neg c]
    by_cases d : k < j
    · rw [if_pos d, if_pos (by omega), show k + (j - (k + 1)) = j - 1 by omega]
    · rw [if_neg d, if_neg (by omega)]
theorem adS_len (τ : Sg) (n v : Int) : (adS τ n v).2.2.1 0 n = τ.2.2.1 0 n + 1 := by
  show uZ _ n _ n = _
  exact uZ_eq
theorem adS_cell (τ : Sg) (n v j : Int) : (adS τ n v).2.2.2 0 n j = if j = τ.2.2.1 0 n then v else τ.2.2.2 0 n j := by
  show uF _ n (uZ (τ.2.2.2 0 n) (τ.2.2.1 0 n) v) n j = _
  rw [uF_eq]
  rfl
theorem adS_lenN (τ : Sg) {n v m : Int} (h : m ≠ n) : (adS τ n v).2.2.1 0 m = τ.2.2.1 0 m := by
  show uZ _ n _ m = _
  exact uZ_ne h
theorem adS_cellN (τ : Sg) {n v m : Int} (h : m ≠ n) : (adS τ n v).2.2.2 0 m = τ.2.2.2 0 m := by
  show uF _ n _ m = _
  exact uF_ne h
theorem inS_lenN (τ : Sg) {n k v m : Int} (h : m ≠ n) : (inS τ n k v).2.2.1 0 m = τ.2.2.1 0 m := by
  show uZ _ n _ m = _
  exact uZ_ne h
theorem inS_cellN (τ : Sg) {n k v m : Int} (h : m ≠ n) : (inS τ n k v).2.2.2 0 m = τ.2.2.2 0 m := by
  show uF (uF _ n _) n _ m = _
  rw [uF_ne h, uF_ne h]
-- ===== the reference's 'ahead' and 'write'
def insF (f : Int → Int) (a m v : Int) : Int → Int := fun j => if j = a then v else if a < j ∧ j ≤ m then f (j - 1) else f j
theorem ahead_at {f : Int → Int} {m a v : Int} {K : (Int → Int) → Int → Prop} (h0 : 0 ≤ a) (ha : a ≤ m) (hm : m < 2400) (hK : K (insF f a m v) (m + 1)) : wp_ahead f m a v K := by
  unfold wp_ahead
  refine wl2_rule (fun p g => a ≤ p ∧ p ≤ m ∧ g = fun j => if p < j ∧ j ≤ m then f (j - 1) else f j) (fun p _ => (p - a).toNat) ?_ ⟨ha, by omega, ?_⟩
  · intro P p g ⟨p0, p1, hg⟩ ih
    unfold wp_ahead_5
    refine ⟨fun z => ?_, fun z => ?_⟩
    · have e : p = a := by omega
      refine ⟨⟨h0, by omega⟩, ⟨by omega, by omega⟩, ?_⟩
      have e2 : uZ g a v = insF f a m v := by
        rw [hg]; funext j; unfold uZ insF
        by_cases c : j = a
        · rw [if_pos c, if_pos c]
        · rw [if_neg c, if_neg c, e]
      rw [e2]; exact hK
    · refine ⟨⟨by omega, by omega⟩, ⟨by omega, by omega⟩, ⟨by omega, by omega⟩, ih _ _ ⟨by omega, by omega, ?_⟩ (by omega)⟩
      rw [hg]; funext j; unfold uZ
      dsimp only
      by_cases c : j = p
      · rw [if_pos c, if_neg (show ¬ (p < p - 1 ∧ p - 1 ≤ m) by omega), if_pos (by omega), c]
      · rw [if_neg c]
        by_cases d : p < j ∧ j ≤ m
        · rw [if_pos d, if_pos (by omega)]
        · rw [if_neg d, if_neg (by omega)]
  · funext j
    rw [if_neg (by omega)]
