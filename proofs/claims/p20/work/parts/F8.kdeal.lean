-- ===== dealing: the least one
def Tot (s k : Int) (a : Int → Int) : Prop := ∀ v, bv v → (bitR s v → 0 ≤ a v ∧ a v < k) ∧ (¬ bitR s v → a v = -1)
def Vdl (f a : Int → Int) : Prop := ∀ v w, bv v → 0 ≤ w → w < v → a v ≠ -1 → a v = a w → ¬ bitR (f v) w
def Ext (v : Int) (g a : Int → Int) : Prop := ∀ w, 0 ≤ w → w < v → a w = g w
def Lx (b a : Int → Int) : Prop := ∃ j, bv j ∧ (∀ w, 0 ≤ w → w < j → b w = a w) ∧ b j < a j
def WinE (s k : Int) (f : Int → Int) (v : Int) (g a : Int → Int) : Prop := Tot s k a ∧ Ext v g a ∧ Vdl f a ∧ ∀ b, Tot s k b → Ext v g b → Lx b a → ¬ Vdl f b
def NoE (s k : Int) (f : Int → Int) (v : Int) (g : Int → Int) : Prop := ∀ b, Tot s k b → Ext v g b → ¬ Vdl f b
def PreT (s k v : Int) (g : Int → Int) : Prop := ∀ w, 0 ≤ w → w < v → (bitR s w → 0 ≤ g w ∧ g w < k) ∧ (¬ bitR s w → g w = -1)
def PreW (f : Int → Int) (v : Int) (g : Int → Int) : Prop := ∀ x w, 0 ≤ w → w < x → x < v → g x ≠ -1 → g x = g w → ¬ bitR (f x) w
theorem Lx.tri (b a : Int → Int) : Lx b a ∨ Lx a b ∨ ∀ w, bv w → b w = a w := by
  have key : ∀ n : Nat, n ≤ 6 → (∃ j, bv j ∧ (∀ w, 0 ≤ w → w < j → b w = a w) ∧ b j ≠ a j) ∨ ∀ w, 0 ≤ w → w < (n : Int) → b w = a w := by
    intro n
    induction n with
    | zero => exact fun _ => Or.inr (fun w w0 w1 => by omega)
    | succ n ih =>
      intro hn
      rcases ih (by omega) with q | q
      · exact Or.inl q
      · by_cases e : b n = a n
        · refine Or.inr (fun w w0 w1 => ?_)
          by_cases z : w = n
          · rw [z]; exact e
          · exact q w w0 (by omega)
        · exact Or.inl ⟨n, ⟨by omega, by omega⟩, q, e⟩
  rcases key 6 (by decide) with ⟨j, hj, h1, h2⟩ | q
  · by_cases z : b j < a j
    · exact Or.inl ⟨j, hj, h1, z⟩
    · exact Or.inr (Or.inl ⟨j, hj, fun w w0 w1 => (h1 w w0 w1).symm, by omega⟩)
  · exact Or.inr (Or.inr (fun w hw => q w hw.1 (by unfold bv at hw; omega)))
theorem WinE.uq {s k : Int} {f g a b : Int → Int} {v : Int} (h : WinE s k f v g a) (h' : WinE s k f v g b) {w : Int} (hw : bv w) : a w = b w := by
  rcases Lx.tri b a with q | q | q
  · exact absurd h'.2.2.1 (h.2.2.2 b h'.1 h'.2.1 q)
  · exact absurd h.2.2.1 (h'.2.2.2 a h.1 h.2.1 q)
  · exact (q w hw).symm
section F8
variable {s m v i : Int} {f g t a : Int → Int}
theorem PreT.snoc (hT : PreT s m v g) (x : Ext v g t) (h : (bitR s v → 0 ≤ i ∧ i < m) ∧ (¬ bitR s v → i = -1)) : PreT s m (v + 1) (uZ t v i) := by
  intro w w0 w1
  by_cases e : w = v
  · rw [e, uZ_eq]; exact h
  · rw [uZ_ne e, x w w0 (by omega)]; exact hT w w0 (by omega)
theorem PreW.snoc (hV : PreW f v g) (x : Ext v g t) (h : i ≠ -1 → ∀ w, 0 ≤ w → w < v → t w = i → ¬ bitR (f v) w) : PreW f (v + 1) (uZ t v i) := by
  intro y w w0 w1 w2 h1 h2
  rw [uZ_ne (show w ≠ v by omega)] at h2
  by_cases e : y = v
  · rw [e] at h1 h2 w1 ⊢
    rw [uZ_eq] at h1 h2
    exact h h1 w w0 w1 h2.symm
  · rw [uZ_ne e] at h1 h2
    rw [x y (by omega) (by omega)] at h1 h2
    rw [x w w0 (by omega)] at h2
    exact hV y w w0 w1 (by omega) h1 h2
theorem Ext.snoc {b : Int → Int} (x : Ext v g t) (xb : Ext v g b) (e : b v = i) : Ext (v + 1) (uZ t v i) b := by
  intro w w0 w1
  by_cases z : w = v
  · rw [z, uZ_eq]; exact e
  · rw [uZ_ne z, x w w0 (by omega)]; exact xb w w0 (by omega)
theorem Ext.less {b : Int → Int} (x : Ext v g t) (xb : Ext (v + 1) (uZ t v i) b) : Ext v g b ∧ ((0 ≤ v) → b v = i) := by
  refine ⟨fun w w0 w1 => ?_, fun v0 => ?_⟩
  · have := xb w w0 (by omega)
    rw [uZ_ne (by omega)] at this
    rw [this]; exact x w w0 w1
  · have := xb v v0 (by omega)
    rw [uZ_eq] at this
    exact this
theorem WinE.up (x : Ext v g t) (hv : bv v) (inv : ∀ b, Tot s m b → Ext v g b → b v < i → ¬ Vdl f b) (win : WinE s m f (v + 1) (uZ t v i) a) : WinE s m f v g a := by
  obtain ⟨h1, h2, h3, h4⟩ := win
  obtain ⟨x1, x2⟩ := x.less h2
  have av := x2 hv.1
  refine ⟨h1, x1, h3, fun b hb xb hl => ?_⟩
  by_cases q1 : b v < i
  · exact inv b hb xb q1
  · by_cases q2 : b v = i
    · exact h4 b hb (x.snoc xb q2) hl
    · obtain ⟨j, hj, j1, j2⟩ := hl
      by_cases z : j < v
      · have e1 := xb j hj.1 z
        have e2 := x1 j hj.1 z
        omega
      · by_cases z2 : j = v
        · rw [z2] at j2; omega
        · have := j1 v hv.1 (by omega)
          omega
theorem NoE.up (x : Ext v g t) (inv : ∀ b, Tot s m b → Ext v g b → b v < i → ¬ Vdl f b) (no : NoE s m f (v + 1) (uZ t v i)) : ∀ b, Tot s m b → Ext v g b → b v < i + 1 → ¬ Vdl f b := by
  intro b hb xb h
  by_cases q : b v < i
  · exact inv b hb xb q
  · exact no b hb (x.snoc xb (by omega))
end F8
section F8b
variable {σ : Sg}
theorem clashing_k {v w : Int} (hv : bv v) (hw : bv w) {K : Int → Prop} (c1 : bitR (σ.2.1 85 v) w → K 1) (c0 : ¬ bitR (σ.2.1 85 v) w → K 0) : wp5_G_clashing σ v w K :=
  isVariable_k (fun h => t1 (isVariable_k (fun _ => t1 ⟨⟨h.1, by omega⟩, fun z => c0 (fun q => q z), fun z => c1 z⟩) (fun z => absurd hw z))) (fun z => absurd hv z)
theorem isFree_k {v x : Int} (hv : bv v) {K : Int → Prop} (f1 : (∀ w, 0 ≤ w → w < v → σ.2.1 87 w = x → ¬ bitR (σ.2.1 85 v) w) → K 1) (f0 : (∃ w, 0 ≤ w ∧ w < v ∧ σ.2.1 87 w = x ∧ bitR (σ.2.1 85 v) w) → K 0) : wp5_G_isFree σ v x K := by
  have hv' := hv
  unfold bv at hv'
  refine wl1_rule (fun (i : Int) => 0 ≤ i ∧ ∀ w, 0 ≤ w → w < i → σ.2.1 87 w = x → ¬ bitR (σ.2.1 85 v) w) (fun (i : Int) => (6 - i).toNat) ?_ ⟨Int.le_refl 0, fun w w0 w1 => by omega⟩
  rintro P i ⟨hi, inv⟩ ih
  refine ⟨fun h => f1 (fun w w0 w1 => inv w w0 (by omega)), fun hlt => ⟨fun h => absurd h (by omega), fun h6 => ⟨⟨hi, h6⟩, fun z => ⟨rng_small (by omega) (by omega), ih _ ⟨by omega, fun w w0 w1 e => ?_⟩ (by omega)⟩, fun z => clashing_k hv ⟨hi, by omega⟩ (fun c => ⟨fun q => absurd q (by decide), fun _ => f0 ⟨i, hi, hlt, z, c⟩⟩) (fun c => ⟨fun _ => ⟨rng_small (by omega) (by omega), ih _ ⟨by omega, fun w w0 w1 e => ?_⟩ (by omega)⟩, fun q => absurd rfl q⟩)⟩⟩⟩
  · by_cases q : w = i
    · rw [q] at e; exact absurd e z
    · exact inv w w0 (by omega) e
  · by_cases q : w = i
    · rw [q]; exact c
    · exact inv w w0 (by omega) e
theorem deal6_k {s m : Int} {f : Int → Int} {K : Int → Sg → Prop} (hT : PreT s m 6 (σ.2.1 87)) (hV : PreW f 6 (σ.2.1 87)) (k1 : ∀ σ', Sx 87 σ σ' → WinE s m f 6 (σ.2.1 87) (σ'.2.1 87) → K 1 σ') : wp5_G_deal6 σ s m K := by
  refine isVariable_k (fun h => absurd h.2 (by decide)) (fun _ => u0 (k1 σ Sx.refl ⟨fun v hv => hT v hv.1 (by unfold bv at hv; omega), fun w _ _ => rfl, fun v w hv w0 w1 h1 h2 => hV v w w0 w1 (by unfold bv at hv; omega) h1 h2, fun b _ xb hl => ?_⟩))
  obtain ⟨j, hj, j1, j2⟩ := hl
  have := xb j hj.1 (by unfold bv at hj; omega)
  omega
theorem deal5_k {s m : Int} {f : Int → Int} {K : Int → Sg → Prop} (m0 : 0 ≤ m) (hm : m ≤ 100) (hf : σ.2.1 85 = f) (hT : PreT s m 5 (σ.2.1 87)) (hV : PreW f 5 (σ.2.1 87)) (k1 : ∀ σ', Sx 87 σ σ' → WinE s m f 5 (σ.2.1 87) (σ'.2.1 87) → K 1 σ') (k0 : ∀ σ', Sx 87 σ σ' → Ext 5 (σ.2.1 87) (σ'.2.1 87) → NoE s m f 5 (σ.2.1 87) → K 0 σ') : wp5_G_deal5 σ s m K := by
  have bvv : bv 5 := ⟨by decide, by decide⟩
  have x00 : Ext 5 (σ.2.1 87) (σ.2.1 87) := fun w _ _ => rfl
  have x0 : Ext 5 (σ.2.1 87) (uZ (σ.2.1 87) 5 (-1)) := fun w w0 w1 => uZ_ne (by omega)
  have a0 : ∀ (t : Sg) (h : Int → Int), (pF t 87 h).2.1 87 = h := fun t h => by rw [pF_get, if_pos rfl]
  refine isVariable_k (fun _ => u1 ⟨fun zs => ?_, fun zs => ?_⟩) (fun z => absurd bvv z)
  · have zs : bitR s 5 := zs
    refine wl2_rule (fun (i : Int) (t : Sg) => 0 ≤ i ∧ Sx 87 σ t ∧ Ext 5 (σ.2.1 87) (t.2.1 87) ∧ ∀ b, Tot s m b → Ext 5 (σ.2.1 87) b → b 5 < i → ¬ Vdl f b) (fun (i : Int) _ => (m - i).toNat) ?_ ⟨Int.le_refl 0, Sx_pF, by rw [a0]; exact x0, fun b hb _ h5 => absurd ((hb 5 bvv).1 zs).1 (by omega)⟩
    rintro P i t ⟨hi, ft, xt, inv⟩ ih
    have ft85 : t.2.1 85 = f := (ft.2.2 85 (by decide)).trans hf
    have x1 : Ext 5 (σ.2.1 87) (uZ (t.2.1 87) 5 i) := fun w w0 w1 => by rw [uZ_ne (by omega)]; exact xt w w0 w1
    refine ⟨fun hge => k0 _ (ft.trans Sx_pF) (by rw [a0]; exact fun w w0 w1 => by rw [uZ_ne (by omega)]; exact xt w w0 w1) (fun b hb xb => inv b hb xb (by have := ((hb 5 bvv).1 zs).2; omega)), fun hlt => isFree_k bvv (fun hfree => ⟨fun z => absurd z (by decide), fun _ => ?_⟩) (fun hno => ⟨fun _ => ⟨rng_small (by omega) (by omega), ih _ _ ⟨by omega, ft, xt, fun b hb xb h5 => ?_⟩ (by omega)⟩, fun z => absurd rfl z⟩)⟩
    · have hT' : PreT s m 6 (uZ (t.2.1 87) 5 i) := hT.snoc (v := 5) xt ⟨fun _ => ⟨hi, hlt⟩, fun z => absurd zs z⟩
      have hV' : PreW f 6 (uZ (t.2.1 87) 5 i) := hV.snoc (v := 5) xt (fun _ w w0 w1 e => by have := hfree w w0 w1 e; rw [ft85] at this; exact this)
      rw [← a0 t (uZ (t.2.1 87) 5 i)] at hT' hV'
      refine deal6_k (s := s) (m := m) (f := f) hT' hV' (fun σ' g win => ⟨fun z => absurd z (by decide), fun _ => k1 σ' ((ft.trans Sx_pF).trans g) (WinE.up (v := 5) xt bvv inv (by rw [a0] at win; exact win))⟩)
    · by_cases q : b 5 < i
      · exact inv b hb xb q
      · intro hvd
        obtain ⟨w, w0, w1, e1, e2⟩ := hno
        rw [ft85] at e2
        have eb : b 5 = i := by omega
        have ew : b w = i := by rw [xb w w0 w1, ← xt w w0 w1]; exact e1
        exact hvd 5 w bvv w0 w1 (by omega) (by rw [eb, ew]) e2
  · have nz : ¬ bitR s 5 := fun q => q zs
    have hT' : PreT s m 6 (uZ (σ.2.1 87) 5 (-1)) := hT.snoc (v := 5) x00 ⟨fun z => absurd z nz, fun _ => rfl⟩
    have hV' : PreW f 6 (uZ (σ.2.1 87) 5 (-1)) := hV.snoc (v := 5) x00 (fun z => absurd rfl z)
    rw [← a0 σ (uZ (σ.2.1 87) 5 (-1))] at hT' hV'
    refine deal6_k (s := s) (m := m) (f := f) hT' hV' (fun σ' g win => ⟨Or.inr rfl, k1 σ' (Sx_pF.trans g) (WinE.up (v := 5) (i := -1) x00 bvv (fun b hb xb h5 => absurd h5 (by rw [(hb 5 bvv).2 nz]; decide)) (by rw [a0] at win; exact win))⟩)
theorem deal4_k {s m : Int} {f : Int → Int} {K : Int → Sg → Prop} (m0 : 0 ≤ m) (hm : m ≤ 100) (hf : σ.2.1 85 = f) (hT : PreT s m 4 (σ.2.1 87)) (hV : PreW f 4 (σ.2.1 87)) (k1 : ∀ σ', Sx 87 σ σ' → WinE s m f 4 (σ.2.1 87) (σ'.2.1 87) → K 1 σ') (k0 : ∀ σ', Sx 87 σ σ' → Ext 4 (σ.2.1 87) (σ'.2.1 87) → NoE s m f 4 (σ.2.1 87) → K 0 σ') : wp5_G_deal4 σ s m K := by
  have bvv : bv 4 := ⟨by decide, by decide⟩
  have x00 : Ext 4 (σ.2.1 87) (σ.2.1 87) := fun w _ _ => rfl
  have x0 : Ext 4 (σ.2.1 87) (uZ (σ.2.1 87) 4 (-1)) := fun w w0 w1 => uZ_ne (by omega)
  have a0 : ∀ (t : Sg) (h : Int → Int), (pF t 87 h).2.1 87 = h := fun t h => by rw [pF_get, if_pos rfl]
  refine isVariable_k (fun _ => u1 ⟨fun zs => ?_, fun zs => ?_⟩) (fun z => absurd bvv z)
  · have zs : bitR s 4 := zs
    refine wl2_rule (fun (i : Int) (t : Sg) => 0 ≤ i ∧ Sx 87 σ t ∧ Ext 4 (σ.2.1 87) (t.2.1 87) ∧ ∀ b, Tot s m b → Ext 4 (σ.2.1 87) b → b 4 < i → ¬ Vdl f b) (fun (i : Int) _ => (m - i).toNat) ?_ ⟨Int.le_refl 0, Sx_pF, by rw [a0]; exact x0, fun b hb _ h5 => absurd ((hb 4 bvv).1 zs).1 (by omega)⟩
    rintro P i t ⟨hi, ft, xt, inv⟩ ih
    have ft85 : t.2.1 85 = f := (ft.2.2 85 (by decide)).trans hf
    have x1 : Ext 4 (σ.2.1 87) (uZ (t.2.1 87) 4 i) := fun w w0 w1 => by rw [uZ_ne (by omega)]; exact xt w w0 w1
    refine ⟨fun hge => k0 _ (ft.trans Sx_pF) (by rw [a0]; exact fun w w0 w1 => by rw [uZ_ne (by omega)]; exact xt w w0 w1) (fun b hb xb => inv b hb xb (by have := ((hb 4 bvv).1 zs).2; omega)), fun hlt => isFree_k bvv (fun hfree => ⟨fun z => absurd z (by decide), fun _ => ?_⟩) (fun hno => ⟨fun _ => ⟨rng_small (by omega) (by omega), ih _ _ ⟨by omega, ft, xt, fun b hb xb h5 => ?_⟩ (by omega)⟩, fun z => absurd rfl z⟩)⟩
    · have hT' : PreT s m 5 (uZ (t.2.1 87) 4 i) := hT.snoc (v := 4) xt ⟨fun _ => ⟨hi, hlt⟩, fun z => absurd zs z⟩
      have hV' : PreW f 5 (uZ (t.2.1 87) 4 i) := hV.snoc (v := 4) xt (fun _ w w0 w1 e => by have := hfree w w0 w1 e; rw [ft85] at this; exact this)
      rw [← a0 t (uZ (t.2.1 87) 4 i)] at hT' hV'
      refine deal5_k (s := s) (m := m) (f := f) m0 hm (show (pF t 87 (uZ (t.2.1 87) 4 i)).2.1 85 = f from ft85) hT' hV' (fun σ' g win => ⟨fun z => absurd z (by decide), fun _ => k1 σ' ((ft.trans Sx_pF).trans g) (WinE.up (v := 4) xt bvv inv (by rw [a0] at win; exact win))⟩) (fun σ' g xg no => ⟨fun _ => ⟨rng_small (by omega) (by omega), ih _ _ ⟨by omega, (ft.trans Sx_pF).trans g, fun w w0 w1 => by rw [xg w w0 (by omega), a0]; exact x1 w w0 w1, NoE.up (v := 4) xt inv (by rw [a0] at no; exact no)⟩ (by omega)⟩, fun z => absurd rfl z⟩)
    · by_cases q : b 4 < i
      · exact inv b hb xb q
      · intro hvd
        obtain ⟨w, w0, w1, e1, e2⟩ := hno
        rw [ft85] at e2
        have eb : b 4 = i := by omega
        have ew : b w = i := by rw [xb w w0 w1, ← xt w w0 w1]; exact e1
        exact hvd 4 w bvv w0 w1 (by omega) (by rw [eb, ew]) e2
  · have nz : ¬ bitR s 4 := fun q => q zs
    have hT' : PreT s m 5 (uZ (σ.2.1 87) 4 (-1)) := hT.snoc (v := 4) x00 ⟨fun z => absurd z nz, fun _ => rfl⟩
    have hV' : PreW f 5 (uZ (σ.2.1 87) 4 (-1)) := hV.snoc (v := 4) x00 (fun z => absurd rfl z)
    rw [← a0 σ (uZ (σ.2.1 87) 4 (-1))] at hT' hV'
    refine deal5_k (s := s) (m := m) (f := f) m0 hm (show (pF σ 87 (uZ (σ.2.1 87) 4 (-1))).2.1 85 = f from hf) hT' hV' (fun σ' g win => ⟨Or.inr rfl, k1 σ' (Sx_pF.trans g) (WinE.up (v := 4) (i := -1) x00 bvv (fun b hb xb h5 => absurd h5 (by rw [(hb 4 bvv).2 nz]; decide)) (by rw [a0] at win; exact win))⟩) (fun σ' g xg no => ⟨Or.inl rfl, k0 σ' (Sx_pF.trans g) (fun w w0 w1 => by rw [xg w w0 (by omega), a0]; exact x0 w w0 w1) (fun b hb xb => (by rw [a0] at no; exact no : NoE s m f (4 + 1) (uZ (σ.2.1 87) 4 (-1))) b hb (x00.snoc xb ((hb 4 bvv).2 nz)))⟩)
theorem deal3_k {s m : Int} {f : Int → Int} {K : Int → Sg → Prop} (m0 : 0 ≤ m) (hm : m ≤ 100) (hf : σ.2.1 85 = f) (hT : PreT s m 3 (σ.2.1 87)) (hV : PreW f 3 (σ.2.1 87)) (k1 : ∀ σ', Sx 87 σ σ' → WinE s m f 3 (σ.2.1 87) (σ'.2.1 87) → K 1 σ') (k0 : ∀ σ', Sx 87 σ σ' → Ext 3 (σ.2.1 87) (σ'.2.1 87) → NoE s m f 3 (σ.2.1 87) → K 0 σ') : wp5_G_deal3 σ s m K := by
  have bvv : bv 3 := ⟨by decide, by decide⟩
  have x00 : Ext 3 (σ.2.1 87) (σ.2.1 87) := fun w _ _ => rfl
  have x0 : Ext 3 (σ.2.1 87) (uZ (σ.2.1 87) 3 (-1)) := fun w w0 w1 => uZ_ne (by omega)
  have a0 : ∀ (t : Sg) (h : Int → Int), (pF t 87 h).2.1 87 = h := fun t h => by rw [pF_get, if_pos rfl]
  refine isVariable_k (fun _ => u1 ⟨fun zs => ?_, fun zs => ?_⟩) (fun z => absurd bvv z)
  · have zs : bitR s 3 := zs
    refine wl2_rule (fun (i : Int) (t : Sg) => 0 ≤ i ∧ Sx 87 σ t ∧ Ext 3 (σ.2.1 87) (t.2.1 87) ∧ ∀ b, Tot s m b → Ext 3 (σ.2.1 87) b → b 3 < i → ¬ Vdl f b) (fun (i : Int) _ => (m - i).toNat) ?_ ⟨Int.le_refl 0, Sx_pF, by rw [a0]; exact x0, fun b hb _ h5 => absurd ((hb 3 bvv).1 zs).1 (by omega)⟩
    rintro P i t ⟨hi, ft, xt, inv⟩ ih
    have ft85 : t.2.1 85 = f := (ft.2.2 85 (by decide)).trans hf
    have x1 : Ext 3 (σ.2.1 87) (uZ (t.2.1 87) 3 i) := fun w w0 w1 => by rw [uZ_ne (by omega)]; exact xt w w0 w1
    refine ⟨fun hge => k0 _ (ft.trans Sx_pF) (by rw [a0]; exact fun w w0 w1 => by rw [uZ_ne (by omega)]; exact xt w w0 w1) (fun b hb xb => inv b hb xb (by have := ((hb 3 bvv).1 zs).2; omega)), fun hlt => isFree_k bvv (fun hfree => ⟨fun z => absurd z (by decide), fun _ => ?_⟩) (fun hno => ⟨fun _ => ⟨rng_small (by omega) (by omega), ih _ _ ⟨by omega, ft, xt, fun b hb xb h5 => ?_⟩ (by omega)⟩, fun z => absurd rfl z⟩)⟩
    · have hT' : PreT s m 4 (uZ (t.2.1 87) 3 i) := hT.snoc (v := 3) xt ⟨fun _ => ⟨hi, hlt⟩, fun z => absurd zs z⟩
      have hV' : PreW f 4 (uZ (t.2.1 87) 3 i) := hV.snoc (v := 3) xt (fun _ w w0 w1 e => by have := hfree w w0 w1 e; rw [ft85] at this; exact this)
      rw [← a0 t (uZ (t.2.1 87) 3 i)] at hT' hV'
      refine deal4_k (s := s) (m := m) (f := f) m0 hm (show (pF t 87 (uZ (t.2.1 87) 3 i)).2.1 85 = f from ft85) hT' hV' (fun σ' g win => ⟨fun z => absurd z (by decide), fun _ => k1 σ' ((ft.trans Sx_pF).trans g) (WinE.up (v := 3) xt bvv inv (by rw [a0] at win; exact win))⟩) (fun σ' g xg no => ⟨fun _ => ⟨rng_small (by omega) (by omega), ih _ _ ⟨by omega, (ft.trans Sx_pF).trans g, fun w w0 w1 => by rw [xg w w0 (by omega), a0]; exact x1 w w0 w1, NoE.up (v := 3) xt inv (by rw [a0] at no; exact no)⟩ (by omega)⟩, fun z => absurd rfl z⟩)
    · by_cases q : b 3 < i
      · exact inv b hb xb q
      · intro hvd
        obtain ⟨w, w0, w1, e1, e2⟩ := hno
        rw [ft85] at e2
        have eb : b 3 = i := by omega
        have ew : b w = i := by rw [xb w w0 w1, ← xt w w0 w1]; exact e1
        exact hvd 3 w bvv w0 w1 (by omega) (by rw [eb, ew]) e2
  · have nz : ¬ bitR s 3 := fun q => q zs
    have hT' : PreT s m 4 (uZ (σ.2.1 87) 3 (-1)) := hT.snoc (v := 3) x00 ⟨fun z => absurd z nz, fun _ => rfl⟩
    have hV' : PreW f 4 (uZ (σ.2.1 87) 3 (-1)) := hV.snoc (v := 3) x00 (fun z => absurd rfl z)
    rw [← a0 σ (uZ (σ.2.1 87) 3 (-1))] at hT' hV'
    refine deal4_k (s := s) (m := m) (f := f) m0 hm (show (pF σ 87 (uZ (σ.2.1 87) 3 (-1))).2.1 85 = f from hf) hT' hV' (fun σ' g win => ⟨Or.inr rfl, k1 σ' (Sx_pF.trans g) (WinE.up (v := 3) (i := -1) x00 bvv (fun b hb xb h5 => absurd h5 (by rw [(hb 3 bvv).2 nz]; decide)) (by rw [a0] at win; exact win))⟩) (fun σ' g xg no => ⟨Or.inl rfl, k0 σ' (Sx_pF.trans g) (fun w w0 w1 => by rw [xg w w0 (by omega), a0]; exact x0 w w0 w1) (fun b hb xb => (by rw [a0] at no; exact no : NoE s m f (3 + 1) (uZ (σ.2.1 87) 3 (-1))) b hb (x00.snoc xb ((hb 3 bvv).2 nz)))⟩)
theorem deal2_k {s m : Int} {f : Int → Int} {K : Int → Sg → Prop} (m0 : 0 ≤ m) (hm : m ≤ 100) (hf : σ.2.1 85 = f) (hT : PreT s m 2 (σ.2.1 87)) (hV : PreW f 2 (σ.2.1 87)) (k1 : ∀ σ', Sx 87 σ σ' → WinE s m f 2 (σ.2.1 87) (σ'.2.1 87) → K 1 σ') (k0 : ∀ σ', Sx 87 σ σ' → Ext 2 (σ.2.1 87) (σ'.2.1 87) → NoE s m f 2 (σ.2.1 87) → K 0 σ') : wp5_G_deal2 σ s m K := by
  have bvv : bv 2 := ⟨by decide, by decide⟩
  have x00 : Ext 2 (σ.2.1 87) (σ.2.1 87) := fun w _ _ => rfl
  have x0 : Ext 2 (σ.2.1 87) (uZ (σ.2.1 87) 2 (-1)) := fun w w0 w1 => uZ_ne (by omega)
  have a0 : ∀ (t : Sg) (h : Int → Int), (pF t 87 h).2.1 87 = h := fun t h => by rw [pF_get, if_pos rfl]
  refine isVariable_k (fun _ => u1 ⟨fun zs => ?_, fun zs => ?_⟩) (fun z => absurd bvv z)
  · have zs : bitR s 2 := zs
    refine wl2_rule (fun (i : Int) (t : Sg) => 0 ≤ i ∧ Sx 87 σ t ∧ Ext 2 (σ.2.1 87) (t.2.1 87) ∧ ∀ b, Tot s m b → Ext 2 (σ.2.1 87) b → b 2 < i → ¬ Vdl f b) (fun (i : Int) _ => (m - i).toNat) ?_ ⟨Int.le_refl 0, Sx_pF, by rw [a0]; exact x0, fun b hb _ h5 => absurd ((hb 2 bvv).1 zs).1 (by omega)⟩
    rintro P i t ⟨hi, ft, xt, inv⟩ ih
    have ft85 : t.2.1 85 = f := (ft.2.2 85 (by decide)).trans hf
    have x1 : Ext 2 (σ.2.1 87) (uZ (t.2.1 87) 2 i) := fun w w0 w1 => by rw [uZ_ne (by omega)]; exact xt w w0 w1
    refine ⟨fun hge => k0 _ (ft.trans Sx_pF) (by rw [a0]; exact fun w w0 w1 => by rw [uZ_ne (by omega)]; exact xt w w0 w1) (fun b hb xb => inv b hb xb (by have := ((hb 2 bvv).1 zs).2; omega)), fun hlt => isFree_k bvv (fun hfree => ⟨fun z => absurd z (by decide), fun _ => ?_⟩) (fun hno => ⟨fun _ => ⟨rng_small (by omega) (by omega), ih _ _ ⟨by omega, ft, xt, fun b hb xb h5 => ?_⟩ (by omega)⟩, fun z => absurd rfl z⟩)⟩
    · have hT' : PreT s m 3 (uZ (t.2.1 87) 2 i) := hT.snoc (v := 2) xt ⟨fun _ => ⟨hi, hlt⟩, fun z => absurd zs z⟩
      have hV' : PreW f 3 (uZ (t.2.1 87) 2 i) := hV.snoc (v := 2) xt (fun _ w w0 w1 e => by have := hfree w w0 w1 e; rw [ft85] at this; exact this)
      rw [← a0 t (uZ (t.2.1 87) 2 i)] at hT' hV'
      refine deal3_k (s := s) (m := m) (f := f) m0 hm (show (pF t 87 (uZ (t.2.1 87) 2 i)).2.1 85 = f from ft85) hT' hV' (fun σ' g win => ⟨fun z => absurd z (by decide), fun _ => k1 σ' ((ft.trans Sx_pF).trans g) (WinE.up (v := 2) xt bvv inv (by rw [a0] at win; exact win))⟩) (fun σ' g xg no => ⟨fun _ => ⟨rng_small (by omega) (by omega), ih _ _ ⟨by omega, (ft.trans Sx_pF).trans g, fun w w0 w1 => by rw [xg w w0 (by omega), a0]; exact x1 w w0 w1, NoE.up (v := 2) xt inv (by rw [a0] at no; exact no)⟩ (by omega)⟩, fun z => absurd rfl z⟩)
    · by_cases q : b 2 < i
      · exact inv b hb xb q
      · intro hvd
        obtain ⟨w, w0, w1, e1, e2⟩ := hno
        rw [ft85] at e2
        have eb : b 2 = i := by omega
        have ew : b w = i := by rw [xb w w0 w1, ← xt w w0 w1]; exact e1
        exact hvd 2 w bvv w0 w1 (by omega) (by rw [eb, ew]) e2
  · have nz : ¬ bitR s 2 := fun q => q zs
    have hT' : PreT s m 3 (uZ (σ.2.1 87) 2 (-1)) := hT.snoc (v := 2) x00 ⟨fun z => absurd z nz, fun _ => rfl⟩
    have hV' : PreW f 3 (uZ (σ.2.1 87) 2 (-1)) := hV.snoc (v := 2) x00 (fun z => absurd rfl z)
    rw [← a0 σ (uZ (σ.2.1 87) 2 (-1))] at hT' hV'
    refine deal3_k (s := s) (m := m) (f := f) m0 hm (show (pF σ 87 (uZ (σ.2.1 87) 2 (-1))).2.1 85 = f from hf) hT' hV' (fun σ' g win => ⟨Or.inr rfl, k1 σ' (Sx_pF.trans g) (WinE.up (v := 2) (i := -1) x00 bvv (fun b hb xb h5 => absurd h5 (by rw [(hb 2 bvv).2 nz]; decide)) (by rw [a0] at win; exact win))⟩) (fun σ' g xg no => ⟨Or.inl rfl, k0 σ' (Sx_pF.trans g) (fun w w0 w1 => by rw [xg w w0 (by omega), a0]; exact x0 w w0 w1) (fun b hb xb => (by rw [a0] at no; exact no : NoE s m f (2 + 1) (uZ (σ.2.1 87) 2 (-1))) b hb (x00.snoc xb ((hb 2 bvv).2 nz)))⟩)
theorem deal1_k {s m : Int} {f : Int → Int} {K : Int → Sg → Prop} (m0 : 0 ≤ m) (hm : m ≤ 100) (hf : σ.2.1 85 = f) (hT : PreT s m 1 (σ.2.1 87)) (hV : PreW f 1 (σ.2.1 87)) (k1 : ∀ σ', Sx 87 σ σ' → WinE s m f 1 (σ.2.1 87) (σ'.2.1 87) → K 1 σ') (k0 : ∀ σ', Sx 87 σ σ' → Ext 1 (σ.2.1 87) (σ'.2.1 87) → NoE s m f 1 (σ.2.1 87) → K 0 σ') : wp5_G_deal1 σ s m K := by
  have bvv : bv 1 := ⟨by decide, by decide⟩
  have x00 : Ext 1 (σ.2.1 87) (σ.2.1 87) := fun w _ _ => rfl
  have x0 : Ext 1 (σ.2.1 87) (uZ (σ.2.1 87) 1 (-1)) := fun w w0 w1 => uZ_ne (by omega)
  have a0 : ∀ (t : Sg) (h : Int → Int), (pF t 87 h).2.1 87 = h := fun t h => by rw [pF_get, if_pos rfl]
  refine isVariable_k (fun _ => u1 ⟨fun zs => ?_, fun zs => ?_⟩) (fun z => absurd bvv z)
  · have zs : bitR s 1 := zs
    refine wl2_rule (fun (i : Int) (t : Sg) => 0 ≤ i ∧ Sx 87 σ t ∧ Ext 1 (σ.2.1 87) (t.2.1 87) ∧ ∀ b, Tot s m b → Ext 1 (σ.2.1 87) b → b 1 < i → ¬ Vdl f b) (fun (i : Int) _ => (m - i).toNat) ?_ ⟨Int.le_refl 0, Sx_pF, by rw [a0]; exact x0, fun b hb _ h5 => absurd ((hb 1 bvv).1 zs).1 (by omega)⟩
    rintro P i t ⟨hi, ft, xt, inv⟩ ih
    have ft85 : t.2.1 85 = f := (ft.2.2 85 (by decide)).trans hf
    have x1 : Ext 1 (σ.2.1 87) (uZ (t.2.1 87) 1 i) := fun w w0 w1 => by rw [uZ_ne (by omega)]; exact xt w w0 w1
    refine ⟨fun hge => k0 _ (ft.trans Sx_pF) (by rw [a0]; exact fun w w0 w1 => by rw [uZ_ne (by omega)]; exact xt w w0 w1) (fun b hb xb => inv b hb xb (by have := ((hb 1 bvv).1 zs).2; omega)), fun hlt => isFree_k bvv (fun hfree => ⟨fun z => absurd z (by decide), fun _ => ?_⟩) (fun hno => ⟨fun _ => ⟨rng_small (by omega) (by omega), ih _ _ ⟨by omega, ft, xt, fun b hb xb h5 => ?_⟩ (by omega)⟩, fun z => absurd rfl z⟩)⟩
    · have hT' : PreT s m 2 (uZ (t.2.1 87) 1 i) := hT.snoc (v := 1) xt ⟨fun _ => ⟨hi, hlt⟩, fun z => absurd zs z⟩
      have hV' : PreW f 2 (uZ (t.2.1 87) 1 i) := hV.snoc (v := 1) xt (fun _ w w0 w1 e => by have := hfree w w0 w1 e; rw [ft85] at this; exact this)
      rw [← a0 t (uZ (t.2.1 87) 1 i)] at hT' hV'
      refine deal2_k (s := s) (m := m) (f := f) m0 hm (show (pF t 87 (uZ (t.2.1 87) 1 i)).2.1 85 = f from ft85) hT' hV' (fun σ' g win => ⟨fun z => absurd z (by decide), fun _ => k1 σ' ((ft.trans Sx_pF).trans g) (WinE.up (v := 1) xt bvv inv (by rw [a0] at win; exact win))⟩) (fun σ' g xg no => ⟨fun _ => ⟨rng_small (by omega) (by omega), ih _ _ ⟨by omega, (ft.trans Sx_pF).trans g, fun w w0 w1 => by rw [xg w w0 (by omega), a0]; exact x1 w w0 w1, NoE.up (v := 1) xt inv (by rw [a0] at no; exact no)⟩ (by omega)⟩, fun z => absurd rfl z⟩)
    · by_cases q : b 1 < i
      · exact inv b hb xb q
      · intro hvd
        obtain ⟨w, w0, w1, e1, e2⟩ := hno
        rw [ft85] at e2
        have eb : b 1 = i := by omega
        have ew : b w = i := by rw [xb w w0 w1, ← xt w w0 w1]; exact e1
        exact hvd 1 w bvv w0 w1 (by omega) (by rw [eb, ew]) e2
  · have nz : ¬ bitR s 1 := fun q => q zs
    have hT' : PreT s m 2 (uZ (σ.2.1 87) 1 (-1)) := hT.snoc (v := 1) x00 ⟨fun z => absurd z nz, fun _ => rfl⟩
    have hV' : PreW f 2 (uZ (σ.2.1 87) 1 (-1)) := hV.snoc (v := 1) x00 (fun z => absurd rfl z)
    rw [← a0 σ (uZ (σ.2.1 87) 1 (-1))] at hT' hV'
    refine deal2_k (s := s) (m := m) (f := f) m0 hm (show (pF σ 87 (uZ (σ.2.1 87) 1 (-1))).2.1 85 = f from hf) hT' hV' (fun σ' g win => ⟨Or.inr rfl, k1 σ' (Sx_pF.trans g) (WinE.up (v := 1) (i := -1) x00 bvv (fun b hb xb h5 => absurd h5 (by rw [(hb 1 bvv).2 nz]; decide)) (by rw [a0] at win; exact win))⟩) (fun σ' g xg no => ⟨Or.inl rfl, k0 σ' (Sx_pF.trans g) (fun w w0 w1 => by rw [xg w w0 (by omega), a0]; exact x0 w w0 w1) (fun b hb xb => (by rw [a0] at no; exact no : NoE s m f (1 + 1) (uZ (σ.2.1 87) 1 (-1))) b hb (x00.snoc xb ((hb 1 bvv).2 nz)))⟩)
theorem deal0_k {s m : Int} {f : Int → Int} {K : Int → Sg → Prop} (m0 : 0 ≤ m) (hm : m ≤ 100) (hf : σ.2.1 85 = f) (hT : PreT s m 0 (σ.2.1 87)) (hV : PreW f 0 (σ.2.1 87)) (k1 : ∀ σ', Sx 87 σ σ' → WinE s m f 0 (σ.2.1 87) (σ'.2.1 87) → K 1 σ') (k0 : ∀ σ', Sx 87 σ σ' → Ext 0 (σ.2.1 87) (σ'.2.1 87) → NoE s m f 0 (σ.2.1 87) → K 0 σ') : wp5_G_deal0 σ s m K := by
  have bvv : bv 0 := ⟨by decide, by decide⟩
  have x00 : Ext 0 (σ.2.1 87) (σ.2.1 87) := fun w _ _ => rfl
  have x0 : Ext 0 (σ.2.1 87) (uZ (σ.2.1 87) 0 (-1)) := fun w w0 w1 => uZ_ne (by omega)
  have a0 : ∀ (t : Sg) (h : Int → Int), (pF t 87 h).2.1 87 = h := fun t h => by rw [pF_get, if_pos rfl]
  refine isVariable_k (fun _ => u1 ⟨fun zs => ?_, fun zs => ?_⟩) (fun z => absurd bvv z)
  · have zs : bitR s 0 := zs
    refine wl2_rule (fun (i : Int) (t : Sg) => 0 ≤ i ∧ Sx 87 σ t ∧ Ext 0 (σ.2.1 87) (t.2.1 87) ∧ ∀ b, Tot s m b → Ext 0 (σ.2.1 87) b → b 0 < i → ¬ Vdl f b) (fun (i : Int) _ => (m - i).toNat) ?_ ⟨Int.le_refl 0, Sx_pF, by rw [a0]; exact x0, fun b hb _ h5 => absurd ((hb 0 bvv).1 zs).1 (by omega)⟩
    rintro P i t ⟨hi, ft, xt, inv⟩ ih
    have ft85 : t.2.1 85 = f := (ft.2.2 85 (by decide)).trans hf
    have x1 : Ext 0 (σ.2.1 87) (uZ (t.2.1 87) 0 i) := fun w w0 w1 => by rw [uZ_ne (by omega)]; exact xt w w0 w1
    refine ⟨fun hge => k0 _ (ft.trans Sx_pF) (by rw [a0]; exact fun w w0 w1 => by rw [uZ_ne (by omega)]; exact xt w w0 w1) (fun b hb xb => inv b hb xb (by have := ((hb 0 bvv).1 zs).2; omega)), fun hlt => isFree_k bvv (fun hfree => ⟨fun z => absurd z (by decide), fun _ => ?_⟩) (fun hno => ⟨fun _ => ⟨rng_small (by omega) (by omega), ih _ _ ⟨by omega, ft, xt, fun b hb xb h5 => ?_⟩ (by omega)⟩, fun z => absurd rfl z⟩)⟩
    · have hT' : PreT s m 1 (uZ (t.2.1 87) 0 i) := hT.snoc (v := 0) xt ⟨fun _ => ⟨hi, hlt⟩, fun z => absurd zs z⟩
      have hV' : PreW f 1 (uZ (t.2.1 87) 0 i) := hV.snoc (v := 0) xt (fun _ w w0 w1 e => by have := hfree w w0 w1 e; rw [ft85] at this; exact this)
      rw [← a0 t (uZ (t.2.1 87) 0 i)] at hT' hV'
      refine deal1_k (s := s) (m := m) (f := f) m0 hm (show (pF t 87 (uZ (t.2.1 87) 0 i)).2.1 85 = f from ft85) hT' hV' (fun σ' g win => ⟨fun z => absurd z (by decide), fun _ => k1 σ' ((ft.trans Sx_pF).trans g) (WinE.up (v := 0) xt bvv inv (by rw [a0] at win; exact win))⟩) (fun σ' g xg no => ⟨fun _ => ⟨rng_small (by omega) (by omega), ih _ _ ⟨by omega, (ft.trans Sx_pF).trans g, fun w w0 w1 => by rw [xg w w0 (by omega), a0]; exact x1 w w0 w1, NoE.up (v := 0) xt inv (by rw [a0] at no; exact no)⟩ (by omega)⟩, fun z => absurd rfl z⟩)
    · by_cases q : b 0 < i
      · exact inv b hb xb q
      · intro hvd
        obtain ⟨w, w0, w1, e1, e2⟩ := hno
        rw [ft85] at e2
        have eb : b 0 = i := by omega
        have ew : b w = i := by rw [xb w w0 w1, ← xt w w0 w1]; exact e1
        exact hvd 0 w bvv w0 w1 (by omega) (by rw [eb, ew]) e2
  · have nz : ¬ bitR s 0 := fun q => q zs
    have hT' : PreT s m 1 (uZ (σ.2.1 87) 0 (-1)) := hT.snoc (v := 0) x00 ⟨fun z => absurd z nz, fun _ => rfl⟩
    have hV' : PreW f 1 (uZ (σ.2.1 87) 0 (-1)) := hV.snoc (v := 0) x00 (fun z => absurd rfl z)
    rw [← a0 σ (uZ (σ.2.1 87) 0 (-1))] at hT' hV'
    refine deal1_k (s := s) (m := m) (f := f) m0 hm (show (pF σ 87 (uZ (σ.2.1 87) 0 (-1))).2.1 85 = f from hf) hT' hV' (fun σ' g win => ⟨Or.inr rfl, k1 σ' (Sx_pF.trans g) (WinE.up (v := 0) (i := -1) x00 bvv (fun b hb xb h5 => absurd h5 (by rw [(hb 0 bvv).2 nz]; decide)) (by rw [a0] at win; exact win))⟩) (fun σ' g xg no => ⟨Or.inl rfl, k0 σ' (Sx_pF.trans g) (fun w w0 w1 => by rw [xg w w0 (by omega), a0]; exact x0 w w0 w1) (fun b hb xb => (by rw [a0] at no; exact no : NoE s m f (0 + 1) (uZ (σ.2.1 87) 0 (-1))) b hb (x00.snoc xb ((hb 0 bvv).2 nz)))⟩)
/-- the fewest registers: the least number with a dealing -/
def FewE (s : Int) (f : Int → Int) (k : Int) (a : Int → Int) : Prop := (0 ≤ k ∧ k ≤ 6) ∧ WinE s k f 0 a a ∧ ∀ j, 0 ≤ j → j < k → ∀ b, Tot s j b → ¬ Vdl f b
theorem FewE.uq {s k k' : Int} {f a a' : Int → Int} (h : FewE s f k a) (h' : FewE s f k' a') : k = k' ∧ ∀ w, bv w → a w = a' w := by
  have e : k = k' := by
    by_cases q : k < k'
    · exact absurd h.2.1.2.2.1 (h'.2.2 k h.1.1 q a h.2.1.1)
    · by_cases q2 : k' < k
      · exact absurd h'.2.1.2.2.1 (h.2.2 k' h'.1.1 q2 a' h'.2.1.1)
      · omega
  subst e
  refine ⟨rfl, fun w hw => ?_⟩
  have x : ∀ g b : Int → Int, Ext 0 g b := fun g b w w0 w1 => by omega
  exact WinE.uq (g := a) h.2.1 ⟨h'.2.1.1, x _ _, h'.2.1.2.2.1, fun b hb _ hl => h'.2.1.2.2.2 b hb (x _ _) hl⟩ hw
/-- six registers are enough -/
def id6 (s : Int) (v : Int) : Int := if ziand (zishr s v) 1 ≠ 0 then v else -1
theorem id6_ok {s : Int} {f : Int → Int} : Tot s 6 (id6 s) ∧ Vdl f (id6 s) := by
  refine ⟨fun v hv => ⟨fun h => ?_, fun h => if_neg h⟩, fun v w hv w0 w1 h1 h2 => ?_⟩
  · have : id6 s v = v := if_pos h
    unfold bv at hv; omega
  · unfold id6 at h1 h2
    by_cases q : ziand (zishr s v) 1 ≠ 0
    · rw [if_pos q] at h2
      by_cases q2 : ziand (zishr s w) 1 ≠ 0
      · rw [if_pos q2] at h2; omega
      · rw [if_neg q2] at h2; omega
    · rw [if_neg q] at h1; exact absurd rfl h1
theorem fewest_k {f : Int → Int} {K : Int → Sg → Prop} (hf : σ.2.1 85 = f) (k : ∀ r σ', Sx 87 σ σ' → FewE (σ.1 84 4) f r (σ'.2.1 87) → K r σ') : wp5_G_fewest σ K := by
  have x : ∀ g b : Int → Int, Ext 0 g b := fun g b w w0 w1 => by omega
  have pt : ∀ s j : Int, ∀ g, PreT s j 0 g := fun s j g w w0 w1 => by omega
  have pv : ∀ g, PreW f 0 g := fun g x w w0 w1 w2 => by omega
  have win0 : ∀ {s j : Int} {g a : Int → Int}, WinE s j f 0 g a → WinE s j f 0 a a := fun h => ⟨h.1, x _ _, h.2.2.1, fun b hb _ hl => h.2.2.2 b hb (x _ _) hl⟩
  refine wl2_rule (fun (i : Int) (t : Sg) => (0 ≤ i ∧ i ≤ 6) ∧ Sx 87 σ t ∧ ∀ j, 0 ≤ j → j < i → ∀ b, Tot (σ.1 84 4) j b → ¬ Vdl f b) (fun (i : Int) _ => (6 - i).toNat) ?_ ⟨by omega, Sx.refl, fun j j0 j1 => by omega⟩
  rintro P i t ⟨hi, ft, inv⟩ ih
  have e84 : t.1 84 4 = σ.1 84 4 := by rw [ft.1]
  have t85 : t.2.1 85 = f := (ft.2.2 85 (by decide)).trans hf
  refine ⟨fun h6 => ?_, fun h6 => ?_⟩
  · rw [e84]
    refine deal0_k (by decide) (by decide) t85 (pt _ _ _) (pv _) (fun σ' g win => k 6 σ' (ft.trans g) ⟨⟨by decide, by decide⟩, win0 win, fun j j0 j1 => inv j j0 (by omega)⟩) (fun σ' g _ no => absurd (id6_ok (f := f)).2 (no (id6 (σ.1 84 4)) (id6_ok (f := f)).1 (x _ _)))
  · rw [e84]
    refine deal0_k hi.1 (by omega) t85 (pt _ _ _) (pv _) (fun σ' g win => ⟨fun z => absurd z (by decide), fun _ => k i σ' (ft.trans g) ⟨hi, win0 win, inv⟩⟩) (fun σ' g _ no => ⟨fun _ => ⟨rng_small (by omega) (by omega), ih _ _ ⟨by omega, ft.trans g, fun j j0 j1 b hb => ?_⟩ (by omega)⟩, fun z => absurd rfl z⟩)
    by_cases q : j = i
    · rw [q] at hb; exact no b hb (x _ _)
    · exact inv j j0 (by omega) b hb
end F8b
