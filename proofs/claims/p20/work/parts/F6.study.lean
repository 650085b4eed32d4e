-- ===== what study leaves: clashes, the variables present, how often each comes
def cA (A : Int → Int → Prop) (st ys no : Int → Int) (j v w : Int) : Prop := (A j v ∧ A j w) ∨ (bitR (st j) v ∧ (A (ys j) w ∨ A (no j) w)) ∨ (bitR (st j) w ∧ (A (ys j) v ∨ A (no j) v))
theorem AtT_ex {A : Int → Int → Prop} {st ys no : Int → Int} {v w : Int} (hv : bv v) (hw : bv w) : ∀ {T : List ((Int → Prop) × Int × (Int → Prop))} {i : Int}, AtT A st ys no i T → (CX T v w ↔ ∃ j, i ≤ j ∧ j < i + T.length ∧ cA A st ys no j v w)
  | [], i, _ => ⟨fun q => absurd q CX_nil, fun ⟨j, j0, j1, _⟩ => by simp only [List.length_nil] at j1; omega⟩
  | x :: T, i, h => by
    obtain ⟨⟨h1, h2, h3⟩, hT⟩ := h
    have ih := AtT_ex hv hw hT
    have e : cl1 x v w ↔ cA A st ys no i v w := by
      unfold cl1 cA
      rw [h1 v hv, h1 w hw, h2 v hv, h2 w hw]
      constructor
      · rintro (q | ⟨q1, q2⟩ | ⟨q1, q2⟩)
        · exact Or.inl q
        · exact Or.inr (Or.inl ⟨q1, (h3 ⟨v, hv, q1⟩ w hw).mpr q2⟩)
        · exact Or.inr (Or.inr ⟨q1, (h3 ⟨w, hw, q1⟩ v hv).mpr q2⟩)
      · rintro (q | ⟨q1, q2⟩ | ⟨q1, q2⟩)
        · exact Or.inl q
        · exact Or.inr (Or.inl ⟨q1, (h3 ⟨v, hv, q1⟩ w hw).mp q2⟩)
        · exact Or.inr (Or.inr ⟨q1, (h3 ⟨w, hw, q1⟩ v hv).mp q2⟩)
    rw [CX_cons, e, ih]
    simp only [List.length_cons]
    constructor
    · rintro (q | ⟨j, j0, j1, q⟩)
      · exact ⟨i, by omega, by omega, q⟩
      · exact ⟨j, by omega, by omega, q⟩
    · rintro ⟨j, j0, j1, q⟩
      by_cases z : j = i
      · rw [z] at q; exact Or.inl q
      · exact Or.inr ⟨j, by omega, by omega, q⟩
/-- the variables of a row -/
def pres (l : List Int) (w : Int) : Prop := (20 + w) ∈ l ∨ (100 + w) ∈ l
def isCm (v c : Int) : Bool := decide (c = 20 + v ∨ c = 100 + v)
/-- how often a variable comes -/
def cmg (l : List Int) (v : Int) : Int := ((l.filter (isCm v)).length : Int)
theorem cmg_snoc {l : List Int} {c v : Int} : cmg (l ++ [c]) v = cmg l v + (if c = 20 + v ∨ c = 100 + v then 1 else 0) := by
  unfold cmg
  rw [List.filter_append, List.length_append]
  by_cases q : c = 20 + v ∨ c = 100 + v
  · rw [if_pos q, List.filter_cons_of_pos (by unfold isCm; exact decide_eq_true q)]
    simp only [List.filter_nil, List.length_cons, List.length_nil]
    omega
  · rw [if_neg q, List.filter_cons_of_neg (by unfold isCm; rw [decide_eq_true_eq]; exact q)]
    simp only [List.filter_nil, List.length_nil]
    omega
theorem cmg_b {l : List Int} {v : Int} : 0 ≤ cmg l v ∧ cmg l v ≤ l.length := by
  unfold cmg
  have := List.length_filter_le (isCm v) l
  omega
theorem pres_snoc {l : List Int} {c w : Int} : pres (l ++ [c]) w ↔ pres l w ∨ c = 20 + w ∨ c = 100 + w := by
  unfold pres
  simp only [List.mem_append, List.mem_singleton]
  constructor
  · rintro ((q | q) | (q | q))
    · exact Or.inl (Or.inl q)
    · exact Or.inr (Or.inl q.symm)
    · exact Or.inl (Or.inr q)
    · exact Or.inr (Or.inr q.symm)
  · rintro ((q | q) | (q | q))
    · exact Or.inl (Or.inl q)
    · exact Or.inr (Or.inl q)
    · exact Or.inl (Or.inr q.symm)
    · exact Or.inr (Or.inr q.symm)
/-- what study may change beside the FLOW -/
def Gx (σ σ' : Sg) : Prop := (∀ a b, (a ≠ 84 ∨ b ≠ 4) → σ'.1 a b = σ.1 a b) ∧ (∀ a, a ≠ 85 → a ≠ 86 → σ'.2.1 a = σ.2.1 a) ∧ σ'.2.2 = σ.2.2
theorem Gx.refl {σ : Sg} : Gx σ σ := ⟨fun _ _ _ => rfl, fun _ _ _ => rfl, rfl⟩
theorem Gx.trans {σ σ1 σ2 : Sg} (h : Gx σ σ1) (g : Gx σ1 σ2) : Gx σ σ2 := ⟨fun a b z => (g.1 a b z).trans (h.1 a b z), fun a z1 z2 => (g.2.1 a z1 z2).trans (h.2.1 a z1 z2), g.2.2.trans h.2.2⟩
theorem Gx.pF {σ : Sg} {q : Nat} {g : Int → Int} (hq : q = 85 ∨ q = 86) : Gx σ (pF σ q g) := ⟨fun _ _ _ => rfl, fun a z1 z2 => by rw [pF_get, if_neg (by omega)], rfl⟩
theorem Gx.pU {σ : Sg} {v : Int} : Gx σ (pU σ 84 4 v) := ⟨fun a b z => by rw [pU_get, if_neg (by omega)], fun _ _ _ => rfl, rfl⟩
theorem Gx.fq {σ σ' : Sg} (h : Gx σ σ') : Fq q84 No No σ σ' :=
  ⟨fun a z => ⟨funext (fun b => h.1 a b (Or.inl (fun e => z (by rw [e]; exact ⟨by decide, by decide⟩)))), h.2.1 a (fun e => z (by rw [e]; exact ⟨by decide, by decide⟩)) (fun e => z (by rw [e]; exact ⟨by decide, by decide⟩))⟩, fun _ _ => by rw [h.2.2]; exact ⟨rfl, rfl⟩, fun _ _ => by rw [h.2.2], fun _ _ _ => by rw [h.2.2]⟩
section F6
variable {σ : Sg}
theorem setBy_k {qi : Nat} {x : Int} {K : Int → Prop} (h : 0 ≤ x ∧ x < σ.1 qi 1) (h40 : σ.1 qi 1 ≤ 40) (k : K (σ.2.1 (qi + 8) x)) : wp5_F_setBy σ qi x K := isHere_k (fun z => t1 ⟨⟨z.1, z.2.2⟩, k⟩) (fun z => absurd ⟨h.1, h.2, by omega⟩ z)
theorem behind_k {qi : Nat} {x : Int} {K : Int → Prop} (h : 0 ≤ x ∧ x < σ.1 qi 1) (h40 : σ.1 qi 1 ≤ 40) (k : K (zior (ahv (σ.2.1 (qi + 9)) (σ.1 qi 1) (σ.2.1 (qi + 5) x)) (ahv (σ.2.1 (qi + 9)) (σ.1 qi 1) (σ.2.1 (qi + 6) x)))) : wp5_F_behind σ qi x K :=
  isHere_k (fun z => t1 ⟨⟨z.1, z.2.2⟩, aheadOf_k rfl h40 (aheadOf_k rfl h40 k)⟩) (fun z => absurd ⟨h.1, h.2, by omega⟩ z)
theorem count_k {K : Sg → Prop} {c : Int} {S : Int → Prop} {g : Int → Int} (hc : -1 ≤ c ∧ c ≤ 200) (hS : BS (σ.1 84 4) S) (hg : ∀ v, bv v → σ.2.1 86 v = g v) (gb : ∀ v, bv v → 0 ≤ g v ∧ g v ≤ 5000) (k : ∀ σ', Gx σ σ' → σ'.2.1 85 = σ.2.1 85 → BS (σ'.1 84 4) (fun w => S w ∨ c = 20 + w ∨ c = 100 + w) → (∀ v, bv v → σ'.2.1 86 v = g v + (if c = 20 + v ∨ c = 100 + v then 1 else 0)) → K σ') : wp5_G_count σ c K := by
  have c29 : ∀ v, bv v → (∀ w, bv w → ((c = 20 + w ∨ c = 100 + w) ↔ w = v)) → wp5_G_count_29 K σ v := by
    intro v hv hcv
    refine isVariable_k (fun hv' => t1 ⟨⟨hv'.1, by omega⟩, ?_, ?_⟩) (fun z => absurd hv z)
    · have := gb v hv
      rw [hg v hv]
      exact rng_small (by omega) (by omega)
    · refine k _ ((Gx.pF (Or.inr rfl)).trans Gx.pU) rfl ?_ (fun w hw => ?_)
      · have e : (pU (pF σ 86 (uZ (σ.2.1 86) v ((σ.2.1 86 v) + 1))) 84 4 (zior (σ.1 84 4) (zishl 1 v))).1 84 4 = zior (σ.1 84 4) (zishl 1 v) := by rw [pU_get, if_pos ⟨rfl, rfl⟩]
        rw [e]
        exact (hS.or (one_bs hv)).congr (fun w hw => ⟨fun q => q.imp id (fun q => (hcv w hw).mpr q.symm), fun q => q.imp id (fun q => ((hcv w hw).mp q).symm)⟩)
      · show (pF σ 86 (uZ (σ.2.1 86) v ((σ.2.1 86 v) + 1))).2.1 86 w = _
        rw [pF_get, if_pos rfl]
        by_cases q : w = v
        · rw [if_pos ((hcv w hw).mpr q), q, uZ_eq, hg v hv]
        · rw [if_neg (fun z => q ((hcv w hw).mp z)), uZ_ne q, hg w hw]; omega
  have nov : (∀ w, bv w → ¬ (c = 20 + w ∨ c = 100 + w)) → wp5_G_count_29 K σ (-1) := fun hn =>
    isVariable_k (fun hv => absurd hv.1 (by decide)) (fun _ => t0 (k σ Gx.refl rfl (hS.congr (fun w hw => ⟨Or.inl, fun q => q.elim id (fun q => absurd q (hn w hw))⟩)) (fun v hv => by rw [if_neg (hn v hv), hg v hv]; omega)))
  refine isSet_k (fun q => t1 ⟨rng_small (by omega) (by omega), c29 _ ⟨by omega, by omega⟩ (fun w hw => ?_)⟩) (fun q1 => t0 (isRead_k (fun q => t1 ⟨rng_small (by omega) (by omega), c29 _ ⟨by omega, by omega⟩ (fun w hw => ?_)⟩) (fun q2 => t0 (nov (fun w hw z => ?_)))))
  · unfold bv at hw; omega
  · unfold bv at hw; omega
  · unfold bv at hw; omega
/-- study, in closed form -/
def Std (l : List Int) (σ' : Sg) : Prop := Mx (σ'.2.1 85) (CX (CT l NoV)) ∧ BS (σ'.1 84 4) (pres l) ∧ ∀ v, bv v → σ'.2.1 86 v = cmg l v
theorem study_k {K : Sg → Prop} {n : Int} {l : List Int} (h : RowL σ n l) (hl : Sq l) (h40 : cs l ≤ 40) (hp : cp l ≤ 300) (k : ∀ σ', Fq q84 No No σ σ' → Std l σ' → K σ') : wp5_G_study σ n K := by
  have lb := hl.len
  refine trace_k h hl h40 (by omega) (fun σ1 t f => ?_)
  have f1 : Fq q84 No No σ σ1 := f.mono (fun a z => by unfold fl at z; unfold q84; omega) (fun _ z => z) (fun _ z => z)
  obtain ⟨t0', tc, -, -, -, -, tr, ts, ty, tn, tb, tA⟩ := t
  have hlen : ∀ s, Gx σ1 s → RowL s n l := fun s g => (h.fr f1 (fun z => z)).of22 g.2.2
  have cnt : ∀ s, Gx σ1 s → s.1 88 1 = (cs l : Int) := fun s g => by rw [g.1 88 1 (by omega)]; exact tc
  have ar : ∀ s, Gx σ1 s → ∀ a, 88 ≤ a → s.2.1 a = σ1.2.1 a := fun s g a ha => g.2.1 a (by omega) (by omega)
  have hst : ∀ j, 0 ≤ j → j < (cs l : Int) → b63 (σ1.2.1 96 j) := fun j j0 j1 => At_all ts (fun c hc => by
    obtain ⟨x, hx, rfl⟩ := List.mem_map.mp hc
    exact (nm_b63 hl 0 x hx).2) j j0 (by rw [List.length_map, nmL_len hl]; omega)
  have ahb : ∀ x, b63 (ahv (σ1.2.1 97) (cs l : Int) x) := fun x => ahv_b tb x
  have hT : AtT (Cof (CL l NoV)) (σ1.2.1 96) (σ1.2.1 93) (σ1.2.1 94) 0 (CT l NoV) := ct_eq (rd := σ1.2.1 95) (fun w q => absurd q.1 (by decide)) hl 0 0 (-1) NoV ⟨tr, ts, ty, tn⟩ (fun w => ⟨fun q => absurd q.1 (by decide), fun q => q.elim⟩) (Cof_at _ [] rfl)
  have fin : ∀ v w, bv v → bv w → (CX (CT l NoV) v w ↔ ∃ j, 0 ≤ j ∧ j < (cs l : Int) ∧ cA (AhP (σ1.2.1 97) (cs l : Int)) (σ1.2.1 96) (σ1.2.1 93) (σ1.2.1 94) j v w) := by
    intro v w hv hw
    rw [AtT_ex hv hw hT, CT_len hl]
    have eA : ∀ j, cA (Cof (CL l NoV)) (σ1.2.1 96) (σ1.2.1 93) (σ1.2.1 94) j v w ↔ cA (AhP (σ1.2.1 97) (cs l : Int)) (σ1.2.1 96) (σ1.2.1 93) (σ1.2.1 94) j v w := fun j => by
      unfold cA
      rw [← tA j v hv, ← tA j w hw, ← tA _ v hv, ← tA _ v hv, ← tA _ w hw, ← tA _ w hw]
    constructor
    · rintro ⟨j, j0, j1, q⟩
      exact ⟨j, j0, by omega, (eA j).mp q⟩
    · rintro ⟨j, j0, j1, q⟩
      exact ⟨j, j0, by omega, (eA j).mpr q⟩
  refine wl2_rule (fun (i : Int) (s : Sg) => (0 ≤ i ∧ i ≤ 6) ∧ Gx σ1 s ∧ s.1 84 4 = 0 ∧ ∀ v : Int, 0 ≤ v → v < i → s.2.1 85 v = 0 ∧ s.2.1 86 v = 0) (fun (i : Int) _ => (6 - i).toNat) ?_ ⟨by omega, Gx.pU, by rw [pU_get, if_pos ⟨rfl, rfl⟩], fun v v0 v1 => by omega⟩
  rintro P i s ⟨hi, fs, hp0, hz⟩ ih
  refine ⟨fun h6 => ?_, fun hlt => ⟨⟨hi.1, hlt⟩, rng_small (by omega) (by omega), ih _ _ ⟨by omega, (fs.trans (Gx.pF (Or.inl rfl))).trans (Gx.pF (Or.inr rfl)), hp0, fun v v0 v1 => ?_⟩ (by omega)⟩⟩
  · refine wl2_rule (fun (i : Int) (s : Sg) => (0 ≤ i ∧ i ≤ l.length) ∧ Gx σ1 s ∧ (∀ v, bv v → s.2.1 85 v = 0) ∧ BS (s.1 84 4) (pres (l.take i.toNat)) ∧ ∀ v, bv v → s.2.1 86 v = cmg (l.take i.toNat) v) (fun (i : Int) _ => ((l.length : Int) - i).toNat) ?_ ⟨by omega, fs, fun v hv => (hz v hv.1 (by unfold bv at hv; omega)).1, by rw [hp0]; exact BS.z.congr (fun w _ => ⟨fun q => q.elim, fun q => q.elim (fun z => absurd z List.not_mem_nil) (fun z => absurd z List.not_mem_nil)⟩), fun v hv => (hz v hv.1 (by unfold bv at hv; omega)).2⟩
    rintro P2 i s ⟨hi, fs, hcl, hpr, hcm⟩ ih2
    have hr := hlen s fs
    have el := hr.2.2.1
    refine ⟨fun hge => ?_, fun hlt2 => ?_⟩
    · have ei : i.toNat = l.length := by omega
      rw [ei, List.take_length] at hpr hcm
      refine wl2_rule (fun (i : Int) (s : Sg) => (0 ≤ i ∧ i ≤ (cs l : Int)) ∧ Gx σ1 s ∧ Mx (s.2.1 85) (fun v w => ∃ j, 0 ≤ j ∧ j < i ∧ cA (AhP (σ1.2.1 97) (cs l : Int)) (σ1.2.1 96) (σ1.2.1 93) (σ1.2.1 94) j v w) ∧ BS (s.1 84 4) (pres l) ∧ ∀ v, bv v → s.2.1 86 v = cmg l v) (fun (i : Int) _ => ((cs l : Int) - i).toNat) ?_ ⟨by omega, fs, fun v hv => by rw [hcl v hv]; exact ⟨b63_0, fun w hw => ⟨fun q => absurd q (no0 hw), fun ⟨_, j, j0, j1, _⟩ => by omega⟩⟩, hpr, hcm⟩
      rintro P3 i s ⟨hi, fs, hm, hpr, hcm⟩ ih3
      have c88 := cnt s fs
      have a97 := ar s fs 97 (by decide)
      refine ⟨fun hge3 => k s (f1.trans fs.fq) ⟨hm.congr (fun v w hv hw _ => ?_), hpr, hcm⟩, fun hlt3 => ?_⟩
      · rw [fin v w hv hw]
        constructor
        · rintro ⟨j, j0, j1, q⟩; exact ⟨j, j0, by omega, q⟩
        · rintro ⟨j, j0, j1, q⟩; exact ⟨j, j0, by omega, q⟩
      · have hlt3' : i < (cs l : Int) := by omega
        refine aheadOf_k c88 (by omega) (aheadOf_k c88 (by omega) ?_)
        show wp5_G_noteClashes s (ahv (s.2.1 97) (cs l : Int) i) (ahv (s.2.1 97) (cs l : Int) i) _
        rw [a97]
        refine noteClashes_k (ahb i) (ahb i) hm (fun s1 g1 m1 => ?_)
        have fs1 : Gx σ1 s1 := fs.trans ⟨fun a b _ => by rw [g1.1], fun a z _ => g1.2.2 a z, g1.2.1⟩
        have c1 := cnt s1 fs1
        refine setBy_k ⟨hi.1, by omega⟩ (by omega) (behind_k ⟨hi.1, by omega⟩ (by omega) ?_)
        show wp5_G_noteClashes s1 (s1.2.1 96 i) (zior (ahv (s1.2.1 97) (s1.1 88 1) (s1.2.1 93 i)) (ahv (s1.2.1 97) (s1.1 88 1) (s1.2.1 94 i))) _
        rw [ar s1 fs1 96 (by decide), ar s1 fs1 97 (by decide), ar s1 fs1 93 (by decide), ar s1 fs1 94 (by decide), c1]
        have ob := or63 (ahb (σ1.2.1 93 i)) (ahb (σ1.2.1 94 i))
        refine noteClashes_k (hst i hi.1 hlt3') ob.1 m1 (fun s2 g2 m2 => ⟨rng_small (by omega) (by omega), ih3 _ _ ⟨by omega, fs1.trans ⟨fun a b _ => by rw [g2.1], fun a z _ => g2.2.2 a z, g2.2.1⟩, m2.congr (fun v w hv hw _ => ?_), by rw [g2.1, g1.1]; exact hpr, fun v hv => by rw [g2.2.2 86 (by decide), g1.2.2 86 (by decide)]; exact hcm v hv⟩ (by omega)⟩)
        unfold nz
        rw [ob.2 v hv, ob.2 w hw]
        constructor
        · rintro ((⟨j, j0, j1, q⟩ | q) | q)
          · exact ⟨j, j0, by omega, q⟩
          · exact ⟨i, hi.1, by omega, Or.inl (q.elim id id)⟩
          · exact ⟨i, hi.1, by omega, Or.inr (q.imp id (fun q => ⟨q.2, q.1⟩))⟩
        · rintro ⟨j, j0, j1, q⟩
          by_cases e : j = i
          · rw [e] at q
            rcases q with q | q
            · exact Or.inl (Or.inr (Or.inl q))
            · exact Or.inr (q.imp id (fun q => ⟨q.2, q.1⟩))
          · exact Or.inl (Or.inl ⟨j, j0, by omega, q⟩)
    · obtain ⟨pre, c, post, e, hpn⟩ := at_split (l := l) (k := i.toNat) (by omega)
      have ei : i = pre.length := by omega
      have hc := sq_small hl c (by rw [e]; exact List.mem_append_right _ List.mem_cons_self)
      have tk1 : l.take i.toNat = pre := by rw [e, show i.toNat = pre.length by omega, List.take_left]
      have tk2 : l.take (i + 1).toNat = pre ++ [c] := by
        rw [show (i + 1).toNat = pre.length + 1 by omega, e, show pre ++ c :: post = (pre ++ [c]) ++ post by simp, List.take_left' (by simp)]
      rw [tk1] at hpr hcm
      have lp : (pre.length : Int) ≤ 460 := by omega
      refine cell_get hr ?_
      rw [show getI l i = c by rw [ei, e, getI_mid]]
      refine count_k ⟨by omega, hc.2⟩ hpr hcm (fun v hv => by have := cmg_b (l := pre) (v := v); omega) (fun s' g' e85 hS' hg' => ⟨rng_small (by omega) (by omega), ih2 _ _ ⟨by omega, fs.trans g', fun v hv => by rw [e85]; exact hcl v hv, by rw [tk2]; exact hS'.congr (fun w _ => pres_snoc.symm), fun v hv => by rw [tk2, cmg_snoc]; exact hg' v hv⟩ (by omega)⟩)
  · show (pF (pF s 85 (uZ (s.2.1 85) i 0)) 86 (uZ (s.2.1 86) i 0)).2.1 85 v = 0 ∧ (pF (pF s 85 (uZ (s.2.1 85) i 0)) 86 (uZ (s.2.1 86) i 0)).2.1 86 v = 0
    rw [pF_get, if_neg (by decide), pF_get, if_pos rfl, pF_get, if_pos rfl]
    unfold uZ
    by_cases q : v = i
    · rw [if_pos q, if_pos q]; exact ⟨rfl, rfl⟩
    · rw [if_neg q, if_neg q]; exact hz v v0 (by omega)
end F6
