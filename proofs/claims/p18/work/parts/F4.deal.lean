-- ===== registers and clash come back, and leave alone what others show
def q84 (a : Nat) : Prop := 84 ≤ a ∧ a ≤ 100
theorem Sx.fq84 {k : Nat} {σ σ' : Sg} (h : Sx k σ σ') (hk : 84 ≤ k ∧ k ≤ 100) : Fq q84 No No σ σ' :=
  ⟨fun a z => ⟨by rw [h.1], h.2.2 a (fun e => z (by rw [e]; exact hk))⟩, fun _ _ => by rw [h.2.1]; exact ⟨rfl, rfl⟩, fun _ _ => by rw [h.2.1], fun _ _ _ => by rw [h.2.1]⟩
theorem fq84U {σ : Sg} {j : Nat} {v : Int} : Fq q84 No No σ (pU σ 84 j v) :=
  ⟨fun a z => ⟨funext (fun b => by rw [pU_get, if_neg (fun e => z (by rw [e.1]; exact ⟨by decide, by decide⟩))]), rfl⟩, fun _ _ => ⟨rfl, rfl⟩, fun _ _ => rfl, fun _ _ _ => rfl⟩
section F4
variable {σ : Sg}
theorem ahead_any {qi : Nat} {x : Int} {K : Int → Prop} (k : ∀ v, K v) : wp5_F_aheadOf σ qi x K := isHere_k (fun z => t1 ⟨⟨z.1, z.2.2⟩, k _⟩) (fun _ => t0 (k _))
theorem setBy_any {qi : Nat} {x : Int} {K : Int → Prop} (k : ∀ v, K v) : wp5_F_setBy σ qi x K := isHere_k (fun z => t1 ⟨⟨z.1, z.2.2⟩, k _⟩) (fun _ => t0 (k _))
theorem behind_any {qi : Nat} {x : Int} {K : Int → Prop} (k : ∀ v, K v) : wp5_F_behind σ qi x K := isHere_k (fun z => t1 ⟨⟨z.1, z.2.2⟩, ahead_any (fun _ => ahead_any (fun _ => k _))⟩) (fun _ => t0 (k _))
theorem noteClashes_any {K : Sg → Prop} {x y : Int} (k : ∀ σ', Sx 85 σ σ' → K σ') : wp5_G_noteClashes σ x y K := by
  refine wl2_rule (fun (i : Int) (s : Sg) => (0 ≤ i ∧ i ≤ 6) ∧ Sx 85 σ s) (fun (i : Int) _ => (6 - i).toNat) ?_ ⟨by omega, Sx.refl⟩
  rintro P i s ⟨hi, f⟩ ih
  have nx : i < 6 → ∀ s', Sx 85 σ s' → wp5_G_noteClashes_35 x y i P s' := fun h6 s' f' => ⟨fun _ => ⟨rng_small (by omega) (by omega), ih _ _ ⟨by omega, f'⟩ (by omega)⟩, fun _ => ⟨⟨hi.1, h6⟩, rng_small (by omega) (by omega), ih _ _ ⟨by omega, f'.trans Sx_pF⟩ (by omega)⟩⟩
  exact ⟨fun _ => k s f, fun h6 => ⟨fun _ => nx h6 s f, fun _ => ⟨⟨hi.1, h6⟩, nx h6 _ (f.trans Sx_pF)⟩⟩⟩
/-- how often each variable comes, bounded -/
def Cm (σ : Sg) (b : Int) : Prop := ∀ v : Int, 0 ≤ v → v ≤ 5 → 0 ≤ σ.2.1 86 v ∧ σ.2.1 86 v ≤ b
theorem Cm.sx {σ' : Sg} {b : Int} {k : Nat} (h : Cm σ b) (f : Sx k σ σ') (hk : k ≠ 86) : Cm σ' b := by
  intro v v0 v5
  rw [f.2.2 86 (fun e => hk e.symm)]
  exact h v v0 v5
theorem sq_small {l : List Int} (hl : Sq l) : ∀ c ∈ l, 0 ≤ c ∧ c ≤ 200 := by
  have ex : ∀ {e : List Int}, Ex lfR e → ∀ c ∈ e, 0 ≤ c ∧ c ≤ 200 := by
    intro e he c hc
    have := he.all c hc
    unfold lfR opC at this
    omega
  refine Sq.ind (P := fun l => ∀ c ∈ l, 0 ≤ c ∧ c ≤ 200) (fun c hc => absurd hc List.not_mem_nil) ?_ hl
  intro s r hs hr ih c hc
  rcases List.mem_append.mp hc with q | q
  · rcases hs with ⟨v, e, hv, he, rfl⟩ | rfl | ⟨t, a, b, B, C, ht, hA, hB, hb, hcc, rfl⟩ | ⟨t, a, b, B, ht, hA, hB, hb, rfl⟩
    · unfold setC at hv
      rcases List.mem_cons.mp q with q | q
      · omega
      · exact ex he c q
    · have := List.mem_singleton.mp q
      omega
    · unfold testC at ht
      simp only [List.mem_cons, List.mem_append, List.not_mem_nil, or_false] at q
      rcases q with q | q | q | q | q | q | q | q
      · omega
      · omega
      · exact ex hA c q
      · exact ex hB c q
      · exact hb.2 c q
      · omega
      · exact hcc.2 c q
      · omega
    · unfold testC at ht
      simp only [List.mem_cons, List.mem_append, List.not_mem_nil, or_false] at q
      rcases q with q | q | q | q | q | q
      · omega
      · omega
      · exact ex hA c q
      · exact ex hB c q
      · exact hb.2 c q
      · omega
  · exact ih c q
theorem getI_small {l : List Int} (hl : Sq l) (i : Int) : -1 ≤ getI l i ∧ getI l i ≤ 200 := by
  by_cases q : 0 ≤ i ∧ i < l.length
  · obtain ⟨pre, c, post, e, hp⟩ := at_split (l := l) (k := i.toNat) (by omega)
    have ei : i = pre.length := by omega
    have hc := sq_small hl c (by rw [e]; exact List.mem_append_right _ List.mem_cons_self)
    rw [ei, e, getI_mid]
    omega
  · rw [getI_out q]; omega
theorem count_any {K : Sg → Prop} {c b : Int} (hc : -1 ≤ c ∧ c ≤ 200) (hb : 0 ≤ b ∧ b ≤ 5000) (h : Cm σ b) (k : ∀ σ', Fq q84 No No σ σ' → σ'.1 88 = σ.1 88 → Cm σ' (b + 1) → K σ') : wp5_G_count σ c K := by
  have c29 : ∀ v, wp5_G_count_29 K σ v := by
    intro v
    refine isVariable_k (fun hv => t1 ⟨⟨hv.1, by omega⟩, ?_, ?_⟩) (fun _ => t0 (k σ Fq.refl rfl (fun v v0 v5 => by have := h v v0 v5; omega)))
    · have := h v hv.1 hv.2
      exact rng_small (by omega) (by omega)
    · refine k _ (((Sx_pF (q := 86)).fq84 ⟨by decide, by decide⟩).trans fq84U) (funext (fun j => by rw [pU_get, if_neg (by omega)]; rfl)) (fun w w0 w5 => ?_)
      show 0 ≤ (pF σ 86 (uZ (σ.2.1 86) v (σ.2.1 86 v + 1))).2.1 86 w ∧ (pF σ 86 (uZ (σ.2.1 86) v (σ.2.1 86 v + 1))).2.1 86 w ≤ b + 1
      rw [pF_get, if_pos rfl]
      unfold uZ
      have h1 := h v hv.1 hv.2
      have h2 := h w w0 w5
      by_cases q : w = v
      · rw [if_pos q]; omega
      · rw [if_neg q]; omega
  exact isSet_k (fun q => t1 ⟨rng_small (by omega) (by omega), c29 _⟩) (fun _ => t0 (isRead_k (fun q => t1 ⟨rng_small (by omega) (by omega), c29 _⟩) (fun _ => t0 (c29 _))))
theorem study_any {K : Sg → Prop} {n : Int} {l : List Int} (h : RowL σ n l) (hl : Sq l) (h40 : cs l ≤ 40) (hp : cp l ≤ 300) (k : ∀ σ', Fq q84 No No σ σ' → Cm σ' 480 → K σ') : wp5_G_study σ n K := by
  have lb := hl.len
  refine trace_k h hl h40 (by omega) (fun σ1 t f => ?_)
  have f1 : Fq q84 No No σ (pU σ1 84 4 0) := (f.mono (fun a z => by unfold fl at z; unfold q84; omega) (fun _ z => z) (fun _ z => z)).trans fq84U
  have e88 : (pU σ1 84 4 0).1 88 1 = (cs l : Int) := by rw [pU_get, if_neg (by omega)]; exact t.2.1
  refine wl2_rule (fun (i : Int) (s : Sg) => (0 ≤ i ∧ i ≤ 6) ∧ Fq q84 No No σ s ∧ s.1 88 1 = (cs l : Int) ∧ ∀ v : Int, 0 ≤ v → v < i → s.2.1 86 v = 0) (fun (i : Int) _ => (6 - i).toNat) ?_ ⟨by omega, f1, e88, fun v v0 v1 => by omega⟩
  rintro P i s ⟨hi, fs, h88, hz⟩ ih
  refine ⟨fun h6 => ?_, fun hlt => ⟨⟨hi.1, hlt⟩, rng_small (by omega) (by omega), ih _ _ ⟨by omega, (fs.trans ((Sx_pF (q := 85)).fq84 ⟨by decide, by decide⟩)).trans ((Sx_pF (q := 86)).fq84 ⟨by decide, by decide⟩), h88, fun v v0 v1 => ?_⟩ (by omega)⟩⟩
  · refine wl2_rule (fun (i : Int) (s : Sg) => (0 ≤ i ∧ i ≤ l.length) ∧ Fq q84 No No σ s ∧ s.1 88 1 = (cs l : Int) ∧ Cm s i) (fun (i : Int) _ => ((l.length : Int) - i).toNat) ?_ ⟨by omega, fs, h88, fun v v0 v5 => by rw [hz v v0 (by omega)]; exact ⟨by decide, by decide⟩⟩
    rintro P2 i s ⟨hi, fs, h88, hc⟩ ih2
    have hr := h.fr fs (fun z => z)
    have el := hr.2.2.1
    refine ⟨fun _ => ?_, fun hlt2 => ?_⟩
    · refine wl2_rule (fun (i : Int) (s : Sg) => (0 ≤ i ∧ i ≤ 41) ∧ s.1 88 1 = (cs l : Int) ∧ Fq q84 No No σ s ∧ Cm s 480) (fun (i : Int) _ => (41 - i).toNat) ?_ ⟨by omega, h88, fs, fun v v0 v5 => by have := hc v v0 v5; omega⟩
      rintro P3 i s ⟨hi, h88, fs, hc⟩ ih3
      exact ⟨fun _ => k s fs hc, fun hlt3 => ahead_any (fun _ => ahead_any (fun _ => noteClashes_any (fun s1 g1 => setBy_any (fun _ => behind_any (fun _ => noteClashes_any (fun s2 g2 => ⟨rng_small (by omega) (by omega), ih3 _ _ ⟨by omega, by rw [g2.1, g1.1]; exact h88, (fs.trans (g1.fq84 ⟨by decide, by decide⟩)).trans (g2.fq84 ⟨by decide, by decide⟩), (hc.sx g1 (by decide)).sx g2 (by decide)⟩ (by omega)⟩))))))⟩
    · exact cell_get hr (count_any (getI_small hl i) ⟨by omega, by omega⟩ hc (fun s' f' e' hc' => ⟨rng_small (by omega) (by omega), ih2 _ _ ⟨by omega, fs.trans f', by rw [e']; exact h88, hc'⟩ (by omega)⟩))
  · show (pF (pF s 85 _) 86 (uZ (s.2.1 86) i 0)).2.1 86 v = 0
    rw [pF_get, if_pos rfl]
    unfold uZ
    by_cases q : v = i
    · rw [if_pos q]
    · rw [if_neg q]; exact hz v v0 (by omega)
theorem clashing_any {x y : Int} {K : Int → Prop} (k : ∀ v, (v = 0 ∨ v = 1) → K v) : wp5_G_clashing σ x y K :=
  isVariable_k (fun h => t1 (isVariable_k (fun _ => t1 ⟨⟨h.1, by omega⟩, fun _ => k _ (Or.inl rfl), fun _ => k _ (Or.inr rfl)⟩) (fun _ => t0 (k _ (Or.inl rfl))))) (fun _ => t0 (k _ (Or.inl rfl)))
theorem isFree_any {x y : Int} {K : Int → Prop} (k : ∀ v, (v = 0 ∨ v = 1) → K v) : wp5_G_isFree σ x y K := by
  refine wl1_rule (fun (i : Int) => 0 ≤ i ∧ i ≤ 6) (fun (i : Int) => (6 - i).toNat) ?_ (by omega)
  rintro P i hi ih
  have nx : i < 6 → rng (i + 1) ∧ P (i + 1) := fun h => ⟨rng_small (by omega) (by omega), ih _ (by omega) (by omega)⟩
  exact ⟨fun _ => k _ (Or.inr rfl), fun _ => ⟨fun _ => k _ (Or.inr rfl), fun h6 => ⟨⟨hi.1, h6⟩, fun _ => nx h6, fun _ => clashing_any (fun v hv => ⟨fun _ => nx h6, fun _ => k _ (Or.inl rfl)⟩)⟩⟩⟩
theorem deal6_any {s m : Int} {K : Int → Sg → Prop} (k : ∀ v σ', (v = 0 ∨ v = 1) → Sx 87 σ σ' → K v σ') : wp5_G_deal6 σ s m K :=
  isVariable_k (fun h => absurd h.2 (by decide)) (fun _ => u0 (k 1 σ (Or.inr rfl) Sx.refl))
theorem deal5_any {s m : Int} (hm : m ≤ 100) {K : Int → Sg → Prop} (k : ∀ v σ', (v = 0 ∨ v = 1) → Sx 87 σ σ' → K v σ') : wp5_G_deal5 σ s m K := by
  refine isVariable_k (fun _ => u1 ⟨fun _ => ?_, fun _ => deal6_any (fun v σ1 hv f => ⟨hv, k v σ1 hv (Sx_pF.trans f)⟩)⟩) (fun _ => u0 (k 1 σ (Or.inr rfl) Sx.refl))
  refine wl2_rule (fun (i : Int) (s : Sg) => 0 ≤ i ∧ Sx 87 σ s) (fun (i : Int) _ => (m - i).toNat) ?_ ⟨Int.le_refl 0, Sx_pF⟩
  rintro P i s ⟨hi, f⟩ ih
  exact ⟨fun _ => k 0 _ (Or.inl rfl) (f.trans Sx_pF), fun hlt => isFree_any (fun v hv => ⟨fun _ => ⟨rng_small (by omega) (by omega), ih _ _ ⟨by omega, f⟩ (by omega)⟩, fun _ => deal6_any (fun w s' hw g => ⟨fun _ => ⟨rng_small (by omega) (by omega), ih _ _ ⟨by omega, f.trans (Sx_pF.trans g)⟩ (by omega)⟩, fun _ => k 1 s' (Or.inr rfl) (f.trans (Sx_pF.trans g))⟩)⟩)⟩
theorem deal4_any {s m : Int} (hm : m ≤ 100) {K : Int → Sg → Prop} (k : ∀ v σ', (v = 0 ∨ v = 1) → Sx 87 σ σ' → K v σ') : wp5_G_deal4 σ s m K := by
  refine isVariable_k (fun _ => u1 ⟨fun _ => ?_, fun _ => deal5_any hm (fun v σ1 hv f => ⟨hv, k v σ1 hv (Sx_pF.trans f)⟩)⟩) (fun _ => u0 (k 1 σ (Or.inr rfl) Sx.refl))
  refine wl2_rule (fun (i : Int) (s : Sg) => 0 ≤ i ∧ Sx 87 σ s) (fun (i : Int) _ => (m - i).toNat) ?_ ⟨Int.le_refl 0, Sx_pF⟩
  rintro P i s ⟨hi, f⟩ ih
  exact ⟨fun _ => k 0 _ (Or.inl rfl) (f.trans Sx_pF), fun hlt => isFree_any (fun v hv => ⟨fun _ => ⟨rng_small (by omega) (by omega), ih _ _ ⟨by omega, f⟩ (by omega)⟩, fun _ => deal5_any hm (fun w s' hw g => ⟨fun _ => ⟨rng_small (by omega) (by omega), ih _ _ ⟨by omega, f.trans (Sx_pF.trans g)⟩ (by omega)⟩, fun _ => k 1 s' (Or.inr rfl) (f.trans (Sx_pF.trans g))⟩)⟩)⟩
theorem deal3_any {s m : Int} (hm : m ≤ 100) {K : Int → Sg → Prop} (k : ∀ v σ', (v = 0 ∨ v = 1) → Sx 87 σ σ' → K v σ') : wp5_G_deal3 σ s m K := by
  refine isVariable_k (fun _ => u1 ⟨fun _ => ?_, fun _ => deal4_any hm (fun v σ1 hv f => ⟨hv, k v σ1 hv (Sx_pF.trans f)⟩)⟩) (fun _ => u0 (k 1 σ (Or.inr rfl) Sx.refl))
  refine wl2_rule (fun (i : Int) (s : Sg) => 0 ≤ i ∧ Sx 87 σ s) (fun (i : Int) _ => (m - i).toNat) ?_ ⟨Int.le_refl 0, Sx_pF⟩
  rintro P i s ⟨hi, f⟩ ih
  exact ⟨fun _ => k 0 _ (Or.inl rfl) (f.trans Sx_pF), fun hlt => isFree_any (fun v hv => ⟨fun _ => ⟨rng_small (by omega) (by omega), ih _ _ ⟨by omega, f⟩ (by omega)⟩, fun _ => deal4_any hm (fun w s' hw g => ⟨fun _ => ⟨rng_small (by omega) (by omega), ih _ _ ⟨by omega, f.trans (Sx_pF.trans g)⟩ (by omega)⟩, fun _ => k 1 s' (Or.inr rfl) (f.trans (Sx_pF.trans g))⟩)⟩)⟩
theorem deal2_any {s m : Int} (hm : m ≤ 100) {K : Int → Sg → Prop} (k : ∀ v σ', (v = 0 ∨ v = 1) → Sx 87 σ σ' → K v σ') : wp5_G_deal2 σ s m K := by
  refine isVariable_k (fun _ => u1 ⟨fun _ => ?_, fun _ => deal3_any hm (fun v σ1 hv f => ⟨hv, k v σ1 hv (Sx_pF.trans f)⟩)⟩) (fun _ => u0 (k 1 σ (Or.inr rfl) Sx.refl))
  refine wl2_rule (fun (i : Int) (s : Sg) => 0 ≤ i ∧ Sx 87 σ s) (fun (i : Int) _ => (m - i).toNat) ?_ ⟨Int.le_refl 0, Sx_pF⟩
  rintro P i s ⟨hi, f⟩ ih
  exact ⟨fun _ => k 0 _ (Or.inl rfl) (f.trans Sx_pF), fun hlt => isFree_any (fun v hv => ⟨fun _ => ⟨rng_small (by omega) (by omega), ih _ _ ⟨by omega, f⟩ (by omega)⟩, fun _ => deal3_any hm (fun w s' hw g => ⟨fun _ => ⟨rng_small (by omega) (by omega), ih _ _ ⟨by omega, f.trans (Sx_pF.trans g)⟩ (by omega)⟩, fun _ => k 1 s' (Or.inr rfl) (f.trans (Sx_pF.trans g))⟩)⟩)⟩
theorem deal1_any {s m : Int} (hm : m ≤ 100) {K : Int → Sg → Prop} (k : ∀ v σ', (v = 0 ∨ v = 1) → Sx 87 σ σ' → K v σ') : wp5_G_deal1 σ s m K := by
  refine isVariable_k (fun _ => u1 ⟨fun _ => ?_, fun _ => deal2_any hm (fun v σ1 hv f => ⟨hv, k v σ1 hv (Sx_pF.trans f)⟩)⟩) (fun _ => u0 (k 1 σ (Or.inr rfl) Sx.refl))
  refine wl2_rule (fun (i : Int) (s : Sg) => 0 ≤ i ∧ Sx 87 σ s) (fun (i : Int) _ => (m - i).toNat) ?_ ⟨Int.le_refl 0, Sx_pF⟩
  rintro P i s ⟨hi, f⟩ ih
  exact ⟨fun _ => k 0 _ (Or.inl rfl) (f.trans Sx_pF), fun hlt => isFree_any (fun v hv => ⟨fun _ => ⟨rng_small (by omega) (by omega), ih _ _ ⟨by omega, f⟩ (by omega)⟩, fun _ => deal2_any hm (fun w s' hw g => ⟨fun _ => ⟨rng_small (by omega) (by omega), ih _ _ ⟨by omega, f.trans (Sx_pF.trans g)⟩ (by omega)⟩, fun _ => k 1 s' (Or.inr rfl) (f.trans (Sx_pF.trans g))⟩)⟩)⟩
theorem deal0_any {s m : Int} (hm : m ≤ 100) {K : Int → Sg → Prop} (k : ∀ v σ', (v = 0 ∨ v = 1) → Sx 87 σ σ' → K v σ') : wp5_G_deal0 σ s m K := by
  refine isVariable_k (fun _ => u1 ⟨fun _ => ?_, fun _ => deal1_any hm (fun v σ1 hv f => ⟨hv, k v σ1 hv (Sx_pF.trans f)⟩)⟩) (fun _ => u0 (k 1 σ (Or.inr rfl) Sx.refl))
  refine wl2_rule (fun (i : Int) (s : Sg) => 0 ≤ i ∧ Sx 87 σ s) (fun (i : Int) _ => (m - i).toNat) ?_ ⟨Int.le_refl 0, Sx_pF⟩
  rintro P i s ⟨hi, f⟩ ih
  exact ⟨fun _ => k 0 _ (Or.inl rfl) (f.trans Sx_pF), fun hlt => isFree_any (fun v hv => ⟨fun _ => ⟨rng_small (by omega) (by omega), ih _ _ ⟨by omega, f⟩ (by omega)⟩, fun _ => deal1_any hm (fun w s' hw g => ⟨fun _ => ⟨rng_small (by omega) (by omega), ih _ _ ⟨by omega, f.trans (Sx_pF.trans g)⟩ (by omega)⟩, fun _ => k 1 s' (Or.inr rfl) (f.trans (Sx_pF.trans g))⟩)⟩)⟩
theorem fewest_any {K : Int → Sg → Prop} (k : ∀ v σ', Sx 87 σ σ' → K v σ') : wp5_G_fewest σ K := by
  refine wl2_rule (fun (i : Int) (s : Sg) => (0 ≤ i ∧ i ≤ 6) ∧ Sx 87 σ s) (fun (i : Int) _ => (6 - i).toNat) ?_ ⟨by omega, Sx.refl⟩
  rintro P i s ⟨hi, f⟩ ih
  exact ⟨fun _ => deal0_any (by decide) (fun v s' _ g => k 6 s' (f.trans g)), fun hlt => deal0_any (by omega) (fun v s' _ g => ⟨fun _ => ⟨rng_small (by omega) (by omega), ih _ _ ⟨by omega, f.trans g⟩ (by omega)⟩, fun _ => k i s' (f.trans g)⟩)⟩
theorem comingsOf_any {x : Int} {K : Int → Prop} (h : Cm σ 480) (k : ∀ v, K v) : wp5_G_comingsOf σ x K := by
  refine wl2_rule (fun (n i : Int) => (0 ≤ i ∧ i ≤ 6) ∧ 0 ≤ n ∧ n ≤ 480 * i) (fun (_ i : Int) => (6 - i).toNat) ?_ ⟨by omega, by omega, by omega⟩
  rintro P n i ⟨hi, n0, n1⟩ ih
  refine ⟨fun _ => k _, fun hlt => ⟨fun _ => ⟨rng_small (by omega) (by omega), rng_small (by omega) (by omega), ih _ _ ⟨by omega, by omega, by omega⟩ (by omega)⟩, fun _ => ?_⟩⟩
  have := h i hi.1 (by omega)
  exact ⟨⟨hi.1, hlt⟩, rng_small (by omega) (by omega), rng_small (by omega) (by omega), ih _ _ ⟨by omega, by omega, by omega⟩ (by omega)⟩
theorem spills_any {m : Int} (hm : m ≤ 100) {K : Int → Sg → Prop} (h : Cm σ 480) (k : ∀ v σ', Sx 87 σ σ' → K v σ') : wp5_G_spills σ m K := by
  refine comingsOf_any h (fun r => ?_)
  refine wl4_rule (fun (_ _ i : Int) (s : Sg) => (0 ≤ i ∧ i ≤ 64) ∧ Sx 87 σ s) (fun (_ _ i : Int) _ => (64 - i).toNat) ?_ ⟨by omega, Sx.refl⟩
  rintro P a b i s ⟨hi, f⟩ ih
  exact ⟨fun _ => k a s f, fun hlt => comingsOf_any (h.sx f (by decide)) (fun r => ⟨fun _ => ⟨rng_small (by omega) (by omega), ih _ _ _ _ ⟨by omega, f⟩ (by omega)⟩, fun _ => deal0_any hm (fun v s' _ g => ⟨fun _ => ⟨rng_small (by omega) (by omega), ih _ _ _ _ ⟨by omega, f.trans g⟩ (by omega)⟩, fun _ => ⟨rng_small (by omega) (by omega), ih _ _ _ _ ⟨by omega, f.trans g⟩ (by omega)⟩⟩)⟩)⟩
variable {slot slotLong : Int → Int} {x0 x1 x2 : Int}
theorem registers_k (hS : SL σ slot slotLong) {K : Int → Sg → Prop} (k : ∀ v σ', Fq q84 No No σ σ' → K v σ') : wp5_S_registers σ x0 x1 K := by
  refine slotAt_k (fun v0 => ⟨fun z => absurd z (by omega), fun _ => ⟨⟨by omega, by omega⟩, ?_⟩⟩) (fun _ => ⟨fun _ => k _ σ Fq.refl, fun z => absurd z (by decide)⟩)
  obtain ⟨l, h1, h2, h3, h4, h5, h6, h7⟩ := hS.get v0.1 v0.2
  refine study_any h2 h1 h5 h6 (fun s f hc => ?_)
  have kk : ∀ v s', Sx 87 s s' → K v s' := fun v s' g => k v s' (f.trans (g.fq84 ⟨by decide, by decide⟩))
  have r56 : wp5_S_registers_56 K x1 s := ⟨fun _ => k _ s f, fun _ => ⟨fun _ => k _ s f, fun _ => ⟨rng_small (by omega) (by omega), spills_any (by omega) hc kk⟩⟩⟩
  exact ⟨fun _ => ⟨fun _ => r56, fun _ => ⟨fun _ => r56, fun _ => ⟨rng_small (by omega) (by omega), fewest_any (fun v s' g => isVariable_k (fun h => t1 ⟨⟨h.1, by omega⟩, kk _ s' g⟩) (fun _ => t0 (kk _ s' g)))⟩⟩⟩, fun _ => fewest_any kk⟩
theorem clash_k (hS : SL σ slot slotLong) {K : Int → Sg → Prop} (k : ∀ v σ', Fq q84 No No σ σ' → K v σ') : wp5_S_clash σ x0 x1 x2 K := by
  refine slotAt_k (fun v0 => ⟨fun z => absurd z (by omega), fun _ => ⟨⟨by omega, by omega⟩, isVariable_k (fun _ => t1 (isVariable_k (fun _ => t1 ⟨fun _ => ?_, fun _ => k _ σ Fq.refl⟩) (fun _ => t0 (k _ σ Fq.refl)))) (fun _ => t0 (k _ σ Fq.refl))⟩⟩) (fun _ => ⟨fun _ => k _ σ Fq.refl, fun z => absurd z (by decide)⟩)
  obtain ⟨l, h1, h2, h3, h4, h5, h6, h7⟩ := hS.get v0.1 v0.2
  exact study_any h2 h1 h5 h6 (fun s f hc => clashing_any (fun v hv => ⟨fun _ => k _ s f, fun _ => k _ s f⟩))
end F4
