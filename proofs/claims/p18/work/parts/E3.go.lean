-- ===== Machine.go follows the row
section GO
variable {σ0 σ : Sg} {n cnt : Int} {qi : Nat} {K : Sg → Prop} {L : Int → Sg → Prop} {f0 : RFn} {s : RSt} {i : Int} {Lw : List Int}
theorem go_stop (hL : ∀ i s, wp5_M_go_67 K qi L i s → L i s) (hK : ∀ σ s e, Ms qi σ0 σ s → ((e, s) : RFn) = f0 → K (pU σ qi 4 e)) (hs : Ms qi σ0 σ s) (h100 : s.2.2 = 100) (hi : 0 ≤ i) (hf : ((2, s) : RFn) = f0) : L i σ := by
  have h3 := hs.1.2.2.2.1
  exact hL _ _ ⟨fun _ => ⟨fun _ => ⟨fun z => absurd z (by omega), fun _ => hK _ _ _ hs hf⟩, fun z => absurd z (by omega)⟩, fun z => absurd z (by omega)⟩
theorem go_do (hL : ∀ i s, wp5_M_go_67 K qi L i s → L i s) (hs : Ms qi σ0 σ s) (hlt : s.2.2 < 100) (hi : 0 ≤ i) (k : wp5_M_doStatement σ qi i (fun r σ' => rng (σ'.1 qi 3 + 1) ∧ L r (pU σ' qi 3 (σ'.1 qi 3 + 1)))) : L i σ := by
  have h3 := hs.1.2.2.2.1
  exact hL _ _ ⟨fun z => absurd z (by omega), fun _ => ⟨fun z => absurd z (by omega), fun _ => k⟩⟩
theorem go_tick {h : Int → Int} {O : List Int} {m : Nat} {r : Int} (hs : Mi qi σ0 σ h O m) (hO : O.length ≤ m + 1) (hm : m < 100) (k : ∀ σ', Ms qi σ0 σ' (h, O, m + 1) → L r σ') : rng (σ.1 qi 3 + 1) ∧ L r (pU σ qi 3 (σ.1 qi 3 + 1)) := by
  obtain ⟨a1, a2, a3, a4, a5⟩ := hs
  refine ⟨rng_small (by omega) (by omega), k _ ⟨⟨a1, a2, ?_, ?_, a5.trans (MF_pU (by omega))⟩, hO, by show m + 1 ≤ 100; omega⟩⟩
  · rw [pU_get, if_neg (by omega)]; exact a3
  · rw [pU_get, if_pos ⟨rfl, rfl⟩, a4]; show (m : Int) + 1 = ((m + 1 : Nat) : Int); omega
theorem Mi.sx {h : Int → Int} {O : List Int} {m : Nat} {σ' : Sg} (hs : Mi qi σ0 σ h O m) (f : Sx (qi + 3) σ σ') : Mi qi σ0 σ' h O m := by
  obtain ⟨a1, a2, a3, a4, a5⟩ := hs
  refine ⟨?_, ?_, ?_, ?_, a5.trans f.mf⟩
  · rw [f.2.2 (qi + 2) (by omega)]; exact a1
  · rw [f.2.2 (qi + 1) (by omega)]; exact a2
  · rw [f.1]; exact a3
  · rw [f.1]; exact a4
/-- a statement that sets or gives out -/
theorem go_sets (hL : ∀ i s, wp5_M_go_67 K qi L i s → L i s) (hK : ∀ σ s e, Ms qi σ0 σ s → ((e, s) : RFn) = f0 → K (pU σ qi 4 e)) (hn : σ0.1 (qi + 4) 0 = n) (hc : σ0.1 (qi + 4) 1 = cnt) (h40 : cnt ≤ 40) (hR : RowL σ0 n Lw) (h300 : cp Lw ≤ 300) (hs : Ms qi σ0 σ s) {a b e : List Int} {p v y no : Int} (hw : Lw = a ++ ((v :: e) ++ b)) (hp : p = a.length) (hg : G1 qi σ0 i p v (p + 1) (p + 1 + e.length) y no) (hv : setC v ∨ v = 110) (he : Ex lfR e) (hi : 0 ≤ i ∧ i < cnt) {Y : RSt → RFn} (hf : stp s (fun s' => Y (doS v (valE s'.1 e) s')) = f0) (k : ∀ σ' s', s.2.2 < s'.2.2 → Ms qi σ0 σ' s' → Y s' = f0 → L y σ') : L i σ := by
  by_cases h100 : s.2.2 = 100
  · rw [stp_100 h100] at hf
    exact go_stop hL hK hs h100 hi.1 hf
  have hs0 := hs
  obtain ⟨hm, hO, h1⟩ := hs
  have hlt : s.2.2 < 100 := by omega
  rw [stp_lt hlt] at hf
  have hf2 : Y (doS v (valE s.1 e) (tks s)) = f0 := hf
  obtain ⟨g1, g2, g3, g4, g5, g6⟩ := hg
  have mf := hm.2.2.2.2
  have e6 : σ.2.1 (qi + 6) i = v := by rw [mf.2.1 (qi + 6) (by omega)]; exact g2
  have e7 : σ.2.1 (qi + 7) i = p + 1 := by rw [mf.2.1 (qi + 7) (by omega)]; exact g3
  have e8 : σ.2.1 (qi + 8) i = p + 1 + e.length := by rw [mf.2.1 (qi + 8) (by omega)]; exact g4
  have e0 : σ.1 (qi + 4) 0 = n := by rw [mf.1 (qi + 4) 0 (by omega)]; exact hn
  have e1 : σ.1 (qi + 4) 1 = cnt := by rw [mf.1 (qi + 4) 1 (by omega)]; exact hc
  have hr2 : RowL σ n Lw := hR.of22 mf.2.2
  have hcp : e.length ≤ 300 := by
    have : cp Lw = cp a + (cp (v :: e) + cp b) := by rw [hw, cp_app, cp_app]
    rw [cp_no (c := v) (by unfold setC at hv; omega), he.cpz] at this
    omega
  refine go_do hL hs0 hlt hi.1 (isHere_k (fun _ => u1 ⟨⟨hi.1, by omega⟩, fun _ => ⟨by rw [e0]; exact hR.1, ?_⟩, fun z => absurd (e6.symm.trans z) (by unfold setC at hv; omega)⟩) (fun z => absurd ⟨hi.1, by rw [e1]; exact hi.2, by omega⟩ z))
  rw [e0, e7, e8]
  refine reckon1 (a := a ++ [v]) (b := b) hr2 he (by rw [hw]; simp) (by simp only [List.length_append, List.length_cons, List.length_nil]; omega) rfl hcp (fun σ1 s1 v1 => ?_)
  have m1 := hm.sx s1
  have ev : valE (σ.2.1 (qi + 2)) e = valE s.1 e := valE_agr he hm.1
  rw [ev] at v1
  have f9 : σ1.2.1 (qi + 9) i = y := by rw [m1.2.2.2.2.2.1 (qi + 9) (by omega)]; exact g5
  rw [e6]
  unfold setC at hv
  refine isBranch_k (fun z => absurd z (by omega)) (fun _ _ => t0 ?_)
  by_cases h110 : v = 110
  · have hO1 := m1.2.2.1
    refine ⟨fun z => absurd h110 z, fun _ => ⟨fun z => absurd z (by omega), fun _ => ⟨⟨by omega, by omega⟩, rng_small (by omega) (by omega), ?_⟩⟩⟩
    show rng _ ∧ L (σ1.2.1 (qi + 9) i) _
    rw [f9, v1]
    refine go_tick (σ0 := σ0) (h := s.1) (O := s.2.1 ++ [valE s.1 e]) (m := s.2.2) ⟨?_, ?_, ?_, ?_, (m1.2.2.2.2.trans (MF_pF (k := 1) (by omega))).trans (MF_pU (by omega))⟩ (by simp only [List.length_append, List.length_cons, List.length_nil]; omega) hlt (fun σ2 s2 => k σ2 _ (by show s.2.2 < s.2.2 + 1; omega) s2 ?_)
    · show agr6 ((pF σ1 (qi + 1) _).2.1 (qi + 2)) s.1
      rw [pF_get, if_neg (by omega)]; exact m1.1
    · show At ((pF σ1 (qi + 1) _).2.1 (qi + 1)) 0 _
      rw [pF_get, if_pos rfl, hO1]
      have := At_snoc (c := valE s.1 e) m1.2.1
      rwa [Int.zero_add] at this
    · rw [pU_get, if_pos ⟨rfl, rfl⟩, hO1]
      simp only [List.length_append, List.length_cons, List.length_nil]; omega
    · rw [pU_get, if_neg (by omega)]; exact m1.2.2.2.1
    · rw [← hf2]
      unfold doS
      rw [if_pos h110] <;> rfl
  · refine ⟨fun _ => ?_, fun z => absurd z h110⟩
    unfold wp5_M_doStatement_184
    rw [e6]
    refine isSet_k (fun q => t1 ⟨⟨by omega, by omega⟩, ?_⟩) (fun q => absurd (by omega) q)
    show rng _ ∧ L (σ1.2.1 (qi + 9) i) _
    rw [f9, v1]
    refine go_tick (σ0 := σ0) (h := uZ s.1 (v - 100) (valE s.1 e)) (O := s.2.1) (m := s.2.2) ⟨?_, ?_, m1.2.2.1, m1.2.2.2.1, m1.2.2.2.2.trans (MF_pF (k := 2) (by omega))⟩ (by omega) hlt (fun σ2 s2 => k σ2 _ (by show s.2.2 < s.2.2 + 1; omega) s2 ?_)
    · rw [pF_get, if_pos rfl]; exact agr6_upd m1.1
    · rw [pF_get, if_neg (by omega)]; exact m1.2.1
    · rw [← hf2]
      unfold doS
      rw [if_neg h110] <;> rfl
theorem go_fails (hL : ∀ i s, wp5_M_go_67 K qi L i s → L i s) (hK : ∀ σ s e, Ms qi σ0 σ s → ((e, s) : RFn) = f0 → K (pU σ qi 4 e)) (hc : σ0.1 (qi + 4) 1 = cnt) (h40 : cnt ≤ 40) (hs : Ms qi σ0 σ s) (hg : σ0.2.1 (qi + 6) i = 111) (hi : 0 ≤ i ∧ i < cnt) (hf : stp s (fun s' => ((1, s') : RFn)) = f0) : L i σ := by
  by_cases h100 : s.2.2 = 100
  · rw [stp_100 h100] at hf
    exact go_stop hL hK hs h100 hi.1 hf
  have hs0 := hs
  obtain ⟨hm, hO, h1⟩ := hs
  have hlt : s.2.2 < 100 := by omega
  rw [stp_lt hlt] at hf
  have mf := hm.2.2.2.2
  have e6 : σ.2.1 (qi + 6) i = 111 := by rw [mf.2.1 (qi + 6) (by omega)]; exact hg
  have e1 : σ.1 (qi + 4) 1 = cnt := by rw [mf.1 (qi + 4) 1 (by omega)]; exact hc
  refine go_do hL hs0 hlt hi.1 (isHere_k (fun _ => u1 ⟨⟨hi.1, by omega⟩, fun z => absurd e6 z, fun _ => ?_⟩) (fun z => absurd ⟨hi.1, by rw [e1]; exact hi.2, by omega⟩ z))
  refine go_tick hm (by omega) hlt (fun σ2 s2 => ?_)
  have h3 := s2.1.2.2.2.1
  have fin : wp5_M_go_99 K qi (-2) σ2 := ⟨fun z => absurd rfl z, fun _ => hK _ _ _ s2 hf⟩
  exact hL _ _ ⟨fun _ => fin, fun _ => ⟨fun _ => fin, fun z => absurd z (by decide)⟩⟩
/-- an if or a while is asked -/
theorem go_asks (hL : ∀ i s, wp5_M_go_67 K qi L i s → L i s) (hK : ∀ σ s e, Ms qi σ0 σ s → ((e, s) : RFn) = f0 → K (pU σ qi 4 e)) (hn : σ0.1 (qi + 4) 0 = n) (hc : σ0.1 (qi + 4) 1 = cnt) (h40 : cnt ≤ 40) (hR : RowL σ0 n Lw) (h300 : cp Lw ≤ 300) (hs : Ms qi σ0 σ s) {a b x y : List Int} {p v t yy no : Int} (hw : Lw = a ++ (v :: t :: (x ++ (y ++ b)))) (hp : p = a.length) (hg : G1 qi σ0 i p v (p + 2) (p + 2 + x.length + y.length) yy no) (hv : v = 112 ∨ v = 115) (hx : Ex lfR x) (hy : Ex lfR y) (hi : 0 ≤ i ∧ i < cnt) {Y Z : RSt → RFn} (hf : stp s (fun s' => if soS t x y s' = true then Y s' else Z s') = f0) (k1 : ∀ σ' s', s.2.2 < s'.2.2 → Ms qi σ0 σ' s' → Y s' = f0 → L yy σ') (k0 : ∀ σ' s', s.2.2 < s'.2.2 → Ms qi σ0 σ' s' → Z s' = f0 → L no σ') : L i σ := by
  by_cases h100 : s.2.2 = 100
  · rw [stp_100 h100] at hf
    exact go_stop hL hK hs h100 hi.1 hf
  have hs0 := hs
  obtain ⟨hm, hO, h1⟩ := hs
  have hlt : s.2.2 < 100 := by omega
  rw [stp_lt hlt] at hf
  obtain ⟨g1, g2, g3, g4, g5, g6⟩ := hg
  have mf := hm.2.2.2.2
  have e5 : σ.2.1 (qi + 5) i = p := by rw [mf.2.1 (qi + 5) (by omega)]; exact g1
  have e6 : σ.2.1 (qi + 6) i = v := by rw [mf.2.1 (qi + 6) (by omega)]; exact g2
  have e7 : σ.2.1 (qi + 7) i = p + 2 := by rw [mf.2.1 (qi + 7) (by omega)]; exact g3
  have e8 : σ.2.1 (qi + 8) i = p + 2 + x.length + y.length := by rw [mf.2.1 (qi + 8) (by omega)]; exact g4
  have e0 : σ.1 (qi + 4) 0 = n := by rw [mf.1 (qi + 4) 0 (by omega)]; exact hn
  have e1 : σ.1 (qi + 4) 1 = cnt := by rw [mf.1 (qi + 4) 1 (by omega)]; exact hc
  have hr2 : RowL σ n Lw := hR.of22 mf.2.2
  have hl := hr2.bd
  have hwl : Lw.length = a.length + (2 + (x.length + (y.length + b.length))) := by rw [hw]; simp only [List.length_append, List.length_cons]; omega
  have hcp : x.length + y.length ≤ 300 := by
    have : cp Lw = cp a + (cp [v, t] + (cp x + (cp y + cp b))) := by rw [hw, show a ++ (v :: t :: (x ++ (y ++ b))) = a ++ ([v, t] ++ (x ++ (y ++ b))) from rfl, cp_app, cp_app, cp_app, cp_app]
    rw [hx.cpz, hy.cpz] at this
    omega
  refine go_do hL hs0 hlt hi.1 (isHere_k (fun _ => u1 ⟨⟨hi.1, by omega⟩, fun _ => ⟨by rw [e0]; exact hR.1, ?_⟩, fun z => absurd (e6.symm.trans z) (by omega)⟩) (fun z => absurd ⟨hi.1, by rw [e1]; exact hi.2, by omega⟩ z))
  rw [e0, e7, e8]
  refine reckon2 (a := a ++ [v, t]) (b := b) hr2 hx hy (by rw [hw]; simp) (by simp only [List.length_append, List.length_cons, List.length_nil]; omega) rfl hcp (fun σ1 s1 v0 v1 => ?_)
  have m1 := hm.sx s1
  rw [valE_agr hy hm.1] at v0
  rw [valE_agr hx hm.1] at v1
  have f5 : σ1.2.1 (qi + 5) i = p := by rw [m1.2.2.2.2.2.1 (qi + 5) (by omega)]; exact g1
  have f9 : σ1.2.1 (qi + 9) i = yy := by rw [m1.2.2.2.2.2.1 (qi + 9) (by omega)]; exact g5
  have f10 : σ1.2.1 (qi + 10) i = no := by rw [m1.2.2.2.2.2.1 (qi + 10) (by omega)]; exact g6
  have f0' : σ1.1 (qi + 4) 0 = n := by rw [m1.2.2.2.2.1 (qi + 4) 0 (by omega)]; exact hn
  rw [e6]
  have hr3 : RowL σ1 n (a ++ (v :: t :: (x ++ (y ++ b)))) := by rw [← hw]; exact hR.of22 m1.2.2.2.2.2.2
  refine isBranch_k (fun _ => t1 ⟨by rw [f0']; exact hR.1, by rw [f5]; exact rng_small (by omega) (by omega), ?_⟩) (fun z z2 => by omega)
  rw [f0', f5]
  refine cell_mid (a := a ++ [v]) (c := t) (b := x ++ (y ++ b)) (by simpa using hr3) (by simp only [List.length_append, List.length_cons, List.length_nil]; omega) ?_
  rw [v0, v1]
  have tick : ∀ {r : Int}, (∀ σ', Ms qi σ0 σ' (tks s) → L r σ') → rng (σ1.1 qi 3 + 1) ∧ L r (pU σ1 qi 3 (σ1.1 qi 3 + 1)) := fun q => go_tick m1 (by omega) hlt q
  have key : (if soS t x y (tks s) = true then Y (tks s) else Z (tks s)) = f0 := hf
  refine holds_k (fun q => t1 ?_) (fun q => t0 ?_)
  · have q2 : soS t x y (tks s) = true := q
    rw [if_pos q2] at key
    show rng _ ∧ L (σ1.2.1 (qi + 9) i) _
    rw [f9]
    exact tick (fun σ2 s2 => k1 σ2 _ (by show s.2.2 < s.2.2 + 1; omega) s2 key)
  · have q2 : ¬ soS t x y (tks s) = true := by
      have : soS t x y (tks s) = false := q
      rw [this]; decide
    rw [if_neg q2] at key
    show rng _ ∧ L (σ1.2.1 (qi + 10) i) _
    rw [f10]
    exact tick (fun σ2 s2 => k0 σ2 _ (by show s.2.2 < s.2.2 + 1; omega) s2 key)
theorem Sq.cs0 {l : List Int} (hl : Sq l) : cs l = 0 → l = [] := by
  intro h
  rcases hl.cases with rfl | ⟨s, r, hs, hr, rfl⟩
  · rfl
  · have := hs.csp
    rw [cs_app] at h
    omega
def GoP (qi : Nat) (σ0 : Sg) (L : Int → Sg → Prop) (f0 : RFn) (Lw : List Int) (cnt : Int) (l : List Int) : Prop := ∀ (a b : List Int) (p i nx : Int) (k : RSt → RFn) (m : Nat), Lw = a ++ (l ++ b) → p = a.length → GAr qi σ0 l p i nx → 0 ≤ i → i + cs l ≤ cnt → (∀ σ s, m ≤ s.2.2 → Ms qi σ0 σ s → k s = f0 → L nx σ) → ∀ σ s, m ≤ s.2.2 → Ms qi σ0 σ s → RN l k s = f0 → L (nxt l i nx) σ
theorem Go_sq (hL : ∀ i s, wp5_M_go_67 K qi L i s → L i s) (hK : ∀ σ s e, Ms qi σ0 σ s → ((e, s) : RFn) = f0 → K (pU σ qi 4 e)) (hn : σ0.1 (qi + 4) 0 = n) (hc : σ0.1 (qi + 4) 1 = cnt) (h40 : cnt ≤ 40) (hR : RowL σ0 n Lw) (h300 : cp Lw ≤ 300) : ∀ {l : List Int}, Sq l → GoP qi σ0 L f0 Lw cnt l := by
  intro l hl
  refine Sq.ind (P := GoP qi σ0 L f0 Lw cnt) ?_ ?_ hl
  · intro a b p i nx k m hw hp hg hi hcs hk σ s hm hs hf
    rw [nxt_nil]
    rw [RN_nil] at hf
    exact hk σ s hm hs hf
  · intro sl r hsl hr ih a b p i nx k m hw hp hg hi hcs hk σ s hm hs hf
    have hsl' := hsl.mono (T := Sq) (fun _ h => h.1)
    have hcp := hsl'.csp
    obtain ⟨gs, gr⟩ := GAr.app hsl' hr hg
    rw [cs_app] at hcs
    rw [nxt_s hsl']
    have kr : ∀ σ' s', m ≤ s'.2.2 → Ms qi σ0 σ' s' → RN r k s' = f0 → L (nxt r (i + cs sl) nx) σ' := fun σ' s' q1 q2 q3 => ih (a ++ sl) b (p + sl.length) (i + cs sl) nx k m (by rw [hw]; simp) (by rw [List.length_append]; omega) gr (by omega) (by omega) hk σ' s' q1 q2 q3
    rcases hsl with ⟨v, e, hv, he, rfl⟩ | rfl | ⟨t, x, y, B, C, ht, hx, hy, hB, hC, rfl⟩ | ⟨t, x, y, B, ht, hx, hy, hB, rfl⟩
    · exact go_sets hL hK hn hc h40 hR h300 hs (a := a) (b := r ++ b) (by rw [hw]; simp) hp (gs.sets hv he) hv he ⟨hi, by omega⟩ ((RN_set hv he hr).symm.trans hf) (fun σ' s' q1 q2 q3 => kr σ' s' (by omega) q2 q3)
    · exact go_fails hL hK hc h40 hs gs.fails ⟨hi, by omega⟩ ((RN_fail hr).symm.trans hf)
    · rw [cs_if ht hx hy] at hcs
      obtain ⟨g1, gB, gC⟩ := gs.ifs ht hx hy hB.1 hC.1
      refine go_asks hL hK hn hc h40 hR h300 hs (a := a) (b := B ++ (113 :: (C ++ [114])) ++ (r ++ b)) (by rw [hw]; simp) hp g1 (Or.inl rfl) hx hy ⟨hi, by omega⟩ ((RN_if ht hx hy hB.1 hC.1 hr).symm.trans hf) (fun σ' s' q1 q2 q3 => ?_) (fun σ' s' q1 q2 q3 => ?_)
      · exact hB.2 (a ++ (112 :: t :: (x ++ y))) ((113 :: (C ++ [114])) ++ (r ++ b)) _ _ _ (RN r k) m (by rw [hw]; simp) (by simp only [List.length_append, List.length_cons]; omega) gB (by omega) (by omega) kr σ' s' (by omega) q2 q3
      · exact hC.2 (a ++ (112 :: t :: (x ++ (y ++ (B ++ [113]))))) ([114] ++ (r ++ b)) _ _ _ (RN r k) m (by rw [hw]; simp) (by simp only [List.length_append, List.length_cons, List.length_nil]; omega) gC (by omega) (by omega) kr σ' s' (by omega) q2 q3
    · rw [cs_wh ht hx hy] at hcs
      obtain ⟨g1, gB⟩ := gs.whs ht hx hy hB.1
      have loop : ∀ (j : Nat) (σ' : Sg) (s' : RSt), m ≤ s'.2.2 → Ms qi σ0 σ' s' → 101 ≤ j + s'.2.2 → WH (soS t x y) (RN B) (RN r k) j s' = f0 → L i σ' := by
        intro j
        induction j with
        | zero => intro σ' s' q1 q2 q3 _; have := q2.2.2; omega
        | succ j ihj =>
          intro σ' s' q1 q2 q3 q4
          refine go_asks hL hK hn hc h40 hR h300 q2 (a := a) (b := B ++ [114] ++ (r ++ b)) (by rw [hw]; simp) hp g1 (Or.inr rfl) hx hy ⟨hi, by omega⟩ (Y := RN B (WH (soS t x y) (RN B) (RN r k) j)) (Z := RN r k) q4 (fun σ2 s2 w1 w2 w3 => ?_) (fun σ2 s2 w1 w2 w3 => kr σ2 s2 (by omega) w2 w3)
          exact hB.2 (a ++ (115 :: t :: (x ++ y))) ([114] ++ (r ++ b)) _ _ _ (WH (soS t x y) (RN B) (RN r k) j) (s'.2.2 + 1) (by rw [hw]; simp) (by simp only [List.length_append, List.length_cons]; omega) gB (by omega) (by omega) (fun σ3 s3 z1 z2 z3 => ihj σ3 s3 (by omega) z2 (by omega) z3) σ2 s2 (by omega) w2 w3
      exact loop 101 σ s hm hs (by omega) ((RN_wh ht hx hy hB.1 hr).symm.trans hf)
end GO
/-- the machine behind a run -/
def Rs (qi : Nat) (σ : Sg) (f : RFn) : Prop := agr6 (σ.2.1 (qi + 2)) f.2.1 ∧ At (σ.2.1 (qi + 1)) 0 f.2.2.1 ∧ σ.1 qi 2 = f.2.2.1.length ∧ σ.1 qi 3 = f.2.2.2 ∧ σ.1 qi 4 = f.1 ∧ f.2.2.1.length ≤ f.2.2.2 ∧ f.2.2.2 ≤ 100
theorem go_k {σ : Sg} {qi : Nat} {n : Int} {l : List Int} {a b : Int} {K : Sg → Prop} (ht : Trc (qi + 4) n l σ) (h : RowL σ n l) (hl : Sq l) (h40 : cs l ≤ 40) (h300 : cp l ≤ 300) (k : ∀ σ', MF qi σ σ' → Rs qi σ' (rnF l a b) → K σ') : wp5_M_go σ qi a b K := by
  obtain ⟨t1_, t2_, t3_, t4_, t5_, t6_, t7_, t8_, t9_, t10_, _⟩ := ht
  have gl : GAr qi σ l 0 0 (-1) := ⟨t3_, t4_, t5_, t6_, t9_, t10_⟩
  refine wl2_rule (fun (j : Int) (s : Sg) => (0 ≤ j ∧ j ≤ 6) ∧ MF qi σ s ∧ ∀ v : Int, 0 ≤ v → v < j → s.2.1 (qi + 2) v = (st0 a b).1 v) (fun (j : Int) _ => (6 - j).toNat) ?_ ⟨by omega, MF.refl, fun v v0 v1 => by omega⟩
  rintro P j s ⟨hj, hf, hv⟩ ih
  have step : j < 6 → ∀ x : Int, x = (st0 a b).1 j → rng (j + 1) ∧ P (j + 1) (pF s (qi + 2) (uZ (s.2.1 (qi + 2)) j x)) := by
    intro hj6 x ex
    refine ⟨rng_small (by omega) (by omega), ih _ _ ⟨by omega, hf.trans (MF_pF (k := 2) (by omega)), fun v v0 v1 => ?_⟩ (by omega)⟩
    rw [pF_get, if_pos rfl]
    unfold uZ
    by_cases q : v = j
    · rw [if_pos q, q]; exact ex
    · rw [if_neg q]; exact hv v v0 (by omega)
  have c1 : s.1 (qi + 4) 1 = cs l := by rw [hf.1 (qi + 4) 1 (by omega)]; exact t2_
  refine ⟨fun h6 => ?_, fun hlt => ⟨fun z0 => ⟨fun z1 => ⟨⟨by omega, by omega⟩, step hlt 0 ?_⟩, fun z1 => ⟨⟨by omega, by omega⟩, step hlt b ?_⟩⟩, fun z0 => ⟨⟨by omega, by omega⟩, step hlt a ?_⟩⟩⟩
  · have fin : ∀ (L : Int → Sg → Prop), (∀ i s, wp5_M_go_67 K qi L i s → L i s) → L (nxt l 0 (-1)) (pU (pU s qi 2 0) qi 3 0) := by
      intro L hL
      have hK : ∀ (σ' : Sg) (s : RSt) (e : Int), Ms qi σ σ' s → ((e, s) : RFn) = rnF l a b → K (pU σ' qi 4 e) := by
        intro σ' s e hs he
        obtain ⟨⟨a1, a2, a3, a4, a5⟩, a6, a7⟩ := hs
        refine k _ (a5.trans (MF_pU (by omega))) ?_
        rw [← he]
        refine ⟨a1, a2, ?_, ?_, ?_, a6, a7⟩
        · rw [pU_get, if_neg (by omega)]; exact a3
        · rw [pU_get, if_neg (by omega)]; exact a4
        · rw [pU_get, if_pos ⟨rfl, rfl⟩] <;> rfl
      refine Go_sq hL hK t1_ t2_ (by omega) h h300 hl [] [] 0 0 (-1) (fun s => (0, s)) 0 (by simp) rfl gl (Int.le_refl _) (by omega) (fun σ' s' _ q2 q3 => ?_) _ (st0 a b) (Nat.zero_le _) ⟨⟨?_, trivial, ?_, ?_, (hf.trans (MF_pU (by omega))).trans (MF_pU (by omega))⟩, Nat.le_refl _, Nat.zero_le _⟩ rfl
      · have f99 : wp5_M_go_99 K qi (-1) σ' := ⟨fun _ => ⟨fun _ => hK _ _ _ q2 q3, fun z => absurd z (by decide)⟩, fun z => absurd z (by decide)⟩
        exact hL _ _ ⟨fun _ => f99, fun _ => ⟨fun _ => f99, fun z => absurd z (by decide)⟩⟩
      · intro v v0 v1
        exact hv v v0 (by omega)
      · rw [pU_get, if_neg (by omega), pU_get, if_pos ⟨rfl, rfl⟩] <;> rfl
      · rw [pU_get, if_pos ⟨rfl, rfl⟩] <;> rfl
    refine ⟨fun z => fun L hL => ?_, fun z => fun L hL => ?_⟩
    · have e0 : l = [] := hl.cs0 (by omega)
      have := fin L hL
      rw [e0, nxt_nil] at this
      exact this
    · have e0 : nxt l 0 (-1) = 0 := if_neg (fun q => by rw [q] at c1; rw [c1] at z; exact absurd z (by decide))
      have := fin L hL
      rw [e0] at this
      exact this
  · show 0 = if j = 0 then a else if j = 1 then b else 0
    rw [if_neg z0, if_neg z1]
  · show b = if j = 0 then a else if j = 1 then b else 0
    rw [if_neg z0, if_pos z1]
  · show a = if j = 0 then a else if j = 1 then b else 0
    rw [if_pos z0]
