-- ===== Flow.link over rows
section YS
variable {i nx : Int}
theorem nxt_nil : nxt [] i nx = nx := if_pos rfl
theorem nxt_s {s r : List Int} (hs : Sm Sq s) : nxt (s ++ r) i nx = i := if_neg (fun z => by have := hs.pos; rw [(List.append_eq_nil_iff.mp z).1] at this; exact absurd this (by decide))
theorem ynL_set1 {v : Int} {e : List Int} (hv : setC v ∨ v = 110) (he : Ex lfR e) : ynL (v :: e) i nx = [(nx, -1)] := by
  have := ynL_set (i := i) (nx := nx) hv he Sq.nil
  rwa [List.append_nil, ynL_nil, nxt_nil] at this
theorem ynL_fail1 : ynL [111] i nx = [(-1, -1)] := by
  have := ynL_fail (i := i) (nx := nx) Sq.nil
  rwa [List.append_nil, ynL_nil] at this
theorem ynL_if1 {t : Int} {a b B C : List Int} (ht : testC t) (ha : Ex lfR a) (hb : Ex lfR b) (hB : Sq B) (hC : Sq C) : ynL (112 :: t :: (a ++ (b ++ (B ++ (113 :: (C ++ [114])))))) i nx = (nxt B (i + 1) nx, nxt C (i + 1 + cs B) nx) :: (ynL B (i + 1) nx ++ ynL C (i + 1 + cs B) nx) := by
  have := ynL_if (i := i) (nx := nx) ht ha hb hB hC Sq.nil
  rwa [List.append_nil, ynL_nil, List.append_nil, nxt_nil] at this
theorem ynL_wh1 {t : Int} {a b B : List Int} (ht : testC t) (ha : Ex lfR a) (hb : Ex lfR b) (hB : Sq B) : ynL (115 :: t :: (a ++ (b ++ (B ++ [114])))) i nx = (nxt B (i + 1) i, nx) :: ynL B (i + 1) i := by
  have := ynL_wh (i := i) (nx := nx) ht ha hb hB Sq.nil
  rwa [List.append_nil, ynL_nil, List.append_nil, nxt_nil] at this
theorem ynL_app {s r : List Int} (hs : Sm Sq s) (hr : Sq r) : ynL (s ++ r) i nx = ynL s i (nxt r (i + cs s) nx) ++ ynL r (i + cs s) nx := by
  rcases hs with ⟨v, e, hv, he, rfl⟩ | rfl | ⟨t, a, b, B, C, ht, hA, hB, hb, hc, rfl⟩ | ⟨t, a, b, B, ht, hA, hB, hb, rfl⟩
  · rw [ynL_set hv he hr, ynL_set1 hv he, cs_yes (by unfold setC at hv; omega), he.csz]
    rfl
  · rw [ynL_fail hr, ynL_fail1]; rfl
  · rw [ynL_if ht hA hB hb hc hr, ynL_if1 ht hA hB hb hc, cs_if ht hA hB, show i + 1 + (cs B : Int) + cs C = i + ((cs B + cs C + 1 : Nat) : Int) by omega]
  · rw [ynL_wh ht hA hB hb hr, ynL_wh1 ht hA hB hb, cs_wh ht hA hB, show i + 1 + (cs B : Int) = i + ((cs B + 1 : Nat) : Int) by omega]
end YS
def Pre (qi : Nat) (σ : Sg) (l : List Int) (p i : Int) : Prop := At (σ.2.1 (qi + 12)) p (owL l i) ∧ At (σ.2.1 (qi + 2)) i ((nmL l p).map (·.2.1)) ∧ At (σ.2.1 (qi + 5)) i (ng (cs l)) ∧ At (σ.2.1 (qi + 6)) i (ng (cs l))
theorem Pre.fr {qi : Nat} {σ σ' : Sg} {l : List Int} {p i : Int} (h : Pre qi σ l p i) (e12 : σ'.2.1 (qi + 12) = σ.2.1 (qi + 12)) (e2 : σ'.2.1 (qi + 2) = σ.2.1 (qi + 2)) (f : ∀ k j, (k = 5 ∨ k = 6) → i ≤ j → j < i + cs l → σ'.2.1 (qi + k) j = σ.2.1 (qi + k) j) : Pre qi σ' l p i := by
  obtain ⟨h1, h2, h3, h4⟩ := h
  refine ⟨by rw [e12]; exact h1, by rw [e2]; exact h2, At_same (fun j j0 j1 => f 5 j (Or.inl rfl) j0 (by rw [ng_len] at j1; exact j1)) h3, At_same (fun j j0 j1 => f 6 j (Or.inr rfl) j0 (by rw [ng_len] at j1; exact j1)) h4⟩
section LP
variable {σ σ1 σ2 : Sg} {qi : Nat} {K : Sg → Prop} {L : Int → Int → Sg → Prop} {p i c nx : Int} {a b e : List Int}
def LkP (qi : Nat) (L : Int → Int → Sg → Prop) (l : List Int) : Prop := ∀ (σ : Sg) (a b : List Int) (p i nx : Int), RowL σ (σ.1 qi 0) (a ++ (l ++ b)) → (a ++ (l ++ b)).length ≤ 480 → p = a.length → Pre qi σ l p i → 0 ≤ i → i + cs l ≤ σ.1 qi 1 → σ.1 qi 1 ≤ 40 → (∀ σ', Lr qi σ σ' i (ynL l i nx) → L (nxt l i nx) (p - 1) σ') → L nx (p + l.length - 1) σ
theorem rowK {x : List Int} (h : RowL σ (σ.1 qi 0) x) (e : σ1.1 = σ.1) (f : Fq (fl qi) No No σ σ1) : RowL σ1 (σ1.1 qi 0) x := by
  rw [e]; exact h.fl f
theorem Lr_one {y no : Int} (h6 : σ.2.1 (qi + 6) i = no) : Lr qi σ (pF σ (qi + 5) (uZ (σ.2.1 (qi + 5)) i y)) i [(y, no)] := by
  refine ⟨⟨?_, trivial⟩, ⟨?_, trivial⟩, fun k j hk hj => ?_, fun j hj => ?_, rfl, fun k k0 k1 k2 k3 k4 => ?_, fqF (by decide)⟩
  · rw [pF_get, if_pos rfl]; exact if_pos rfl
  · rw [pF_get, if_neg (by omega)]; exact h6
  · simp only [List.length_cons, List.length_nil] at hj
    rcases hk with rfl | rfl
    · rw [pF_get, if_pos rfl]; exact if_neg (by omega)
    · rw [pF_get, if_neg (by omega)]
  · rw [pF_get, if_neg (by omega)]
  · rw [pF_get, if_neg (by omega)]
theorem LkP_sq (hL : ∀ d p s, wp5_F_link_20 K qi L d p s → L d p s) : ∀ {l : List Int}, Sq l → LkP qi L l := by
  intro l hl
  refine Sq.ind (P := LkP qi L) ?_ ?_ hl
  · intro σ a b p i nx h hb hp hpre i0 h40 hc k
    have := k σ ⟨by rw [ynL_nil]; trivial, by rw [ynL_nil]; trivial, fun _ _ _ _ => rfl, fun _ _ => rfl, rfl, fun _ _ _ _ _ _ => rfl, Fq.refl⟩
    rw [nxt_nil] at this
    rw [show p + (([] : List Int).length : Int) - 1 = p - 1 by simp]
    exact this
  · intro s r hs hr ih σ a b p i nx h hb hp hpre i0 h40 hc k
    have hs' := hs.mono (T := Sq) (fun _ h => h.1)
    have hss := Sq.one hs'
    have pos := hs'.csp
    rw [ynL_app hs' hr, nxt_s hs'] at k
    rw [cs_app] at h40
    obtain ⟨q1, q2, q3, q4⟩ := hpre
    rw [owL_app hs' hr] at q1
    rw [nmL_app hs' hr, List.map_append] at q2
    rw [cs_app, ng_add] at q3 q4
    obtain ⟨q11, q12⟩ := At_app.mp q1
    obtain ⟨q21, q22⟩ := At_app.mp q2
    obtain ⟨q31, q32⟩ := At_app.mp q3
    obtain ⟨q41, q42⟩ := At_app.mp q4
    rw [owL_len hss] at q12
    rw [List.length_map, nmL_len hss] at q22
    rw [ng_len] at q32 q42
    have ps : Pre qi σ s p i := ⟨q11, q21, q31, q41⟩
    have h' : RowL σ (σ.1 qi 0) (a ++ (s ++ (r ++ b))) := by simpa using h
    have hb' : (a ++ (s ++ (r ++ b))).length ≤ 480 := by simpa using hb
    rw [show p + ((s ++ r).length : Int) - 1 = p + s.length + r.length - 1 by rw [List.length_append]; omega]
    refine ih σ (a ++ s) b (p + s.length) (i + cs s) nx (by simpa using h) (by simpa using hb) (by rw [List.length_append]; omega) ⟨q12, q22, q32, q42⟩ (by omega) (by omega) hc (fun σ0 g0 => ?_)
    generalize hn : nxt r (i + cs s) nx = n1 at k ⊢
    have h0 := rowK h' g0.2.2.2.2.1 g0.2.2.2.2.2.2
    have c0 : σ0.1 qi 1 = σ.1 qi 1 := by rw [g0.2.2.2.2.1]
    have ps0 : Pre qi σ0 s p i := ps.fr (g0.2.2.2.2.2.1 12 (by decide) (by decide) (by decide) (by decide) (by decide)) (g0.2.2.2.2.2.1 2 (by decide) (by decide) (by decide) (by decide) (by decide)) (fun k j hk j0 j1 => g0.2.2.1 k j hk (Or.inl j1))
    have rest : ∀ σ1, Lr qi σ0 σ1 i (ynL s i n1) → L i (p - 1) σ1 := fun σ1 g1 => k σ1 (Lr.app (N := ynL s i n1) (by rw [ynL_len hss]; exact g0) g1)
    clear k ih q1 q2 q3 q4 q11 q12 q21 q22 q31 q32 q41 q42 ps h h'
    obtain ⟨q1, q2, q3, q4⟩ := ps0
    have hx0 : i < σ0.1 qi 1 ∧ i < 40 := by rw [c0]; omega
    rcases hs with ⟨v, e, hv, he, rfl⟩ | rfl | ⟨t, x, y, B, C, ht, hx, hy, hB, hC, rfl⟩ | ⟨t, x, y, B, ht, hx, hy, hB, rfl⟩
    · have hv' := hv
      unfold setC at hv'
      rw [owL_set1 hv he] at q1
      rw [cs_yes (by omega), he.csz] at q4
      rw [ynL_set1 hv he] at rest
      simp only [List.length_append, List.length_cons] at hb'
      rw [show p + ((v :: e).length : Int) - 1 = p + 1 + e.length - 1 by simp only [List.length_cons]; omega]
      refine lk_negs hL e.length (by omega) (by omega) q1.2 ?_
      rw [show p + 1 - 1 = p by omega]
      refine lk_head (a := a) (c := v) (b := e ++ (r ++ b)) (i := i) hL h0 (by simp only [List.length_append, List.length_cons]; omega) hp q1.1 ⟨i0, hx0⟩ (by omega) (rest _ (Lr_one q4.1))
    · rw [owL_fail1] at q1
      rw [ynL_fail1] at rest
      have hb2 := hb'
      simp only [List.length_append, List.length_cons] at hb2
      rw [show p + (([111] : List Int).length : Int) - 1 = p by simp only [List.length_cons, List.length_nil]; omega]
      refine lk_fail (a := a) (b := r ++ b) (i := i) hL h0 (by simpa using hb') hp q1.1 ⟨i0, hx0⟩ (rest _ ⟨⟨q3.1, trivial⟩, ⟨q4.1, trivial⟩, fun _ _ _ _ => rfl, fun _ _ => rfl, rfl, fun _ _ _ _ _ _ => rfl, Fq.refl⟩)
    · rw [owL_if1 ht hx hy hB.1 hC.1] at q1
      rw [nmL_if1 ht hx hy hB.1 hC.1] at q2
      rw [cs_if ht hx hy] at q3 q4 h40
      rw [ynL_if1 ht hx hy hB.1 hC.1] at rest
      have lB : (ynL B (i + 1) n1).length = cs B := ynL_len hB.1 _ _
      have lC : (ynL C (i + 1 + cs B) n1).length = cs C := ynL_len hC.1 _ _
      -- owners
      obtain ⟨o1, o2⟩ := q1
      obtain ⟨o3, o4⟩ := At_app2 (x := ng (x.length + y.length + 1)) (y := owL B (i + 1) ++ (i :: (owL C (i + 1 + cs B) ++ [i]))) o2
      rw [ng_len] at o4
      obtain ⟨o5, o6⟩ := At_app.mp o4
      rw [owL_len hB.1] at o6
      obtain ⟨o7, o8⟩ := o6
      obtain ⟨o9, o10⟩ := At_app.mp o8
      rw [owL_len hC.1] at o10
      have pB : p + 1 + ((x.length + y.length + 1 : Nat) : Int) = p + 2 + x.length + y.length := by omega
      rw [pB] at o5 o7 o9 o10
      -- kinds
      obtain ⟨d1, d2⟩ := q2
      obtain ⟨d3, d4⟩ := At_app2 (x := (nmL B (p + 2 + x.length + y.length)).map (·.2.1)) (y := (nmL C (p + 2 + x.length + y.length + B.length + 1)).map (·.2.1)) (by rw [← List.map_append]; exact d2)
      rw [List.length_map, nmL_len hB.1] at d4
      have sng : ng (cs B + cs C + 1) = -1 :: (ng (cs B) ++ ng (cs C)) := by
        rw [← ng_add]; rfl
      rw [sng] at q3 q4
      obtain ⟨y1, y2⟩ := q3
      obtain ⟨y3, y4⟩ := At_app.mp y2
      obtain ⟨z1, z2⟩ := q4
      obtain ⟨z3, z4⟩ := At_app.mp z2
      rw [ng_len] at y4 z4
      have h2 : RowL σ0 (σ0.1 qi 0) (a ++ (112 :: t :: (x ++ (y ++ (B ++ (113 :: (C ++ (114 :: (r ++ b))))))))) := by simpa using h0
      have hb2 : (a ++ (112 :: t :: (x ++ (y ++ (B ++ (113 :: (C ++ (114 :: (r ++ b))))))))).length ≤ 480 := by simpa using hb'
      have hb3 := hb2
      simp only [List.length_append, List.length_cons] at hb3
      rw [len_if, show p + ((x.length + y.length + B.length + C.length + 4 : Nat) : Int) - 1 = p + 2 + x.length + y.length + B.length + 1 + C.length by omega]
      -- the close
      refine lk_close (a := a ++ (112 :: t :: (x ++ (y ++ (B ++ (113 :: C)))))) (b := r ++ b) (c := 112) (i := i) hL (by simpa using h2) (by simpa using hb2) (by simp only [List.length_append, List.length_cons]; omega) (by exact o10.1) ⟨i0, hx0⟩ d1 ?_
      rw [if_neg (by decide)]
      generalize hσ1 : pF σ0 (qi + 10) (uZ (σ0.2.1 (qi + 10)) i n1) = σ1
      have f1 : Fq (fl qi) No No σ0 σ1 := by rw [← hσ1]; exact fqF (by decide)
      have e1 : σ1.1 = σ0.1 := by rw [← hσ1]; rfl
      have a1 : ∀ k, k ≠ 10 → σ1.2.1 (qi + k) = σ0.2.1 (qi + k) := fun k hk => by rw [← hσ1, pF_get, if_neg (by omega)]
      have t1' : σ1.2.1 (qi + 10) = uZ (σ0.2.1 (qi + 10)) i n1 := by rw [← hσ1, pF_get, if_pos rfl]
      clear hσ1
      have h3 := rowK h2 e1 f1
      -- the else part
      refine hC.2 σ1 (a ++ (112 :: t :: (x ++ (y ++ (B ++ [113]))))) (114 :: (r ++ b)) (p + 2 + x.length + y.length + B.length + 1) (i + 1 + cs B) n1 (by simpa using h3) (by simpa using hb2) (by simp only [List.length_append, List.length_cons, List.length_nil]; omega) ⟨by rw [a1 12 (by decide)]; exact o9, by rw [a1 2 (by decide)]; exact d4, by rw [a1 5 (by decide)]; exact y4, by rw [a1 6 (by decide)]; exact z4⟩ (by omega) (by rw [e1, c0]; omega) (by rw [e1, c0]; omega) (fun σ2 g2 => ?_)
      obtain ⟨u1', u2, u3, u4, u5, u6, u7⟩ := g2
      have h4 := rowK h3 u5 u7
      have m2 : ∀ k, 1 ≤ k → k ≤ 12 → k ≠ 5 → k ≠ 6 → k ≠ 10 → σ2.2.1 (qi + k) = σ0.2.1 (qi + k) := fun k k0 k1 k2 k3 k4 => (u6 k k0 k1 k2 k3 k4).trans (a1 k k4)
      rw [show p + 2 + (x.length : Int) + y.length + B.length + 1 - 1 = p + 2 + x.length + y.length + B.length by omega]
      refine lk_else (a := a ++ (112 :: t :: (x ++ (y ++ B)))) (b := C ++ (114 :: (r ++ b))) (i := i) hL (by simpa using h4) (by simpa using hb2) (by simp only [List.length_append, List.length_cons]; omega) (by rw [m2 12 (by decide) (by decide) (by decide) (by decide) (by decide)]; exact o7) (by rw [u5, e1]; exact ⟨i0, hx0⟩) ?_
      have b10 : σ2.2.1 (qi + 10) i = n1 := by rw [u4 i (by omega), t1']; exact if_pos rfl
      rw [b10]
      generalize hσ3 : pF σ2 (qi + 6) (uZ (σ2.2.1 (qi + 6)) i (nxt C (i + 1 + cs B) n1)) = σ3
      have f3 : Fq (fl qi) No No σ2 σ3 := by rw [← hσ3]; exact fqF (by decide)
      have e3 : σ3.1 = σ2.1 := by rw [← hσ3]; rfl
      have a3 : ∀ k, k ≠ 6 → σ3.2.1 (qi + k) = σ2.2.1 (qi + k) := fun k hk => by rw [← hσ3, pF_get, if_neg (by omega)]
      have t3 : σ3.2.1 (qi + 6) = uZ (σ2.2.1 (qi + 6)) i (nxt C (i + 1 + cs B) n1) := by rw [← hσ3, pF_get, if_pos rfl]
      clear hσ3
      have h5 := rowK h4 e3 f3
      have un : ∀ {f : Int → Int} {v j : Int}, j ≠ i → uZ f i v j = f j := fun {f v j} z => if_neg z
      have pB3 : ∀ k j, (k = 5 ∨ k = 6) → i + 1 ≤ j → j < i + 1 + cs B → σ3.2.1 (qi + k) j = σ0.2.1 (qi + k) j := fun k j hk j0 j1 => by
        rcases hk with rfl | rfl
        · rw [a3 5 (by decide), u3 5 j (Or.inl rfl) (Or.inl j1), a1 5 (by decide)]
        · rw [t3, un (by omega), u3 6 j (Or.inr rfl) (Or.inl j1), a1 6 (by decide)]
      -- the then part
      refine hB.2 σ3 (a ++ (112 :: t :: (x ++ y))) (113 :: (C ++ (114 :: (r ++ b)))) (p + 2 + x.length + y.length) (i + 1) n1 (by simpa using h5) (by simpa using hb2) (by simp only [List.length_append, List.length_cons]; omega) (Pre.fr (σ := σ0) ⟨o5, d3, y3, z3⟩ (by rw [a3 12 (by decide)]; exact m2 12 (by decide) (by decide) (by decide) (by decide) (by decide)) (by rw [a3 2 (by decide)]; exact m2 2 (by decide) (by decide) (by decide) (by decide) (by decide)) pB3) (by omega) (by rw [e3, u5, e1, c0]; omega) (by rw [e3, u5, e1, c0]; omega) (fun σ4 g4 => ?_)
      obtain ⟨w1, w2, w3, w4, w5, w6, w7⟩ := g4
      have h6 := rowK h5 w5 w7
      have m4 : ∀ k, 1 ≤ k → k ≤ 12 → k ≠ 5 → k ≠ 6 → k ≠ 10 → σ4.2.1 (qi + k) = σ0.2.1 (qi + k) := fun k k0 k1 k2 k3 k4 => (w6 k k0 k1 k2 k3 k4).trans ((a3 k k3).trans (m2 k k0 k1 k2 k3 k4))
      rw [show p + 2 + (x.length : Int) + y.length - 1 = p + 1 + ((x.length + y.length + 1 : Nat) : Int) - 1 by omega]
      refine lk_negs hL _ (by omega) (by omega) (by rw [m4 12 (by decide) (by decide) (by decide) (by decide) (by decide)]; exact o3) ?_
      rw [show p + 1 - 1 = p by omega]
      refine lk_head (a := a) (c := 112) (i := i) hL h6 hb2 hp (by rw [m4 12 (by decide) (by decide) (by decide) (by decide) (by decide)]; exact o1) (by rw [w5, e3, u5, e1]; exact ⟨i0, hx0⟩) (by decide) (rest _ ?_)
      have up : ∀ {f : Int → Int} {v : Int}, uZ f i v i = v := fun {f v} => if_pos rfl
      refine ⟨⟨?_, ?_⟩, ⟨?_, ?_⟩, fun k j hk hj => ?_, fun j hj => ?_, ?_, fun k k0 k1 k2 k3 k4 => ?_, ((((f1.trans u7).trans f3).trans w7).trans (fqF (by decide)))⟩
      · rw [pF_get, if_pos rfl]; exact up
      · rw [pF_get, if_pos rfl, List.map_append]
        refine At_app.mpr ⟨At_uZ (Or.inl (by omega)) w1, ?_⟩
        rw [List.length_map, lB]
        refine At_uZ (Or.inl (by omega)) (At_same (fun j j0 j1 => ?_) u1')
        rw [w3 5 j (Or.inl rfl) (Or.inr (by rw [lB]; exact j0)), a3 5 (by decide)]
      · rw [pF_get, if_neg (by omega), w3 6 i (Or.inr rfl) (Or.inl (by omega)), t3]; exact up
      · rw [pF_get, if_neg (by omega), List.map_append]
        refine At_app.mpr ⟨w2, ?_⟩
        rw [List.length_map, lB]
        refine At_same (fun j j0 j1 => ?_) u2
        rw [w3 6 j (Or.inr rfl) (Or.inr (by rw [lB]; exact j0)), t3, un (by omega)]
      · simp only [List.length_cons, List.length_append, lB, lC] at hj
        rcases hk with rfl | rfl
        · rw [pF_get, if_pos rfl, un (by omega), w3 5 j (Or.inl rfl) (by rw [lB]; omega), a3 5 (by decide), u3 5 j (Or.inl rfl) (by rw [lC]; omega), a1 5 (by decide)]
        · rw [pF_get, if_neg (by omega), w3 6 j (Or.inr rfl) (by rw [lB]; omega), t3, un (by omega), u3 6 j (Or.inr rfl) (by rw [lC]; omega), a1 6 (by decide)]
      · rw [pF_get, if_neg (by omega), w4 j (by omega), a3 10 (by decide), u4 j (by omega), t1', un (by omega)]
      · show σ4.1 = σ0.1
        rw [w5, e3, u5, e1]
      · rw [pF_get, if_neg (by omega)]; exact m4 k k0 k1 k2 k3 k4
    · rw [owL_wh1 ht hx hy hB.1] at q1
      rw [nmL_wh1 ht hx hy hB.1] at q2
      rw [cs_wh ht hx hy] at q3 q4 h40
      rw [ynL_wh1 ht hx hy hB.1] at rest
      have lB : (ynL B (i + 1) i).length = cs B := ynL_len hB.1 _ _
      obtain ⟨o1, o2⟩ := q1
      obtain ⟨o3, o4⟩ := At_app2 (x := ng (x.length + y.length + 1)) (y := owL B (i + 1) ++ [i]) o2
      rw [ng_len] at o4
      obtain ⟨o5, o6⟩ := At_app.mp o4
      rw [owL_len hB.1] at o6
      have pB : p + 1 + ((x.length + y.length + 1 : Nat) : Int) = p + 2 + x.length + y.length := by omega
      rw [pB] at o5 o6
      obtain ⟨d1, d3⟩ := q2
      have sng : ng (cs B + 1) = -1 :: ng (cs B) := rfl
      rw [sng] at q3 q4
      obtain ⟨y1, y3⟩ := q3
      obtain ⟨z1, z3⟩ := q4
      have h2 : RowL σ0 (σ0.1 qi 0) (a ++ (115 :: t :: (x ++ (y ++ (B ++ (114 :: (r ++ b))))))) := by simpa using h0
      have hb2 : (a ++ (115 :: t :: (x ++ (y ++ (B ++ (114 :: (r ++ b))))))).length ≤ 480 := by simpa using hb'
      have hb3 := hb2
      simp only [List.length_append, List.length_cons] at hb3
      rw [len_wh, show p + ((x.length + y.length + B.length + 3 : Nat) : Int) - 1 = p + 2 + x.length + y.length + B.length by omega]
      refine lk_close (a := a ++ (115 :: t :: (x ++ (y ++ B)))) (b := r ++ b) (c := 115) (i := i) hL (by simpa using h2) (by simpa using hb2) (by simp only [List.length_append, List.length_cons]; omega) (by exact o6.1) ⟨i0, hx0⟩ d1 ?_
      rw [if_pos rfl]
      generalize hσ1 : pF σ0 (qi + 10) (uZ (σ0.2.1 (qi + 10)) i n1) = σ1
      have f1 : Fq (fl qi) No No σ0 σ1 := by rw [← hσ1]; exact fqF (by decide)
      have e1 : σ1.1 = σ0.1 := by rw [← hσ1]; rfl
      have a1 : ∀ k, k ≠ 10 → σ1.2.1 (qi + k) = σ0.2.1 (qi + k) := fun k hk => by rw [← hσ1, pF_get, if_neg (by omega)]
      have t1' : σ1.2.1 (qi + 10) = uZ (σ0.2.1 (qi + 10)) i n1 := by rw [← hσ1, pF_get, if_pos rfl]
      clear hσ1
      have h3 := rowK h2 e1 f1
      refine hB.2 σ1 (a ++ (115 :: t :: (x ++ y))) (114 :: (r ++ b)) (p + 2 + x.length + y.length) (i + 1) i (by simpa using h3) (by simpa using hb2) (by simp only [List.length_append, List.length_cons]; omega) ⟨by rw [a1 12 (by decide)]; exact o5, by rw [a1 2 (by decide)]; exact d3, by rw [a1 5 (by decide)]; exact y3, by rw [a1 6 (by decide)]; exact z3⟩ (by omega) (by rw [e1, c0]; omega) (by rw [e1, c0]; omega) (fun σ4 g4 => ?_)
      obtain ⟨w1, w2, w3, w4, w5, w6, w7⟩ := g4
      have h6 := rowK h3 w5 w7
      have m4 : ∀ k, 1 ≤ k → k ≤ 12 → k ≠ 5 → k ≠ 6 → k ≠ 10 → σ4.2.1 (qi + k) = σ0.2.1 (qi + k) := fun k k0 k1 k2 k3 k4 => (w6 k k0 k1 k2 k3 k4).trans (a1 k k4)
      rw [show p + 2 + (x.length : Int) + y.length - 1 = p + 1 + ((x.length + y.length + 1 : Nat) : Int) - 1 by omega]
      refine lk_negs hL _ (by omega) (by omega) (by rw [m4 12 (by decide) (by decide) (by decide) (by decide) (by decide)]; exact o3) ?_
      rw [show p + 1 - 1 = p by omega]
      have up : ∀ {f : Int → Int} {v : Int}, uZ f i v i = v := fun {f v} => if_pos rfl
      have un : ∀ {f : Int → Int} {v j : Int}, j ≠ i → uZ f i v j = f j := fun {f v j} z => if_neg z
      have b10 : σ4.2.1 (qi + 10) i = n1 := by rw [w4 i (by omega), t1']; exact up
      refine lk_while (a := a) (i := i) hL h6 hb2 hp (by rw [m4 12 (by decide) (by decide) (by decide) (by decide) (by decide)]; exact o1) (by rw [w5, e1]; exact ⟨i0, hx0⟩) (rest _ ?_)
      rw [b10]
      refine ⟨⟨?_, ?_⟩, ⟨?_, ?_⟩, fun k j hk hj => ?_, fun j hj => ?_, ?_, fun k k0 k1 k2 k3 k4 => ?_, (((f1.trans w7).trans (fqF (by decide))).trans (fqF (by decide)))⟩
      · rw [pF_get, if_neg (by omega), pF_get, if_pos rfl]; exact up
      · rw [pF_get, if_neg (by omega), pF_get, if_pos rfl]
        exact At_uZ (Or.inl (by omega)) w1
      · rw [pF_get, if_pos rfl]; exact up
      · rw [pF_get, if_pos rfl]
        exact At_uZ (Or.inl (by omega)) w2
      · simp only [List.length_cons, lB] at hj
        rcases hk with rfl | rfl
        · rw [pF_get, if_neg (by omega), pF_get, if_pos rfl, un (by omega), w3 5 j (Or.inl rfl) (by rw [lB]; omega), a1 5 (by decide)]
        · rw [pF_get, if_pos rfl, un (by omega), w3 6 j (Or.inr rfl) (by rw [lB]; omega), a1 6 (by decide)]
      · rw [pF_get, if_neg (by omega), pF_get, if_neg (by omega), w4 j (by omega), t1', un (by omega)]
      · show σ4.1 = σ0.1
        rw [w5, e1]
      · rw [pF_get, if_neg (by omega), pF_get, if_neg (by omega)]; exact m4 k k0 k1 k2 k3 k4
theorem link_k {n : Int} {l : List Int} (h : RowL σ n l) (hn : σ.1 qi 0 = n) (hl : Sq l) (h40 : cs l ≤ 40) (hb : l.length ≤ 480) (hc : σ.1 qi 1 = (cs l : Int)) (hN : AtN σ qi 0 (nmL l 0)) (hO : At (σ.2.1 (qi + 12)) 0 (owL l 0)) (k : ∀ σ', Lr qi σ σ' 0 (ynL l 0 (-1)) → K σ') : wp5_F_link σ qi K := by
  subst hn
  have hr := h.1
  have hlen := h.2.2.1
  obtain ⟨n1, n2, n3, n4, n5, n6, n7, n8⟩ := hN
  rw [nmL_len hl] at n7 n8
  have em : min ((l.length : Nat) : Int) 480 = l.length := Int.min_eq_left (by omega)
  unfold wp5_F_link
  rw [hlen, em]
  refine ⟨hr, rng_small (by omega) (by omega), ?_⟩
  intro L hL
  have := LkP_sq hL hl σ [] [] 0 0 (-1) (by simpa using h) (by simpa using hb) rfl ⟨hO, n2, n7, n8⟩ (by omega) (by omega) (by omega) (fun σ' g => hL _ _ _ ⟨fun _ => k σ' g, fun z => absurd z (by omega)⟩)
  rw [Int.zero_add] at this
  exact this
end LP
