-- ===== Flow.number over rows
section NS
variable {p i : Int}
theorem nmL_set1 {v : Int} {e : List Int} (hv : setC v ∨ v = 110) (he : Ex lfR e) : nmL (v :: e) p = [(p, v, p + 1, p + 1 + e.length, rdL 0 e, stC v)] := by
  have := nmL_set (p := p) hv he Sq.nil
  rwa [List.append_nil, nmL_nil] at this
theorem nmL_fail1 : nmL [111] p = [(p, 111, p + 1, p + 1, 0, 0)] := by
  have := nmL_fail (p := p) Sq.nil
  rwa [List.append_nil, nmL_nil] at this
theorem nmL_if1 {t : Int} {a b B C : List Int} (ht : testC t) (ha : Ex lfR a) (hb : Ex lfR b) (hB : Sq B) (hC : Sq C) : nmL (112 :: t :: (a ++ (b ++ (B ++ (113 :: (C ++ [114])))))) p = (p, 112, p + 2, p + 2 + a.length + b.length, rdL 0 (a ++ b), 0) :: (nmL B (p + 2 + a.length + b.length) ++ nmL C (p + 2 + a.length + b.length + B.length + 1)) := by
  have := nmL_if (p := p) ht ha hb hB hC Sq.nil
  rwa [List.append_nil, nmL_nil, List.append_nil] at this
theorem nmL_wh1 {t : Int} {a b B : List Int} (ht : testC t) (ha : Ex lfR a) (hb : Ex lfR b) (hB : Sq B) : nmL (115 :: t :: (a ++ (b ++ (B ++ [114])))) p = (p, 115, p + 2, p + 2 + a.length + b.length, rdL 0 (a ++ b), 0) :: nmL B (p + 2 + a.length + b.length) := by
  have := nmL_wh (p := p) ht ha hb hB Sq.nil
  rwa [List.append_nil, nmL_nil, List.append_nil] at this
theorem owL_set1 {v : Int} {e : List Int} (hv : setC v ∨ v = 110) (he : Ex lfR e) : owL (v :: e) i = i :: ng e.length := by
  have := owL_set (i := i) hv he Sq.nil
  rwa [List.append_nil, owL_nil, List.append_nil] at this
theorem owL_fail1 : owL [111] i = [i] := by
  have := owL_fail (i := i) Sq.nil
  rwa [List.append_nil, owL_nil] at this
theorem owL_if1 {t : Int} {a b B C : List Int} (ht : testC t) (ha : Ex lfR a) (hb : Ex lfR b) (hB : Sq B) (hC : Sq C) : owL (112 :: t :: (a ++ (b ++ (B ++ (113 :: (C ++ [114])))))) i = i :: -1 :: (ng (a.length + b.length) ++ (owL B (i + 1) ++ (i :: (owL C (i + 1 + cs B) ++ [i])))) := by
  have := owL_if (i := i) ht ha hb hB hC Sq.nil
  rwa [List.append_nil, owL_nil, List.append_nil] at this
theorem owL_wh1 {t : Int} {a b B : List Int} (ht : testC t) (ha : Ex lfR a) (hb : Ex lfR b) (hB : Sq B) : owL (115 :: t :: (a ++ (b ++ (B ++ [114])))) i = i :: -1 :: (ng (a.length + b.length) ++ (owL B (i + 1) ++ [i])) := by
  have := owL_wh (i := i) ht ha hb hB Sq.nil
  rwa [List.append_nil, owL_nil, List.append_nil] at this
theorem nmL_app {s r : List Int} (hs : Sm Sq s) (hr : Sq r) : nmL (s ++ r) p = nmL s p ++ nmL r (p + s.length) := by
  rcases hs with ⟨v, e, hv, he, rfl⟩ | rfl | ⟨t, a, b, B, C, ht, hA, hB, hb, hc, rfl⟩ | ⟨t, a, b, B, ht, hA, hB, hb, rfl⟩
  · rw [nmL_set hv he hr, nmL_set1 hv he, show p + 1 + (e.length : Int) = p + ((v :: e).length : Nat) by simp only [List.length_cons]; omega]; rfl
  · rw [nmL_fail hr, nmL_fail1]; rfl
  · rw [nmL_if ht hA hB hb hc hr, nmL_if1 ht hA hB hb hc, show p + 2 + (a.length : Int) + b.length + B.length + 1 + C.length + 1 = p + ((112 :: t :: (a ++ (b ++ (B ++ (113 :: (C ++ [114])))))).length : Nat) by rw [len_if]; omega]
  · rw [nmL_wh ht hA hB hb hr, nmL_wh1 ht hA hB hb, show p + 2 + (a.length : Int) + b.length + B.length + 1 = p + ((115 :: t :: (a ++ (b ++ (B ++ [114])))).length : Nat) by rw [len_wh]; omega]
theorem owL_app {s r : List Int} (hs : Sm Sq s) (hr : Sq r) : owL (s ++ r) i = owL s i ++ owL r (i + cs s) := by
  rcases hs with ⟨v, e, hv, he, rfl⟩ | rfl | ⟨t, a, b, B, C, ht, hA, hB, hb, hc, rfl⟩ | ⟨t, a, b, B, ht, hA, hB, hb, rfl⟩
  · rw [owL_set hv he hr, owL_set1 hv he, cs_yes (by unfold setC at hv; omega), he.csz]
    show i :: (ng e.length ++ owL r (i + 1)) = i :: (ng e.length ++ owL r (i + 1))
    rfl
  · rw [owL_fail hr, owL_fail1]
    show i :: owL r (i + 1) = i :: owL r (i + 1)
    rfl
  · rw [owL_if ht hA hB hb hc hr, owL_if1 ht hA hB hb hc, cs_if ht hA hB, show i + 1 + (cs B : Int) + cs C = i + ((cs B + cs C + 1 : Nat) : Int) by omega]
  · rw [owL_wh ht hA hB hb hr, owL_wh1 ht hA hB hb, cs_wh ht hA hB, show i + 1 + (cs B : Int) = i + ((cs B + 1 : Nat) : Int) by omega]
end NS
section NP
variable {σ σ1 σ2 : Sg} {qi : Nat} {K : Sg → Prop} {L : Int → Int → Sg → Prop} {d p i c : Int} {a b e w : List Int}
theorem gn_ex {q fr st : Int} (h : Gn qi σ σ1 p i d [(q, c, fr, fr, 0, st)] w) (hw : p + w.length = fr) (g : ExS qi i fr e σ1 σ2) (he : e ≠ []) : Gn qi σ σ2 p i d [(q, c, fr, fr + e.length, rdL 0 e, st)] (w ++ ng e.length) := by
  obtain ⟨h1, h2, ⟨n1, n2, n3, n4, n5, n6, n7, n8⟩, h4, h5, h6, h7, h8⟩ := h
  obtain ⟨g1, g2, g3, g4, g5, g6, g7, g8⟩ := g
  have sm : ∀ k j, 1 ≤ k → k ≤ 8 → j ≠ i → σ2.2.1 (qi + k) j = σ1.2.1 (qi + k) j := fun k j k1 k2 hj => by
    by_cases z : k = 4 ∨ k = 7
    · exact g3 k j hj z
    · rw [g2 k k1 (by omega) (fun q => z (Or.inl q)) (fun q => z (Or.inr q))]
  have e0 : σ1.2.1 (qi + 7) i = 0 := n5.1
  refine ⟨by rw [g1]; exact h1, by rw [g1]; exact h2, ⟨?_, ?_, ?_, ⟨?_, trivial⟩, ⟨?_, trivial⟩, ?_, ?_, ?_⟩, At_app.mpr ⟨At_same (fun j j0 j1 => g7 j (Or.inl (by omega))) h4, by rw [hw]; exact g6⟩, fun k j k1 k2 hj => (sm k j k1 k2 (by omega)).trans (h5 k j k1 k2 hj), fun j hj => by rw [g2 11 (by decide) (by decide) (by decide) (by decide)]; exact h6 j hj, fun j hj => (g7 j (Or.inl (by omega))).trans (h7 j hj), h8.trans g8⟩
  · rw [g2 1 (by decide) (by decide) (by decide) (by decide)]; exact n1
  · rw [g2 2 (by decide) (by decide) (by decide) (by decide)]; exact n2
  · rw [g2 3 (by decide) (by decide) (by decide) (by decide)]; exact n3
  · rw [g4, if_neg he]
  · rw [g5, e0]
  · rw [g2 8 (by decide) (by decide) (by decide) (by decide)]; exact n6
  · rw [g2 5 (by decide) (by decide) (by decide) (by decide)]; exact n7
  · rw [g2 6 (by decide) (by decide) (by decide) (by decide)]; exact n8
theorem rowG {N : List N6} {x : List Int} (h : RowL σ (σ.1 qi 0) x) (g : Gn qi σ σ1 p i d N w) : RowL σ1 (σ1.1 qi 0) x := by
  rw [g.2.1]; exact h.fl g.2.2.2.2.2.2.2
theorem Gn.cast {N : List N6} {p' i' : Int} (h : Gn qi σ σ1 p i d N w) (hp : p' = p) (hi : i' = i) : Gn qi σ σ1 p' i' d N w := by
  subst hp; subst hi; exact h
def NmP (qi : Nat) (L : Int → Int → Sg → Prop) (l : List Int) : Prop := ∀ (σ : Sg) (a b : List Int) (p i d : Int), RowL σ (σ.1 qi 0) (a ++ (l ++ b)) → (a ++ (l ++ b)).length ≤ 480 → p = a.length → σ.1 qi 1 = i → 0 ≤ i → i + cs l ≤ 40 → 0 ≤ d → d ≤ i → (∀ σ', Gn qi σ σ' p i d (nmL l p) (owL l i) → L d (p + l.length) σ') → L d p σ
theorem Ex.isPs (he : Ex lfR e) : ∀ c ∈ e, isP c = true := fun c hc => isP_t.mpr (by have := he.all c hc; unfold lfR opC at this; omega)
theorem Ex.ne (he : Ex lfR e) : e ≠ [] := fun z => by have := he.pos; rw [z] at this; exact absurd this (by decide)
/-- the head of an if or while, with its test -/
theorem tk_branch {t : Int} {x y : List Int} (hL : ∀ d p s, wp5_F_number_9 K qi L d p s → L d p s) (hc : c = 112 ∨ c = 115) (ht : testC t) (hx : Ex lfR x) (hy : Ex lfR y) (h : RowL σ (σ.1 qi 0) (a ++ (c :: t :: (x ++ (y ++ b))))) (hb : (a ++ (c :: t :: (x ++ (y ++ b)))).length ≤ 480) (hp : p = a.length) (hi : σ.1 qi 1 = i) (i0 : 0 ≤ i ∧ i < 40) (d0 : 0 ≤ d ∧ d ≤ i) (k : ∀ σ', Gn qi σ σ' p i d [(p, c, p + 2, p + 2 + x.length + y.length, rdL 0 (x ++ y), 0)] (i :: -1 :: ng (x.length + y.length)) → σ'.2.1 (qi + 11) d = i → L (d + 1) (p + 2 + x.length + y.length) σ') : L d p σ := by
  refine tk_head (a := a) (c := c) (b := t :: (x ++ (y ++ b))) hL h hb hp (isS_t.mpr (by omega)) hi i0 (by omega) (fun σ1 s1 => ?_)
  rw [if_pos hc] at s1 ⊢
  obtain ⟨g1, g2⟩ := s1
  have r1 := rowG h g1
  have c1 : σ1.1 qi 1 = i + 1 := g1.1
  refine tk_skip (a := a ++ [c]) (c := t) (b := x ++ (y ++ b)) (i := i + 1) hL (by simpa using r1) (by simpa using hb) (by simp only [List.length_append, List.length_cons, List.length_nil]; omega) ht c1 (fun σ2 e0 e1 e2 e3 e4 => ?_)
  have g3 : Gn qi σ1 σ2 (p + (([i] : List Int).length : Int)) (i + (([(p, c, p + 2, p + 2, 0, stC c)] : List N6).length : Int)) d [] [-1] := gn0 (v := 0) c1 e0 e1 e2 e3 e4
  have g4 := g1.app g3 (Int.le_refl d)
  have st0 : stC c = 0 := if_neg (by omega)
  rw [st0] at g4
  have r2 := rowG h g4
  have hne : x ++ y ≠ [] := fun z => hx.ne (List.append_eq_nil_iff.mp z).1
  refine tk_exps (a := a ++ [c, t]) (b := b) (i := i) hL i0 (x ++ y) (fun z hz => (List.mem_append.mp hz).elim (hx.isPs z) (hy.isPs z)) (by simpa using r2) (by simpa using hb) (by simp only [List.length_append, List.length_cons, List.length_nil]; omega) (by rw [e0]; exact c1) (fun σ3 s3 => ?_)
  have e5 : p + 1 + 1 = p + 2 := by omega
  rw [e5] at s3 ⊢
  have g5 := gn_ex g4 (by simp only [List.length_append, List.length_cons, List.length_nil]; omega) s3 hne
  have e6 : p + 2 + ((x ++ y).length : Int) = p + 2 + x.length + y.length := by rw [List.length_append]; omega
  rw [e6] at g5 ⊢
  rw [List.length_append] at g5
  refine k σ3 g5 ?_
  rw [s3.2.1 11 (by decide) (by decide) (by decide) (by decide), e1 11 (by decide) (by decide)]
  exact g2 hc
theorem NmP_sq (hL : ∀ d p s, wp5_F_number_9 K qi L d p s → L d p s) : ∀ {l : List Int}, Sq l → NmP qi L l := by
  intro l hl
  refine Sq.ind (P := NmP qi L) ?_ ?_ hl
  · intro σ a b p i d h hb hp hi i0 h40 d0 di k
    have := k σ ⟨by rw [nmL_nil]; simpa using hi, rfl, by rw [nmL_nil]; exact ⟨trivial, trivial, trivial, trivial, trivial, trivial, trivial, trivial⟩, by rw [owL_nil]; trivial, fun _ _ _ _ _ => rfl, fun _ _ => rfl, fun _ _ => rfl, Fq.refl⟩
    simpa using this
  · intro s r hs hr ih σ a b p i d h hb hp hi i0 h40 d0 di k
    have hs' := hs.mono (T := Sq) (fun _ h => h.1)
    rw [nmL_app hs' hr, owL_app hs' hr] at k
    rw [cs_app] at h40
    have hq : (nmL s p).length = cs s := nmL_len (Sq.one hs') p
    have hw : (owL s i).length = s.length := owL_len (Sq.one hs') i
    have h' : RowL σ (σ.1 qi 0) (a ++ (s ++ (r ++ b))) := by simpa using h
    have hb' : (a ++ (s ++ (r ++ b))).length ≤ 480 := by simpa using hb
    -- from the statement's end on
    have rest : ∀ σ1, Gn qi σ σ1 p i d (nmL s p) (owL s i) → L d (p + s.length) σ1 := fun σ1 g1 => by
      refine ih σ1 (a ++ s) b (p + s.length) (i + cs s) d (by simpa using rowG h g1) (by simpa using hb) (by rw [List.length_append]; omega) (by rw [g1.1, hq]) (by omega) (by omega) d0 (by omega) (fun σ2 g2 => ?_)
      have := k σ2 (g1.app (by rw [hw, hq]; exact g2) (Int.le_refl d))
      rw [show p + (s.length : Int) + r.length = p + ((s ++ r).length : Nat) by rw [List.length_append]; omega]
      exact this
    clear k ih
    have pos := hs'.csp
    rcases hs with ⟨v, e, hv, he, rfl⟩ | rfl | ⟨t, x, y, B, C, ht, hx, hy, hB, hC, rfl⟩ | ⟨t, x, y, B, ht, hx, hy, hB, rfl⟩
    · have hv' := hv
      unfold setC at hv'
      rw [nmL_set1 hv he, owL_set1 hv he] at rest
      refine tk_head (a := a) (c := v) (b := e ++ (r ++ b)) hL h' hb' hp (isS_t.mpr (by omega)) hi ⟨i0, by omega⟩ ⟨d0, by omega⟩ (fun σ1 s1 => ?_)
      rw [if_neg (by omega)] at s1 ⊢
      have r1 := rowG h' s1.1
      refine tk_exps (a := a ++ [v]) (b := r ++ b) (i := i) hL ⟨i0, by omega⟩ e he.isPs (by simpa using r1) (by simpa using hb') (by simp only [List.length_append, List.length_cons, List.length_nil]; omega) s1.1.1 (fun σ2 s2 => ?_)
      have g := gn_ex s1.1 (by simp only [List.length_cons, List.length_nil]; omega) s2 he.ne
      rw [show p + 1 + (e.length : Int) = p + ((v :: e).length : Nat) by simp only [List.length_cons]; omega]
      exact rest σ2 g
    · rw [nmL_fail1, owL_fail1] at rest
      refine tk_head (a := a) (c := 111) (b := r ++ b) hL h' hb' hp (isS_t.mpr (by omega)) hi ⟨i0, by omega⟩ ⟨d0, by omega⟩ (fun σ1 s1 => ?_)
      rw [if_neg (by omega)] at s1 ⊢
      exact rest σ1 (by have := s1.1; exact this)
    · have hcs : cs (112 :: t :: (x ++ (y ++ (B ++ (113 :: (C ++ [114])))))) = cs B + cs C + 1 := cs_if ht hx hy
      rw [nmL_if1 ht hx hy hB.1 hC.1, owL_if1 ht hx hy hB.1 hC.1] at rest
      rw [hcs] at h40
      have hl := len_if (t := t) (a := x) (b := y) (B := B) (C := C)
      have lB : (nmL B (p + 2 + x.length + y.length)).length = cs B := nmL_len hB.1 _
      have lC : (nmL C (p + 2 + x.length + y.length + B.length + 1)).length = cs C := nmL_len hC.1 _
      have oB : (owL B (i + 1)).length = B.length := owL_len hB.1 _
      have oC : (owL C (i + 1 + cs B)).length = C.length := owL_len hC.1 _
      have h2 : RowL σ (σ.1 qi 0) (a ++ (112 :: t :: (x ++ (y ++ (B ++ (113 :: (C ++ (114 :: (r ++ b))))))))) := by simpa using h'
      have hb2 : (a ++ (112 :: t :: (x ++ (y ++ (B ++ (113 :: (C ++ (114 :: (r ++ b))))))))).length ≤ 480 := by simpa using hb'
      refine tk_branch (b := B ++ (113 :: (C ++ (114 :: (r ++ b))))) hL (Or.inl rfl) ht hx hy h2 hb2 hp hi ⟨i0, by omega⟩ ⟨d0, di⟩ (fun σ1 g1 o1 => ?_)
      have r1 := rowG h2 g1
      refine hB.2 σ1 (a ++ (112 :: t :: (x ++ y))) (113 :: (C ++ (114 :: (r ++ b)))) _ (i + 1) (d + 1) (by simpa using r1) (by simpa using hb2) (by simp only [List.length_append, List.length_cons]; omega) g1.1 (by omega) (by omega) (by omega) (by omega) (fun σ2 g2 => ?_)
      have o2 : σ2.2.1 (qi + 11) d = i := (g2.2.2.2.2.2.1 d (by omega)).trans o1
      have g12 := g1.app (d' := d + 1) (M := nmL B (p + 2 + x.length + y.length)) (x := owL B (i + 1)) (g2.cast (by simp only [List.length_cons, List.length_append, List.length_nil, ng_len, oB, oC]; omega) (by simp only [List.length_append, List.length_cons, List.length_nil, lB, lC]; omega)) (by omega)
      have r2 := rowG h2 g12
      have c2 : σ2.1 qi 1 = i + 1 + cs B := by rw [g2.1, lB]
      refine tk_end (a := a ++ (112 :: t :: (x ++ (y ++ B)))) (c := 113) (b := C ++ (114 :: (r ++ b))) (i := i + 1 + cs B) (w := i) hL (by simpa using r2) (by simpa using hb2) (by simp only [List.length_append, List.length_cons]; omega) (Or.inl rfl) c2 (by omega) (by rw [show d + 1 - 1 = d by omega]; exact o2) (fun σ3 g3 e3 => ?_)
      rw [if_pos rfl]
      have o3 : σ3.2.1 (qi + 11) d = i := by rw [e3 11 (by decide) (by decide)]; exact o2
      have g13 := g12.app (d' := d + 1) (M := []) (x := [i]) (g3.cast (by simp only [List.length_cons, List.length_append, List.length_nil, ng_len, oB, oC]; omega) (by simp only [List.length_append, List.length_cons, List.length_nil, lB, lC]; omega)) (by omega)
      have r3 := rowG h2 g13
      refine hC.2 σ3 (a ++ (112 :: t :: (x ++ (y ++ (B ++ [113]))))) (114 :: (r ++ b)) _ (i + 1 + cs B) (d + 1) (by simpa using r3) (by simpa using hb2) (by simp only [List.length_append, List.length_cons, List.length_nil]; omega) (by rw [g3.1]; simp) (by omega) (by omega) (by omega) (by omega) (fun σ4 g4 => ?_)
      have o4 : σ4.2.1 (qi + 11) d = i := (g4.2.2.2.2.2.1 d (by omega)).trans o3
      have g14 := g13.app (d' := d + 1) (M := nmL C (p + 2 + x.length + y.length + B.length + 1)) (x := owL C (i + 1 + cs B)) (g4.cast (by simp only [List.length_cons, List.length_append, List.length_nil, ng_len, oB, oC]; omega) (by simp only [List.length_append, List.length_cons, List.length_nil, lB, lC]; omega)) (by omega)
      have r4 := rowG h2 g14
      refine tk_end (a := a ++ (112 :: t :: (x ++ (y ++ (B ++ (113 :: C)))))) (c := 114) (b := r ++ b) (i := i + 1 + cs B + cs C) (w := i) hL (by simpa using r4) (by simpa using hb2) (by simp only [List.length_append, List.length_cons]; omega) (Or.inr rfl) (by rw [g4.1, lC]) (by omega) (by rw [show d + 1 - 1 = d by omega]; exact o4) (fun σ5 g5 e5 => ?_)
      rw [if_neg (by decide), show d + 1 - 1 = d by omega]
      have g15 := g14.app (d' := d + 1) (M := []) (x := [i]) (g5.cast (by simp only [List.length_cons, List.length_append, List.length_nil, ng_len, oB, oC]; omega) (by simp only [List.length_append, List.length_cons, List.length_nil, lB, lC]; omega)) (by omega)
      have fin := rest σ5 (by simpa using g15)
      rw [hl] at fin
      rw [show p + 2 + (x.length : Int) + y.length + B.length + 1 + C.length + 1 = p + ((x.length + y.length + B.length + C.length + 4 : Nat) : Int) by omega]
      exact fin
    · have hcs : cs (115 :: t :: (x ++ (y ++ (B ++ [114])))) = cs B + 1 := cs_wh ht hx hy
      rw [nmL_wh1 ht hx hy hB.1, owL_wh1 ht hx hy hB.1] at rest
      rw [hcs] at h40
      have hl := len_wh (t := t) (a := x) (b := y) (B := B)
      have lB : (nmL B (p + 2 + x.length + y.length)).length = cs B := nmL_len hB.1 _
      have oB : (owL B (i + 1)).length = B.length := owL_len hB.1 _
      have h2 : RowL σ (σ.1 qi 0) (a ++ (115 :: t :: (x ++ (y ++ (B ++ (114 :: (r ++ b))))))) := by simpa using h'
      have hb2 : (a ++ (115 :: t :: (x ++ (y ++ (B ++ (114 :: (r ++ b))))))).length ≤ 480 := by simpa using hb'
      refine tk_branch (b := B ++ (114 :: (r ++ b))) hL (Or.inr rfl) ht hx hy h2 hb2 hp hi ⟨i0, by omega⟩ ⟨d0, di⟩ (fun σ1 g1 o1 => ?_)
      have r1 := rowG h2 g1
      refine hB.2 σ1 (a ++ (115 :: t :: (x ++ y))) (114 :: (r ++ b)) _ (i + 1) (d + 1) (by simpa using r1) (by simpa using hb2) (by simp only [List.length_append, List.length_cons]; omega) g1.1 (by omega) (by omega) (by omega) (by omega) (fun σ2 g2 => ?_)
      have o2 : σ2.2.1 (qi + 11) d = i := (g2.2.2.2.2.2.1 d (by omega)).trans o1
      have g12 := g1.app (d' := d + 1) (M := nmL B (p + 2 + x.length + y.length)) (x := owL B (i + 1)) (g2.cast (by simp only [List.length_cons, List.length_append, List.length_nil, ng_len, oB]; omega) (by simp only [List.length_append, List.length_cons, List.length_nil, lB]; omega)) (by omega)
      have r2 := rowG h2 g12
      refine tk_end (a := a ++ (115 :: t :: (x ++ (y ++ B)))) (c := 114) (b := r ++ b) (i := i + 1 + cs B) (w := i) hL (by simpa using r2) (by simpa using hb2) (by simp only [List.length_append, List.length_cons]; omega) (Or.inr rfl) (by rw [g2.1, lB]) (by omega) (by rw [show d + 1 - 1 = d by omega]; exact o2) (fun σ3 g3 e3 => ?_)
      rw [if_neg (by decide), show d + 1 - 1 = d by omega]
      have g13 := g12.app (d' := d + 1) (M := []) (x := [i]) (g3.cast (by simp only [List.length_cons, List.length_append, List.length_nil, ng_len, oB]; omega) (by simp only [List.length_append, List.length_cons, List.length_nil, lB]; omega)) (by omega)
      have fin := rest σ3 (by simpa using g13)
      rw [hl] at fin
      rw [show p + 2 + (x.length : Int) + y.length + B.length + 1 = p + ((x.length + y.length + B.length + 3 : Nat) : Int) by omega]
      exact fin
theorem number_k {n : Int} {l : List Int} (h : RowL σ n l) (hn : σ.1 qi 0 = n) (hl : Sq l) (h40 : cs l ≤ 40) (hb : l.length ≤ 480) (k : ∀ σ', σ'.1 qi 1 = (cs l : Int) → σ'.1 qi 0 = n → AtN σ' qi 0 (nmL l 0) → At (σ'.2.1 (qi + 12)) 0 (owL l 0) → Fq (fl qi) No No σ σ' → K σ') : wp5_F_number σ qi K := by
  subst hn
  unfold wp5_F_number
  intro L hL
  have e0 : (pU σ qi 1 0).1 qi 0 = σ.1 qi 0 := by rw [pU_get, if_neg (by omega)]
  have e1 : (pU σ qi 1 0).1 qi 1 = 0 := by rw [pU_get, if_pos ⟨rfl, rfl⟩]
  have h0 : RowL (pU σ qi 1 0) ((pU σ qi 1 0).1 qi 0) ([] ++ (l ++ [])) := by rw [e0]; simpa using h.fl fqU
  refine NmP_sq hL hl (pU σ qi 1 0) [] [] 0 0 0 h0 (by simpa using hb) rfl e1 (by omega) (by omega) (by omega) (by omega) (fun σ' g => ?_)
  obtain ⟨g1, g2, g3, g4, g5, g6, g7, g8⟩ := g
  have hr := h.1
  have hlen := h.2.2.1
  have f := (fqU (σ := σ) (qi := qi) (j := 1) (v := 0)).trans g8
  have hlen' := (h.fl f).2.2.1
  refine hL _ _ _ ⟨by rw [g2, e0]; exact hr, fun _ => k σ' (by rw [g1, nmL_len hl]; omega) (g2.trans e0) g3 g4 f, fun z => ?_⟩
  rw [g2, e0, hlen'] at z
  omega
end NP
