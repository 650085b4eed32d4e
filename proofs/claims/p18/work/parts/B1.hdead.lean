-- ===== the hasty DEAD in the reference: round by round
noncomputable def mkF (l : List Int) : List Int → List Int := SqF (X := List Int → List Int) (fun _ => []) (fun v e r y t => if (100 ≤ v ∧ v ≤ 105) ∧ (v - 100) + 20 ∉ r ++ t then y t else v :: (e ++ y t)) (fun _ y t => 111 :: y t)
  (fun tt a b _ C r y z w t => (112 :: tt :: (a ++ (b ++ (y (113 :: (C ++ (114 :: (r ++ t)))) ++ (113 :: (z (114 :: (r ++ t)) ++ [114])))))) ++ w t)
  (fun tt a b _ r y w t => (115 :: tt :: (a ++ (b ++ (y (114 :: (r ++ t)) ++ [114])))) ++ w t) l
theorem mkF_nil {t : List Int} : mkF [] t = [] := congrFun (SqF_nil (X := List Int → List Int)) t
theorem mkF_set {v : Int} {e r t : List Int} (hv : setC v ∨ v = 110) (he : Ex lfR e) (hr : Sq r) : mkF (v :: (e ++ r)) t = if (100 ≤ v ∧ v ≤ 105) ∧ (v - 100) + 20 ∉ r ++ t then mkF r t else v :: (e ++ mkF r t) := congrFun (SqF_set (X := List Int → List Int) hv he hr) t
theorem mkF_fail {r t : List Int} (hr : Sq r) : mkF (111 :: r) t = 111 :: mkF r t := congrFun (SqF_fail (X := List Int → List Int) hr) t
theorem mkF_if {tt : Int} {a b B C r t : List Int} (ht : testC tt) (ha : Ex lfR a) (hb : Ex lfR b) (hB : Sq B) (hC : Sq C) (hr : Sq r) : mkF ((112 :: tt :: (a ++ (b ++ (B ++ (113 :: (C ++ [114])))))) ++ r) t = (112 :: tt :: (a ++ (b ++ (mkF B (113 :: (C ++ (114 :: (r ++ t)))) ++ (113 :: (mkF C (114 :: (r ++ t)) ++ [114])))))) ++ mkF r t := congrFun (SqF_if (X := List Int → List Int) ht ha hb hB hC hr) t
theorem mkF_wh {tt : Int} {a b B r t : List Int} (ht : testC tt) (ha : Ex lfR a) (hb : Ex lfR b) (hB : Sq B) (hr : Sq r) : mkF ((115 :: tt :: (a ++ (b ++ (B ++ [114])))) ++ r) t = (115 :: tt :: (a ++ (b ++ (mkF B (114 :: (r ++ t)) ++ [114])))) ++ mkF r t := congrFun (SqF_wh (X := List Int → List Int) ht ha hb hB hr) t
/-- y reads what x reads -/
def RI (x y : List Int) : Prop := ∀ c, 20 ≤ c → c ≤ 25 → c ∈ x → c ∈ y
theorem RI.rf {x : List Int} : RI x x := fun _ _ _ h => h
theorem RI.app {a b c d : List Int} (h1 : RI a c) (h2 : RI b d) : RI (a ++ b) (c ++ d) := fun v h0 h5 h => by
  rcases List.mem_append.mp h with q | q
  · exact List.mem_append.mpr (Or.inl (h1 v h0 h5 q))
  · exact List.mem_append.mpr (Or.inr (h2 v h0 h5 q))
theorem RI.cons {c : Int} {a b : List Int} (h : RI a b) : RI (c :: a) (c :: b) := RI.app (a := [c]) (c := [c]) RI.rf h
theorem RI.right {a b c : List Int} (h : RI a c) : RI a (b ++ c) := fun v h0 h5 q => List.mem_append.mpr (Or.inr (h v h0 h5 q))
theorem RI.left {c : Int} {a b : List Int} (h : RI a b) : RI a (c :: b) := fun v h0 h5 q => List.mem_cons_of_mem _ (h v h0 h5 q)
def Md (l l' : List Int) : Prop := Sq l' ∧ RI l' l ∧ l'.length ≤ l.length
theorem mkF_sq : ∀ {l : List Int}, Sq l → ∀ t, Md l (mkF l t) := by
  intro l hl
  refine Sq.ind (P := fun l => ∀ t, Md l (mkF l t)) ?_ ?_ hl
  · intro t
    rw [mkF_nil]
    exact ⟨Sq.nil, RI.rf, Nat.le_refl _⟩
  · intro s r hs hr ih t
    obtain ⟨r1, r2, r3⟩ := ih t
    rcases hs with ⟨v, e, hv, he, rfl⟩ | rfl | ⟨tt, x, y, B, C, ht, hx, hy, hB, hC, rfl⟩ | ⟨tt, x, y, B, ht, hx, hy, hB, rfl⟩
    · rw [List.cons_append, mkF_set hv he hr]
      split
      · exact ⟨r1, RI.left (RI.right r2), by simp only [List.length_cons, List.length_append]; omega⟩
      · exact ⟨Sq.cons (s := v :: e) (Or.inl ⟨v, e, hv, he, rfl⟩) r1, RI.cons (RI.app RI.rf r2), by simp only [List.length_cons, List.length_append]; omega⟩
    · rw [List.cons_append, List.nil_append, mkF_fail hr]
      exact ⟨Sq.cons (s := [111]) (Or.inr (Or.inl rfl)) r1, RI.cons r2, by simp only [List.length_cons]; omega⟩
    · rw [mkF_if ht hx hy hB.1 hC.1 hr]
      obtain ⟨b1, b2, b3⟩ := hB.2 (113 :: (C ++ (114 :: (r ++ t))))
      obtain ⟨c1, c2, c3⟩ := hC.2 (114 :: (r ++ t))
      refine ⟨Sq.cons (Or.inr (Or.inr (Or.inl ⟨tt, x, y, _, _, ht, hx, hy, b1, c1, rfl⟩))) r1, RI.app (RI.cons (RI.cons (RI.app RI.rf (RI.app RI.rf (RI.app b2 (RI.cons (RI.app c2 RI.rf))))))) r2, ?_⟩
      rw [List.length_append, List.length_append, len_if, len_if]; omega
    · rw [mkF_wh ht hx hy hB.1 hr]
      obtain ⟨b1, b2, b3⟩ := hB.2 (114 :: (r ++ t))
      refine ⟨Sq.cons (Or.inr (Or.inr (Or.inr ⟨tt, x, y, _, ht, hx, hy, b1, rfl⟩))) r1, RI.app (RI.cons (RI.cons (RI.app RI.rf (RI.app RI.rf (RI.app b2 RI.rf))))) r2, ?_⟩
      rw [List.length_append, List.length_append, len_wh, len_wh]; omega
theorem hdF_sq : ∀ {l : List Int}, Sq l → ∀ t, Md l (hdF l t) := by
  intro l hl
  refine Sq.ind (P := fun l => ∀ t, Md l (hdF l t)) ?_ ?_ hl
  · intro t
    rw [hdF_nil]
    exact ⟨Sq.nil, RI.rf, Nat.le_refl _⟩
  · intro s r hs hr ih t
    obtain ⟨r1, r2, r3⟩ := ih t
    rcases hs with ⟨v, e, hv, he, rfl⟩ | rfl | ⟨tt, x, y, B, C, ht, hx, hy, hB, hC, rfl⟩ | ⟨tt, x, y, B, ht, hx, hy, hB, rfl⟩
    · rw [List.cons_append, hdF_set hv he hr]
      split
      · exact ⟨r1, RI.left (RI.right r2), by simp only [List.length_cons, List.length_append]; omega⟩
      · exact ⟨Sq.cons (s := v :: e) (Or.inl ⟨v, e, hv, he, rfl⟩) r1, RI.cons (RI.app RI.rf r2), by simp only [List.length_cons, List.length_append]; omega⟩
    · rw [List.cons_append, List.nil_append, hdF_fail hr]
      exact ⟨Sq.cons (s := [111]) (Or.inr (Or.inl rfl)) r1, RI.cons r2, by simp only [List.length_cons]; omega⟩
    · rw [hdF_if ht hx hy hB.1 hC.1 hr]
      obtain ⟨b1, b2, b3⟩ := hB.2 (113 :: (hdF C (114 :: (hdF r t ++ t)) ++ (114 :: (hdF r t ++ t))))
      obtain ⟨c1, c2, c3⟩ := hC.2 (114 :: (hdF r t ++ t))
      refine ⟨Sq.cons (Or.inr (Or.inr (Or.inl ⟨tt, x, y, _, _, ht, hx, hy, b1, c1, rfl⟩))) r1, RI.app (RI.cons (RI.cons (RI.app RI.rf (RI.app RI.rf (RI.app b2 (RI.cons (RI.app c2 RI.rf))))))) r2, ?_⟩
      rw [List.length_append, List.length_append, len_if, len_if]; omega
    · rw [hdF_wh ht hx hy hB.1 hr]
      obtain ⟨b1, b2, b3⟩ := hB.2 (114 :: (hdF r t ++ t))
      refine ⟨Sq.cons (Or.inr (Or.inr (Or.inr ⟨tt, x, y, _, ht, hx, hy, b1, rfl⟩))) r1, RI.app (RI.cons (RI.cons (RI.app RI.rf (RI.app RI.rf (RI.app b2 RI.rf))))) r2, ?_⟩
      rw [List.length_append, List.length_append, len_wh, len_wh]; omega
/-- a round of the reference leaves the end where it is -/
theorem hd_mk : ∀ {l : List Int}, Sq l → ∀ t1 t2, RI t2 t1 → hdF (mkF l t1) t2 = hdF l t2 := by
  intro l hl
  refine Sq.ind (P := fun l => ∀ t1 t2, RI t2 t1 → hdF (mkF l t1) t2 = hdF l t2) ?_ ?_ hl
  · intro t1 t2 _; rw [mkF_nil]
  · intro s r hs hr ih t1 t2 h
    have ir := ih t1 t2 h
    have sr := (mkF_sq hr t1).1
    have qr : RI (hdF r t2 ++ t2) (r ++ t1) := RI.app (hdF_sq hr t2).2.1 h
    rcases hs with ⟨v, e, hv, he, rfl⟩ | rfl | ⟨tt, x, y, B, C, ht, hx, hy, hB, hC, rfl⟩ | ⟨tt, x, y, B, ht, hx, hy, hB, rfl⟩
    · rw [List.cons_append, mkF_set hv he hr, hdF_set hv he hr]
      by_cases z : (100 ≤ v ∧ v ≤ 105) ∧ (v - 100) + 20 ∉ r ++ t1
      · rw [if_pos z, if_pos ⟨z.1, fun q => z.2 (qr _ (by omega) (by omega) q)⟩, ir]
      · rw [if_neg z, hdF_set hv he sr, ir]
    · rw [List.cons_append, List.nil_append, mkF_fail hr, hdF_fail sr, hdF_fail hr, ir]
    · have hb := (mkF_sq hB.1 (113 :: (C ++ (114 :: (r ++ t1))))).1
      have hc := (mkF_sq hC.1 (114 :: (r ++ t1))).1
      rw [mkF_if ht hx hy hB.1 hC.1 hr, hdF_if ht hx hy hb hc sr, hdF_if ht hx hy hB.1 hC.1 hr, ir]
      rw [hC.2 (114 :: (r ++ t1)) (114 :: (hdF r t2 ++ t2)) (RI.cons qr)]
      rw [hB.2 (113 :: (C ++ (114 :: (r ++ t1)))) (113 :: (hdF C (114 :: (hdF r t2 ++ t2)) ++ (114 :: (hdF r t2 ++ t2)))) (RI.cons (RI.app (hdF_sq hC.1 _).2.1 (RI.cons qr)))]
    · have hb := (mkF_sq hB.1 (114 :: (r ++ t1))).1
      rw [mkF_wh ht hx hy hB.1 hr, hdF_wh ht hx hy hb sr, hdF_wh ht hx hy hB.1 hr, ir]
      rw [hB.2 (114 :: (r ++ t1)) (114 :: (hdF r t2 ++ t2)) (RI.cons qr)]
theorem hd_fix : ∀ {l : List Int}, Sq l → ∀ t, mkF l t = l → hdF l t = l := by
  intro l hl
  refine Sq.ind (P := fun l => ∀ t, mkF l t = l → hdF l t = l) ?_ ?_ hl
  · intro t _; exact hdF_nil
  · intro s r hs hr ih t h
    have lr := (mkF_sq hr t).2.2
    rcases hs with ⟨v, e, hv, he, rfl⟩ | rfl | ⟨tt, x, y, B, C, ht, hx, hy, hB, hC, rfl⟩ | ⟨tt, x, y, B, ht, hx, hy, hB, rfl⟩
    · rw [List.cons_append] at h ⊢
      rw [mkF_set hv he hr] at h
      rw [hdF_set hv he hr]
      by_cases z : (100 ≤ v ∧ v ≤ 105) ∧ (v - 100) + 20 ∉ r ++ t
      · rw [if_pos z] at h
        rw [h] at lr
        simp only [List.length_cons, List.length_append] at lr
        omega
      · rw [if_neg z] at h
        have h1 := List.append_cancel_left (List.cons.inj h).2
        rw [ih t h1, if_neg z]
    · rw [List.cons_append, List.nil_append] at h ⊢
      rw [mkF_fail hr] at h
      rw [hdF_fail hr, ih t (List.cons.inj h).2]
    · rw [mkF_if ht hx hy hB.1 hC.1 hr] at h
      have lB := (mkF_sq hB.1 (113 :: (C ++ (114 :: (r ++ t))))).2.2
      have lC := (mkF_sq hC.1 (114 :: (r ++ t))).2.2
      have hl := congrArg List.length h
      rw [List.length_append, List.length_append, len_if, len_if] at hl
      rw [if_app, if_app] at h
      have h1 := List.append_cancel_left (List.append_cancel_left (List.cons.inj (List.cons.inj h).2).2)
      obtain ⟨hb, h2⟩ := List.append_inj h1 (by omega)
      obtain ⟨hc, h3⟩ := List.append_inj (List.cons.inj h2).2 (by omega)
      have h4 := (List.cons.inj h3).2
      rw [hdF_if ht hx hy hB.1 hC.1 hr, ih t h4, hC.2 _ hc]
      have : hdF B (113 :: (C ++ (114 :: (r ++ t)))) = B := hB.2 _ hb
      rw [this]
    · rw [mkF_wh ht hx hy hB.1 hr] at h
      have lB := (mkF_sq hB.1 (114 :: (r ++ t))).2.2
      have hl := congrArg List.length h
      rw [List.length_append, List.length_append, len_wh, len_wh] at hl
      rw [wh_app, wh_app] at h
      have h1 := List.append_cancel_left (List.append_cancel_left (List.cons.inj (List.cons.inj h).2).2)
      obtain ⟨hb, h2⟩ := List.append_inj h1 (by omega)
      have h4 := (List.cons.inj h2).2
      rw [hdF_wh ht hx hy hB.1 hr, ih t h4, hB.2 _ hb]
/-- o names the places of what is set and not read behind -/
def HO (o : Int → Int) (L : List Int) : Prop := (∀ pre v e post, L = pre ++ (v :: (e ++ post)) → 100 ≤ v ∧ v ≤ 105 → Ex lfR e → (o (pre.length : Int) ≠ 0 ↔ (v - 100) + 20 ∉ post)) ∧ ∀ pre c post, L = pre ++ c :: post → ¬ (100 ≤ c ∧ c ≤ 105) → o (pre.length : Int) = 0
theorem rm_mk {o : Int → Int} {L : List Int} (ho : HO o L) : ∀ {l : List Int}, Sq l → ∀ pre t, L = pre ++ (l ++ t) → rmF o pre.length l = mkF l t := by
  intro l hl
  refine Sq.ind (P := fun l => ∀ pre t, L = pre ++ (l ++ t) → rmF o pre.length l = mkF l t) ?_ ?_ hl
  · intro pre t _; rw [rmF_nil, mkF_nil]
  · intro s r hs hr ih pre t hL
    have e0 : ((pre ++ s).length : Int) = (pre.length : Int) + s.length := by simp only [List.length_append]; omega
    have ir := ih (pre ++ s) t (by rw [hL]; simp)
    rw [e0] at ir
    rcases hs with ⟨v, e, hv, he, rfl⟩ | rfl | ⟨tt, x, y, B, C, ht, hx, hy, hB, hC, rfl⟩ | ⟨tt, x, y, B, ht, hx, hy, hB, rfl⟩
    · rw [rmF_cons (Or.inl ⟨v, e, hv, he, rfl⟩) hr, ir, rmF_set hv he, List.cons_append, mkF_set hv he hr]
      by_cases z : 100 ≤ v ∧ v ≤ 105
      · have := ho.1 pre v e (r ++ t) (by rw [hL]; simp) z he
        by_cases q : (v - 100) + 20 ∉ r ++ t
        · rw [if_pos (this.mpr q), if_pos ⟨z, q⟩]; rfl
        · rw [if_neg (fun w => q (this.mp w)), if_neg (fun w => q w.2)]; rfl
      · have := ho.2 pre v (e ++ (r ++ t)) (by rw [hL]; simp) z
        rw [if_neg (fun w => w this), if_neg (fun w => z w.1)]; rfl
    · have := ho.2 pre 111 (r ++ t) (by rw [hL]; simp) (by decide)
      rw [rmF_cons (Or.inr (Or.inl rfl)) hr, ir, rmF_fail, if_neg (fun w => w this)]
      show 111 :: mkF r t = mkF (111 :: r) t
      rw [mkF_fail hr]
    · have h0 := ho.2 pre 112 (tt :: (x ++ (y ++ (B ++ (113 :: (C ++ (114 :: (r ++ t)))))))) (by rw [hL]; simp) (by decide)
      rw [rmF_cons (Or.inr (Or.inr (Or.inl ⟨tt, x, y, B, C, ht, hx, hy, hB.1, hC.1, rfl⟩))) hr, ir, rmF_if ht hx hy hB.1 hC.1, if_neg (fun w => w h0), mkF_if ht hx hy hB.1 hC.1 hr]
      have hb := hB.2 (pre ++ (112 :: tt :: (x ++ y))) (113 :: (C ++ (114 :: (r ++ t)))) (by rw [hL]; simp)
      have hc := hC.2 (pre ++ (112 :: tt :: (x ++ (y ++ (B ++ [113]))))) (114 :: (r ++ t)) (by rw [hL]; simp)
      have e1 : ((pre ++ (112 :: tt :: (x ++ y))).length : Int) = (pre.length : Int) + 2 + x.length + y.length := by simp only [List.length_append, List.length_cons]; omega
      have e2 : ((pre ++ (112 :: tt :: (x ++ (y ++ (B ++ [113]))))).length : Int) = (pre.length : Int) + 2 + x.length + y.length + B.length + 1 := by simp only [List.length_append, List.length_cons, List.length_nil]; omega
      rw [e1] at hb
      rw [e2] at hc
      rw [hb, hc]
    · have h0 := ho.2 pre 115 (tt :: (x ++ (y ++ (B ++ (114 :: (r ++ t)))))) (by rw [hL]; simp) (by decide)
      rw [rmF_cons (Or.inr (Or.inr (Or.inr ⟨tt, x, y, B, ht, hx, hy, hB.1, rfl⟩))) hr, ir, rmF_wh ht hx hy hB.1, if_neg (fun w => w h0), mkF_wh ht hx hy hB.1 hr]
      have hb := hB.2 (pre ++ (115 :: tt :: (x ++ y))) (114 :: (r ++ t)) (by rw [hL]; simp)
      have e1 : ((pre ++ (115 :: tt :: (x ++ y))).length : Int) = (pre.length : Int) + 2 + x.length + y.length := by simp only [List.length_append, List.length_cons]; omega
      rw [e1] at hb
      rw [hb]
theorem rm_id {o : Int → Int} : ∀ {l : List Int}, Sq l → ∀ q : Int, 0 ≤ q → (∀ p : Int, q ≤ p → p < q + l.length → o p = 0) → rmF o q l = l := by
  intro l hl
  refine Sq.ind (P := fun l => ∀ q : Int, 0 ≤ q → (∀ p : Int, q ≤ p → p < q + l.length → o p = 0) → rmF o q l = l) ?_ ?_ hl
  · intro q _ _; exact rmF_nil
  · intro s r hs hr ih q q0 h
    rw [List.length_append] at h
    have pos := hs.pos
    have h0 := h q (by omega) (by omega)
    have ir := ih (q + s.length) (by omega) (fun p p0 p1 => h p (by omega) (by omega))
    rw [rmF_cons (hs.mono (fun _ h => h.1)) hr, ir]
    rcases hs with ⟨v, e, hv, he, rfl⟩ | rfl | ⟨tt, x, y, B, C, ht, hx, hy, hB, hC, rfl⟩ | ⟨tt, x, y, B, ht, hx, hy, hB, rfl⟩
    · rw [rmF_set hv he, if_neg (fun w => w h0)]
    · rw [rmF_fail, if_neg (fun w => w h0)]
    · have hl := len_if (t := tt) (a := x) (b := y) (B := B) (C := C)
      rw [rmF_if ht hx hy hB.1 hC.1, if_neg (fun w => w h0), hB.2 _ (by omega) (fun p p0 p1 => h p (by omega) (by omega)), hC.2 _ (by omega) (fun p p0 p1 => h p (by omega) (by omega))]
    · have hl := len_wh (t := tt) (a := x) (b := y) (B := B)
      rw [rmF_wh ht hx hy hB.1, if_neg (fun w => w h0), hB.2 _ (by omega) (fun p p0 p1 => h p (by omega) (by omega))]
