-- ===== liveness in closed form
noncomputable def LV (l : List Int) : (Int → Prop) → Int → Prop := SqF (X := (Int → Prop) → Int → Prop) (fun out => out) (fun v e _ y out w => (20 + w) ∈ e ∨ (y out w ∧ v ≠ 100 + w)) (fun _ _ _ _ => False)
  (fun _ a b _ _ _ yB yC y out w => (20 + w) ∈ a ++ b ∨ yB (y out) w ∨ yC (y out) w)
  (fun _ a b _ _ yB y out w => (20 + w) ∈ a ++ b ∨ yB (fun _ => False) w ∨ y out w) l
/-- what a row of statements lets through -/
noncomputable def TV (l : List Int) : Int → Prop := SqF (X := Int → Prop) (fun _ => True) (fun v _ _ y w => y w ∧ v ≠ 100 + w) (fun _ _ _ => False)
  (fun _ _ _ _ _ _ yB yC y w => (yB w ∨ yC w) ∧ y w) (fun _ _ _ _ _ _ y w => y w) l
def NoV : Int → Prop := fun _ => False
/-- live at every statement -/
noncomputable def CL (l : List Int) : (Int → Prop) → List (Int → Prop) := SqF (X := (Int → Prop) → List (Int → Prop)) (fun _ => []) (fun v e r y out => (fun w => (20 + w) ∈ e ∨ (LV r out w ∧ v ≠ 100 + w)) :: y out) (fun _ y out => NoV :: y out)
  (fun _ a b B C r yB yC y out => ((fun w => (20 + w) ∈ a ++ b ∨ LV B (LV r out) w ∨ LV C (LV r out) w) :: (yB (LV r out) ++ yC (LV r out))) ++ y out)
  (fun _ a b B r yB y out => ((fun w => (20 + w) ∈ a ++ b ∨ LV B NoV w ∨ LV r out w) :: yB (fun w => (20 + w) ∈ a ++ b ∨ LV B NoV w ∨ LV r out w)) ++ y out) l
section LVs
variable {out : Int → Prop}
theorem LV_nil : LV [] out = out := congrFun (SqF_nil (X := (Int → Prop) → Int → Prop)) out
theorem LV_set {v : Int} {e r : List Int} (hv : setC v ∨ v = 110) (he : Ex lfR e) (hr : Sq r) : LV ((v :: e) ++ r) out = fun w => (20 + w) ∈ e ∨ (LV r out w ∧ v ≠ 100 + w) := congrFun (SqF_set (X := (Int → Prop) → Int → Prop) hv he hr) out
theorem LV_fail {r : List Int} (hr : Sq r) : LV ([111] ++ r) out = NoV := congrFun (SqF_fail (X := (Int → Prop) → Int → Prop) hr) out
theorem LV_if {t : Int} {a b B C r : List Int} (ht : testC t) (ha : Ex lfR a) (hb : Ex lfR b) (hB : Sq B) (hC : Sq C) (hr : Sq r) : LV ((112 :: t :: (a ++ (b ++ (B ++ (113 :: (C ++ [114])))))) ++ r) out = fun w => (20 + w) ∈ a ++ b ∨ LV B (LV r out) w ∨ LV C (LV r out) w := congrFun (SqF_if (X := (Int → Prop) → Int → Prop) ht ha hb hB hC hr) out
theorem LV_wh {t : Int} {a b B r : List Int} (ht : testC t) (ha : Ex lfR a) (hb : Ex lfR b) (hB : Sq B) (hr : Sq r) : LV ((115 :: t :: (a ++ (b ++ (B ++ [114])))) ++ r) out = fun w => (20 + w) ∈ a ++ b ∨ LV B NoV w ∨ LV r out w := congrFun (SqF_wh (X := (Int → Prop) → Int → Prop) ht ha hb hB hr) out
theorem TV_nil {w : Int} : TV [] w = True := congrFun (SqF_nil (X := Int → Prop)) w
theorem TV_set {v w : Int} {e r : List Int} (hv : setC v ∨ v = 110) (he : Ex lfR e) (hr : Sq r) : TV ((v :: e) ++ r) w = (TV r w ∧ v ≠ 100 + w) := congrFun (SqF_set (X := Int → Prop) hv he hr) w
theorem TV_fail {w : Int} {r : List Int} (hr : Sq r) : TV ([111] ++ r) w = False := congrFun (SqF_fail (X := Int → Prop) hr) w
theorem TV_if {t w : Int} {a b B C r : List Int} (ht : testC t) (ha : Ex lfR a) (hb : Ex lfR b) (hB : Sq B) (hC : Sq C) (hr : Sq r) : TV ((112 :: t :: (a ++ (b ++ (B ++ (113 :: (C ++ [114])))))) ++ r) w = ((TV B w ∨ TV C w) ∧ TV r w) := congrFun (SqF_if (X := Int → Prop) ht ha hb hB hC hr) w
theorem TV_wh {t w : Int} {a b B r : List Int} (ht : testC t) (ha : Ex lfR a) (hb : Ex lfR b) (hB : Sq B) (hr : Sq r) : TV ((115 :: t :: (a ++ (b ++ (B ++ [114])))) ++ r) w = TV r w := congrFun (SqF_wh (X := Int → Prop) ht ha hb hB hr) w
theorem CL_nil : CL [] out = [] := congrFun (SqF_nil (X := (Int → Prop) → List (Int → Prop))) out
theorem CL_set {v : Int} {e r : List Int} (hv : setC v ∨ v = 110) (he : Ex lfR e) (hr : Sq r) : CL ((v :: e) ++ r) out = (fun w => (20 + w) ∈ e ∨ (LV r out w ∧ v ≠ 100 + w)) :: CL r out := congrFun (SqF_set (X := (Int → Prop) → List (Int → Prop)) hv he hr) out
theorem CL_fail {r : List Int} (hr : Sq r) : CL ([111] ++ r) out = NoV :: CL r out := congrFun (SqF_fail (X := (Int → Prop) → List (Int → Prop)) hr) out
theorem CL_if {t : Int} {a b B C r : List Int} (ht : testC t) (ha : Ex lfR a) (hb : Ex lfR b) (hB : Sq B) (hC : Sq C) (hr : Sq r) : CL ((112 :: t :: (a ++ (b ++ (B ++ (113 :: (C ++ [114])))))) ++ r) out = ((fun w => (20 + w) ∈ a ++ b ∨ LV B (LV r out) w ∨ LV C (LV r out) w) :: (CL B (LV r out) ++ CL C (LV r out))) ++ CL r out := congrFun (SqF_if (X := (Int → Prop) → List (Int → Prop)) ht ha hb hB hC hr) out
theorem CL_wh {t : Int} {a b B r : List Int} (ht : testC t) (ha : Ex lfR a) (hb : Ex lfR b) (hB : Sq B) (hr : Sq r) : CL ((115 :: t :: (a ++ (b ++ (B ++ [114])))) ++ r) out = ((fun w => (20 + w) ∈ a ++ b ∨ LV B NoV w ∨ LV r out w) :: CL B (fun w => (20 + w) ∈ a ++ b ∨ LV B NoV w ∨ LV r out w)) ++ CL r out := congrFun (SqF_wh (X := (Int → Prop) → List (Int → Prop)) ht ha hb hB hr) out
end LVs
theorem CL_len : ∀ {l : List Int}, Sq l → ∀ out, (CL l out).length = cs l := by
  intro l hl
  refine Sq.ind (P := fun l => ∀ out, (CL l out).length = cs l) ?_ ?_ hl
  · intro out; rw [CL_nil]; rfl
  · intro s r hs hr ih out
    rcases hs with ⟨v, e, hv, he, rfl⟩ | rfl | ⟨t, a, b, B, C, ht, hA, hB, hb, hc, rfl⟩ | ⟨t, a, b, B, ht, hA, hB, hb, rfl⟩
    · rw [CL_set hv he hr, List.length_cons, ih, cs_app, cs_yes (by unfold setC at hv; omega), he.csz]; omega
    · rw [CL_fail hr, List.length_cons, ih, cs_app, cs_yes (by omega)]; show _ = 0 + 1 + _; omega
    · rw [CL_if ht hA hB hb.1 hc.1 hr, List.length_append, List.length_cons, List.length_append, ih, hb.2, hc.2, cs_app, cs_if ht hA hB]
    · rw [CL_wh ht hA hB hb.1 hr, List.length_append, List.length_cons, ih, hb.2, cs_app, cs_wh ht hA hB]
/-- what is live at the end goes through, or not -/
theorem LV_T : ∀ {l : List Int}, Sq l → ∀ out w, LV l out w ↔ LV l NoV w ∨ (out w ∧ TV l w) := by
  intro l hl
  refine Sq.ind (P := fun l => ∀ out w, LV l out w ↔ LV l NoV w ∨ (out w ∧ TV l w)) ?_ ?_ hl
  · intro out w
    rw [LV_nil, LV_nil, TV_nil]
    unfold NoV
    simp
  · intro s r hs hr ih out w
    rcases hs with ⟨v, e, hv, he, rfl⟩ | rfl | ⟨t, a, b, B, C, ht, hA, hB, hb, hc, rfl⟩ | ⟨t, a, b, B, ht, hA, hB, hb, rfl⟩
    · rw [LV_set hv he hr, LV_set hv he hr, TV_set hv he hr]
      have := ih out w
      show ((20 + w) ∈ e ∨ (LV r out w ∧ v ≠ 100 + w)) ↔ ((20 + w) ∈ e ∨ (LV r NoV w ∧ v ≠ 100 + w)) ∨ (out w ∧ (TV r w ∧ v ≠ 100 + w))
      rw [this]
      constructor
      · rintro (h | ⟨h | h, g⟩)
        · exact Or.inl (Or.inl h)
        · exact Or.inl (Or.inr ⟨h, g⟩)
        · exact Or.inr ⟨h.1, h.2, g⟩
      · rintro ((h | h) | h)
        · exact Or.inl h
        · exact Or.inr ⟨Or.inl h.1, h.2⟩
        · exact Or.inr ⟨Or.inr ⟨h.1, h.2.1⟩, h.2.2⟩
    · rw [LV_fail hr, LV_fail hr, TV_fail hr]
      unfold NoV
      simp
    · rw [LV_if ht hA hB hb.1 hc.1 hr, LV_if ht hA hB hb.1 hc.1 hr, TV_if ht hA hB hb.1 hc.1 hr]
      show ((20 + w) ∈ a ++ b ∨ LV B (LV r out) w ∨ LV C (LV r out) w) ↔ ((20 + w) ∈ a ++ b ∨ LV B (LV r NoV) w ∨ LV C (LV r NoV) w) ∨ (out w ∧ ((TV B w ∨ TV C w) ∧ TV r w))
      rw [hb.2 (LV r out) w, hc.2 (LV r out) w, hb.2 (LV r NoV) w, hc.2 (LV r NoV) w, ih out w]
      constructor
      · rintro (h | (h | ⟨h | h, g⟩) | (h | ⟨h | h, g⟩))
        · exact Or.inl (Or.inl h)
        · exact Or.inl (Or.inr (Or.inl (Or.inl h)))
        · exact Or.inl (Or.inr (Or.inl (Or.inr ⟨h, g⟩)))
        · exact Or.inr ⟨h.1, Or.inl g, h.2⟩
        · exact Or.inl (Or.inr (Or.inr (Or.inl h)))
        · exact Or.inl (Or.inr (Or.inr (Or.inr ⟨h, g⟩)))
        · exact Or.inr ⟨h.1, Or.inr g, h.2⟩
      · rintro ((h | (h | h) | (h | h)) | ⟨h, (g | g), k⟩)
        · exact Or.inl h
        · exact Or.inr (Or.inl (Or.inl h))
        · exact Or.inr (Or.inl (Or.inr ⟨Or.inl h.1, h.2⟩))
        · exact Or.inr (Or.inr (Or.inl h))
        · exact Or.inr (Or.inr (Or.inr ⟨Or.inl h.1, h.2⟩))
        · exact Or.inr (Or.inl (Or.inr ⟨Or.inr ⟨h, k⟩, g⟩))
        · exact Or.inr (Or.inr (Or.inr ⟨Or.inr ⟨h, k⟩, g⟩))
    · rw [LV_wh ht hA hB hb.1 hr, LV_wh ht hA hB hb.1 hr, TV_wh ht hA hB hb.1 hr]
      show ((20 + w) ∈ a ++ b ∨ LV B NoV w ∨ LV r out w) ↔ ((20 + w) ∈ a ++ b ∨ LV B NoV w ∨ LV r NoV w) ∨ (out w ∧ TV r w)
      rw [ih out w]
      constructor
      · rintro (h | h | h | h)
        · exact Or.inl (Or.inl h)
        · exact Or.inl (Or.inr (Or.inl h))
        · exact Or.inl (Or.inr (Or.inr h))
        · exact Or.inr h
      · rintro ((h | h | h) | h)
        · exact Or.inl h
        · exact Or.inr (Or.inl h)
        · exact Or.inr (Or.inr (Or.inl h))
        · exact Or.inr (Or.inr (Or.inr h))
theorem LV_mono {l : List Int} (hl : Sq l) {o o' : Int → Prop} {w : Int} (h : o w → o' w) (g : LV l o w) : LV l o' w :=
  (LV_T hl o' w).mpr (((LV_T hl o w).mp g).imp id (fun q => ⟨h q.1, q.2⟩))
theorem LV_congr {l : List Int} (hl : Sq l) {o o' : Int → Prop} {w : Int} (h : o w ↔ o' w) : LV l o w ↔ LV l o' w := ⟨LV_mono hl h.mp, LV_mono hl h.mpr⟩
-- ===== any solution is at least that; that is a solution
def bv (w : Int) : Prop := 0 ≤ w ∧ w ≤ 5
def EqA (A : Int → Int → Prop) (rd st ys no : Int → Int) (lo hi : Int) : Prop := ∀ j, lo ≤ j → j < hi → ∀ w, bv w → (A j w ↔ bitR (rd j) w ∨ ((A (ys j) w ∨ A (no j) w) ∧ ¬ bitR (st j) w))
theorem bit_rd {e : List Int} {w : Int} (h : bv w) : bitR (rdL 0 e) w ↔ (20 + w) ∈ e := by
  have := rdL_b (e := e) RdB.nil
  rw [List.nil_append] at this
  exact this.2.2 w h.1 h.2
theorem bit_st6 : ∀ (v w : Fin 6), (ziand (zishr (zishl 1 v.val) w.val) 1 ≠ 0) ↔ v = w := by decide +kernel
theorem bit_st {v w : Int} (h : bv w) : bitR (stC v) w ↔ v = 100 + w := by
  obtain ⟨k, rfl⟩ := fin6 h.1 h.2
  unfold stC
  by_cases hv : 100 ≤ v ∧ v ≤ 105
  · rw [if_pos hv]
    obtain ⟨m, hm⟩ := fin6 (a := v - 100) (by omega) (by omega)
    rw [hm]
    unfold bitR
    rw [bit_st6 m k]
    constructor
    · intro q; rw [q] at hm; omega
    · intro q; exact Fin.ext (by omega)
  · rw [if_neg hv]
    unfold bitR
    rw [bit_06 k]
    constructor
    · intro q; exact absurd rfl q
    · intro q; have := k.isLt; omega
/-- the arrays of a row -/
def Arr (rd st ys no : Int → Int) (l : List Int) (p i nx : Int) : Prop := At rd i ((nmL l p).map (·.2.2.2.2.1)) ∧ At st i ((nmL l p).map (·.2.2.2.2.2)) ∧ At ys i ((ynL l i nx).map (·.1)) ∧ At no i ((ynL l i nx).map (·.2))
theorem Arr.app {rd st ys no : Int → Int} {s r : List Int} {p i nx : Int} (hs : Sm Sq s) (hr : Sq r) (h : Arr rd st ys no (s ++ r) p i nx) : Arr rd st ys no s p i (nxt r (i + cs s) nx) ∧ Arr rd st ys no r (p + s.length) (i + cs s) nx := by
  obtain ⟨h1, h2, h3, h4⟩ := h
  rw [nmL_app hs hr, List.map_append] at h1 h2
  rw [ynL_app hs hr, List.map_append] at h3 h4
  obtain ⟨a1, b1⟩ := At_app.mp h1
  obtain ⟨a2, b2⟩ := At_app.mp h2
  obtain ⟨a3, b3⟩ := At_app.mp h3
  obtain ⟨a4, b4⟩ := At_app.mp h4
  rw [List.length_map, nmL_len (Sq.one hs)] at b1 b2
  rw [List.length_map, ynL_len (Sq.one hs)] at b3 b4
  exact ⟨⟨a1, a2, a3, a4⟩, b1, b2, b3, b4⟩
theorem At_tail2 {f : Int → Int} {i c : Int} {x y : List Int} (h : At f i (c :: (x ++ y))) : f i = c ∧ At f (i + 1) x ∧ At f (i + 1 + x.length) y := ⟨h.1, (At_app.mp h.2).1, (At_app.mp h.2).2⟩
theorem Arr.ifs {rd st ys no : Int → Int} {t : Int} {a b B C : List Int} {p i nx : Int} (ht : testC t) (ha : Ex lfR a) (hb : Ex lfR b) (hB : Sq B) (hC : Sq C) (h : Arr rd st ys no (112 :: t :: (a ++ (b ++ (B ++ (113 :: (C ++ [114])))))) p i nx) : rd i = rdL 0 (a ++ b) ∧ st i = 0 ∧ ys i = nxt B (i + 1) nx ∧ no i = nxt C (i + 1 + cs B) nx ∧ (∃ q, Arr rd st ys no B q (i + 1) nx) ∧ ∃ q, Arr rd st ys no C q (i + 1 + cs B) nx := by
  obtain ⟨h1, h2, h3, h4⟩ := h
  rw [nmL_if1 ht ha hb hB hC, List.map_cons, List.map_append] at h1 h2
  rw [ynL_if1 ht ha hb hB hC, List.map_cons, List.map_append] at h3 h4
  obtain ⟨a1, b1, c1⟩ := At_tail2 h1
  obtain ⟨a2, b2, c2⟩ := At_tail2 h2
  obtain ⟨a3, b3, c3⟩ := At_tail2 h3
  obtain ⟨a4, b4, c4⟩ := At_tail2 h4
  rw [List.length_map, nmL_len hB] at c1 c2
  rw [List.length_map, ynL_len hB] at c3 c4
  exact ⟨a1, a2, a3, a4, ⟨_, b1, b2, b3, b4⟩, ⟨_, c1, c2, c3, c4⟩⟩
theorem Arr.whs {rd st ys no : Int → Int} {t : Int} {a b B : List Int} {p i nx : Int} (ht : testC t) (ha : Ex lfR a) (hb : Ex lfR b) (hB : Sq B) (h : Arr rd st ys no (115 :: t :: (a ++ (b ++ (B ++ [114])))) p i nx) : rd i = rdL 0 (a ++ b) ∧ st i = 0 ∧ ys i = nxt B (i + 1) i ∧ no i = nx ∧ ∃ q, Arr rd st ys no B q (i + 1) i := by
  obtain ⟨h1, h2, h3, h4⟩ := h
  rw [nmL_wh1 ht ha hb hB] at h1 h2
  rw [ynL_wh1 ht ha hb hB] at h3 h4
  exact ⟨h1.1, h2.1, h3.1, h4.1, _, h1.2, h2.2, h3.2, h4.2⟩
theorem no0 {w : Int} (h : bv w) : ¬ bitR 0 w := by
  obtain ⟨k, rfl⟩ := fin6 h.1 h.2
  unfold bitR
  rw [bit_06 k]
  exact fun q => q rfl
theorem live_up {A : Int → Int → Prop} {rd st ys no : Int → Int} : ∀ {l : List Int}, Sq l → ∀ p i nx, Arr rd st ys no l p i nx → EqA A rd st ys no i (i + cs l) → ∀ w, bv w → LV l (A nx) w → A (nxt l i nx) w := by
  intro l hl
  refine Sq.ind (P := fun l => ∀ p i nx, Arr rd st ys no l p i nx → EqA A rd st ys no i (i + cs l) → ∀ w, bv w → LV l (A nx) w → A (nxt l i nx) w) ?_ ?_ hl
  · intro p i nx _ _ w _ h
    rw [LV_nil] at h
    rw [nxt_nil]; exact h
  · intro s r hs hr ih p i nx hA hE w hw h
    have hs' := hs.mono (T := Sq) (fun _ h => h.1)
    have pos := hs'.csp
    obtain ⟨A1, A2⟩ := hA.app hs' hr
    rw [cs_app] at hE
    rw [nxt_s hs']
    have ihr := fun w hw => ih _ _ _ A2 (fun j j0 j1 => hE j (by omega) (by omega)) w hw
    generalize hn : nxt r (i + cs s) nx = n1 at A1 ihr
    have e0 := hE i (Int.le_refl _) (by omega) w hw
    rcases hs with ⟨v, e, hv, he, rfl⟩ | rfl | ⟨t, x, y, B, C, ht, hx, hy, hB, hC, rfl⟩ | ⟨t, x, y, B, ht, hx, hy, hB, rfl⟩
    · obtain ⟨h1, h2, h3, h4⟩ := A1
      rw [nmL_set1 hv he] at h1 h2
      rw [ynL_set1 hv he] at h3 h4
      have f1 : rd i = rdL 0 e := h1.1
      have f2 : st i = stC v := h2.1
      have f3 : ys i = n1 := h3.1
      rw [f1, f2, f3, bit_rd hw, bit_st hw] at e0
      rw [LV_set hv he hr] at h
      rcases h with h | ⟨h, g⟩
      · exact e0.mpr (Or.inl h)
      · exact e0.mpr (Or.inr ⟨Or.inl (ihr w hw h), g⟩)
    · rw [LV_fail hr] at h
      exact h.elim
    · obtain ⟨f1, f2, f3, f4, ⟨qB, AB⟩, ⟨qC, AC⟩⟩ := A1.ifs ht hx hy hB.1 hC.1
      rw [cs_if ht hx hy] at hE
      rw [f1, f2, f3, f4, bit_rd hw] at e0
      rw [LV_if ht hx hy hB.1 hC.1 hr] at h
      rcases h with h | h | h
      · exact e0.mpr (Or.inl h)
      · exact e0.mpr (Or.inr ⟨Or.inl (hB.2 _ _ _ AB (fun j j0 j1 => hE j (by omega) (by omega)) w hw (LV_mono hB.1 (ihr w hw) h)), no0 hw⟩)
      · exact e0.mpr (Or.inr ⟨Or.inr (hC.2 _ _ _ AC (fun j j0 j1 => hE j (by omega) (by omega)) w hw (LV_mono hC.1 (ihr w hw) h)), no0 hw⟩)
    · obtain ⟨f1, f2, f3, f4, qB, AB⟩ := A1.whs ht hx hy hB.1
      rw [cs_wh ht hx hy] at hE
      rw [f1, f2, f3, f4, bit_rd hw] at e0
      rw [LV_wh ht hx hy hB.1 hr] at h
      rcases h with h | h | h
      · exact e0.mpr (Or.inl h)
      · exact e0.mpr (Or.inr ⟨Or.inl (hB.2 _ _ _ AB (fun j j0 j1 => hE j (by omega) (by omega)) w hw (LV_mono hB.1 (fun q => q.elim) h)), no0 hw⟩)
      · exact e0.mpr (Or.inr ⟨Or.inr (ihr w hw h), no0 hw⟩)
def AtC (C : Int → Int → Prop) : Int → List (Int → Prop) → Prop
  | _, [] => True
  | i, f :: L => (∀ w, C i w ↔ f w) ∧ AtC C (i + 1) L
theorem AtC_app {C : Int → Int → Prop} : ∀ {x : List (Int → Prop)} {i : Int} {y : List (Int → Prop)}, AtC C i (x ++ y) → AtC C i x ∧ AtC C (i + x.length) y
  | [], i, y, h => ⟨trivial, by simpa using h⟩
  | f :: x, i, y, h => by
    obtain ⟨h1, h2⟩ := AtC_app (x := x) h.2
    exact ⟨⟨h.1, h1⟩, by rw [show i + ((f :: x).length : Int) = i + 1 + x.length by simp only [List.length_cons]; omega]; exact h2⟩
theorem live_eq {A : Int → Int → Prop} (hm : ∀ w, ¬ A (-1) w) {rd st ys no : Int → Int} : ∀ {l : List Int}, Sq l → ∀ p i nx out, Arr rd st ys no l p i nx → (∀ w, A nx w ↔ out w) → AtC A i (CL l out) → EqA A rd st ys no i (i + cs l) ∧ ∀ w, A (nxt l i nx) w ↔ LV l out w := by
  intro l hl
  refine Sq.ind (P := fun l => ∀ p i nx out, Arr rd st ys no l p i nx → (∀ w, A nx w ↔ out w) → AtC A i (CL l out) → EqA A rd st ys no i (i + cs l) ∧ ∀ w, A (nxt l i nx) w ↔ LV l out w) ?_ ?_ hl
  · intro p i nx out _ ho _
    refine ⟨fun j j0 j1 => ?_, fun w => ?_⟩
    · have : cs ([] : List Int) = 0 := rfl
      omega
    · rw [LV_nil, nxt_nil]; exact ho w
  · intro s r hs hr ih p i nx out hA ho hC
    have hs' := hs.mono (T := Sq) (fun _ h => h.1)
    have pos := hs'.csp
    obtain ⟨A1, A2⟩ := hA.app hs' hr
    rw [cs_app, nxt_s hs']
    rcases hs with ⟨v, e, hv, he, rfl⟩ | rfl | ⟨t, x, y, B, C, ht, hx, hy, hB, hCC, rfl⟩ | ⟨t, x, y, B, ht, hx, hy, hB, rfl⟩
    · have hcs : cs (v :: e) = 1 := by rw [cs_yes (by unfold setC at hv; omega), he.csz]
      rw [CL_set hv he hr] at hC
      rw [hcs] at A1 A2 ⊢
      obtain ⟨i1, i2⟩ := ih _ _ nx out A2 ho hC.2
      obtain ⟨h1, h2, h3, h4⟩ := A1
      rw [nmL_set1 hv he] at h1 h2
      rw [ynL_set1 hv he] at h3 h4
      have f1 : rd i = rdL 0 e := h1.1
      have f2 : st i = stC v := h2.1
      have f3 : ys i = nxt r (i + 1) nx := h3.1
      have f4 : no i = -1 := h4.1
      refine ⟨fun j j0 j1 w hw => ?_, fun w => by rw [LV_set hv he hr]; exact hC.1 w⟩
      by_cases hj : j = i
      · subst hj
        rw [f1, f2, f3, f4, bit_rd hw, bit_st hw, hC.1 w]
        have i2' : A (nxt r (j + 1) nx) w ↔ LV r out w := i2 w
        rw [i2']
        constructor
        · exact fun q => q.imp id (fun q => ⟨Or.inl q.1, q.2⟩)
        · exact fun q => q.imp id (fun q => ⟨q.1.elim id (fun z => absurd z (hm w)), q.2⟩)
      · exact i1 j (by omega) (by omega) w hw
    · have hcs : cs ([111] : List Int) = 1 := rfl
      rw [CL_fail hr] at hC
      rw [hcs] at A1 A2 ⊢
      obtain ⟨i1, i2⟩ := ih _ _ nx out A2 ho hC.2
      obtain ⟨h1, h2, h3, h4⟩ := A1
      rw [nmL_fail1] at h1 h2
      rw [ynL_fail1] at h3 h4
      have f1 : rd i = 0 := h1.1
      have f3 : ys i = -1 := h3.1
      have f4 : no i = -1 := h4.1
      refine ⟨fun j j0 j1 w hw => ?_, fun w => by rw [LV_fail hr]; exact hC.1 w⟩
      by_cases hj : j = i
      · subst hj
        rw [f1, f3, f4, hC.1 w]
        exact ⟨fun q => q.elim, fun q => q.elim (fun z => absurd z (no0 hw)) (fun z => z.1.elim (fun q => absurd q (hm w)) (fun q => absurd q (hm w)))⟩
      · exact i1 j (by omega) (by omega) w hw
    · have hcs : cs (112 :: t :: (x ++ (y ++ (B ++ (113 :: (C ++ [114])))))) = cs B + cs C + 1 := cs_if ht hx hy
      rw [CL_if ht hx hy hB.1 hCC.1 hr] at hC
      rw [hcs] at A1 A2 ⊢
      obtain ⟨f1, f2, f3, f4, ⟨qB, AB⟩, ⟨qC, AC⟩⟩ := A1.ifs ht hx hy hB.1 hCC.1
      obtain ⟨k1, k2⟩ := AtC_app hC
      obtain ⟨k3, k4⟩ := AtC_app k1.2
      rw [CL_len hB.1] at k4
      rw [List.length_cons, List.length_append, CL_len hB.1, CL_len hCC.1, show i + ((cs B + cs C + 1 : Nat) : Int) = i + ((cs B + cs C + 1 : Nat) : Int) from rfl] at k2
      obtain ⟨i1, i2⟩ := ih _ _ nx out A2 ho k2
      obtain ⟨b1, b2⟩ := hB.2 _ _ _ (LV r out) AB i2 k3
      obtain ⟨c1, c2⟩ := hCC.2 _ _ _ (LV r out) AC i2 k4
      refine ⟨fun j j0 j1 w hw => ?_, fun w => by rw [LV_if ht hx hy hB.1 hCC.1 hr]; exact k1.1 w⟩
      by_cases hj : j = i
      · subst hj
        rw [f1, f2, f3, f4, bit_rd hw, k1.1 w, b2 w, c2 w]
        exact ⟨fun q => q.imp id (fun q => ⟨q, no0 hw⟩), fun q => q.imp id (fun q => q.1)⟩
      · by_cases hj2 : j < i + 1 + cs B
        · exact b1 j (by omega) (by omega) w hw
        · by_cases hj3 : j < i + 1 + cs B + cs C
          · exact c1 j (by omega) (by omega) w hw
          · exact i1 j (by omega) (by omega) w hw
    · have hcs : cs (115 :: t :: (x ++ (y ++ (B ++ [114])))) = cs B + 1 := cs_wh ht hx hy
      rw [CL_wh ht hx hy hB.1 hr] at hC
      rw [hcs] at A1 A2 ⊢
      obtain ⟨f1, f2, f3, f4, qB, AB⟩ := A1.whs ht hx hy hB.1
      obtain ⟨k1, k2⟩ := AtC_app hC
      rw [List.length_cons, CL_len hB.1] at k2
      obtain ⟨i1, i2⟩ := ih _ _ nx out A2 ho k2
      obtain ⟨b1, b2⟩ := hB.2 _ _ _ _ AB k1.1 k1.2
      refine ⟨fun j j0 j1 w hw => ?_, fun w => by rw [LV_wh ht hx hy hB.1 hr]; exact k1.1 w⟩
      by_cases hj : j = i
      · subst hj
        have i2' := i2 w
        rw [f1, f2, f3, f4, bit_rd hw, k1.1 w, b2 w, i2', LV_T hB.1]
        constructor
        · rintro (h | h | h)
          · exact Or.inl h
          · exact Or.inr ⟨Or.inl (Or.inl h), no0 hw⟩
          · exact Or.inr ⟨Or.inr h, no0 hw⟩
        · rintro (h | ⟨(h | h) | h, _⟩)
          · exact Or.inl h
          · exact Or.inr (Or.inl h)
          · exact h.1
          · exact Or.inr (Or.inr h)
      · by_cases hj2 : j < i + 1 + cs B
        · exact b1 j (by omega) (by omega) w hw
        · exact i1 j (by omega) (by omega) w hw
/-- the closed form as a function of the statement -/
def Cof (L : List (Int → Prop)) (j w : Int) : Prop := 0 ≤ j ∧ ∃ f, L[j.toNat]? = some f ∧ f w
theorem Cof_at {L : List (Int → Prop)} : ∀ (M pre : List (Int → Prop)), L = pre ++ M → AtC (Cof L) pre.length M
  | [], _, _ => trivial
  | f :: M, pre, h => by
    refine ⟨fun w => ?_, ?_⟩
    · have e : L[((pre.length : Nat) : Int).toNat]? = some f := by
        rw [Int.toNat_natCast, h, List.getElem?_append_right (Nat.le_refl _)]; simp
      unfold Cof
      rw [e]
      exact ⟨fun q => by obtain ⟨_, g, e1, e2⟩ := q; rw [Option.some.inj e1]; exact e2, fun q => ⟨by omega, f, rfl, q⟩⟩
    · have := Cof_at (L := L) M (pre ++ [f]) (by rw [h]; simp)
      rw [List.length_append] at this
      exact this
