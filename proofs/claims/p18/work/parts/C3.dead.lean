-- ===== DEAD in the class
/-- one round: sets whose variable is not live behind them go -/
noncomputable def d1 (l : List Int) : (Int → Prop) → List Int := SqF (X := (Int → Prop) → List Int) (fun _ => []) (fun v e r y out => @ite (List Int) ((100 ≤ v ∧ v ≤ 105) ∧ ¬ LV r out (v - 100)) (Classical.propDecidable _) (y out) (v :: (e ++ y out))) (fun _ y out => 111 :: y out)
  (fun t a b _ _ r yB yC y out => (112 :: t :: (a ++ (b ++ (yB (LV r out) ++ (113 :: (yC (LV r out) ++ [114])))))) ++ y out)
  (fun t a b B r yB y out => (115 :: t :: (a ++ (b ++ (yB (fun w => (20 + w) ∈ a ++ b ∨ LV B NoV w ∨ LV r out w) ++ [114])))) ++ y out) l
section D1
variable {out : Int → Prop}
theorem d1_nil : d1 [] out = [] := congrFun (SqF_nil (X := (Int → Prop) → List Int)) out
theorem d1_set0 {v : Int} {e r : List Int} (hv : setC v ∨ v = 110) (he : Ex lfR e) (hr : Sq r) : d1 ((v :: e) ++ r) out = @ite (List Int) ((100 ≤ v ∧ v ≤ 105) ∧ ¬ LV r out (v - 100)) (Classical.propDecidable _) (d1 r out) (v :: (e ++ d1 r out)) := congrFun (SqF_set (X := (Int → Prop) → List Int) hv he hr) out
theorem d1_out {v : Int} {e r : List Int} (hv : setC v ∨ v = 110) (he : Ex lfR e) (hr : Sq r) (h : (100 ≤ v ∧ v ≤ 105) ∧ ¬ LV r out (v - 100)) : d1 ((v :: e) ++ r) out = d1 r out := by rw [d1_set0 hv he hr, if_pos h]
theorem d1_stay {v : Int} {e r : List Int} (hv : setC v ∨ v = 110) (he : Ex lfR e) (hr : Sq r) (h : ¬ ((100 ≤ v ∧ v ≤ 105) ∧ ¬ LV r out (v - 100))) : d1 ((v :: e) ++ r) out = (v :: e) ++ d1 r out := by rw [d1_set0 hv he hr, if_neg h]; rfl
theorem d1_fail {r : List Int} (hr : Sq r) : d1 ([111] ++ r) out = 111 :: d1 r out := congrFun (SqF_fail (X := (Int → Prop) → List Int) hr) out
theorem d1_if {t : Int} {a b B C r : List Int} (ht : testC t) (ha : Ex lfR a) (hb : Ex lfR b) (hB : Sq B) (hC : Sq C) (hr : Sq r) : d1 ((112 :: t :: (a ++ (b ++ (B ++ (113 :: (C ++ [114])))))) ++ r) out = (112 :: t :: (a ++ (b ++ (d1 B (LV r out) ++ (113 :: (d1 C (LV r out) ++ [114])))))) ++ d1 r out := congrFun (SqF_if (X := (Int → Prop) → List Int) ht ha hb hB hC hr) out
theorem d1_wh {t : Int} {a b B r : List Int} (ht : testC t) (ha : Ex lfR a) (hb : Ex lfR b) (hB : Sq B) (hr : Sq r) : d1 ((115 :: t :: (a ++ (b ++ (B ++ [114])))) ++ r) out = (115 :: t :: (a ++ (b ++ (d1 B (LV ((115 :: t :: (a ++ (b ++ (B ++ [114])))) ++ r) out) ++ [114])))) ++ d1 r out := by
  rw [LV_wh ht ha hb hB hr]
  exact congrFun (SqF_wh (X := (Int → Prop) → List Int) ht ha hb hB hr) out
end D1
/-- what is left -/
def Dd (l l' : List Int) : Prop := Sq l' ∧ cs l' ≤ cs l ∧ cp l' ≤ cp l ∧ l'.length ≤ l.length ∧ (l' = l ∨ (cs l' < cs l ∧ l'.length < l.length))
theorem d1_sq : ∀ {l : List Int}, Sq l → ∀ out, Dd l (d1 l out) := by
  intro l hl
  refine Sq.ind (P := fun l => ∀ out, Dd l (d1 l out)) ?_ ?_ hl
  · intro out; rw [d1_nil]; exact ⟨Sq.nil, Nat.le_refl _, Nat.le_refl _, Nat.le_refl _, Or.inl rfl⟩
  · intro s r hs hr ih out
    have hs' := hs.mono (T := Sq) (fun _ h => h.1)
    have pos := hs'.csp
    obtain ⟨r1, r2, r3, r4, r5⟩ := ih out
    rcases hs with ⟨v, e, hv, he, rfl⟩ | rfl | ⟨t, a, b, B, C, ht, hA, hB, hb, hc, rfl⟩ | ⟨t, a, b, B, ht, hA, hB, hb, rfl⟩
    · by_cases q : (100 ≤ v ∧ v ≤ 105) ∧ ¬ LV r out (v - 100)
      · rw [d1_out hv he hr q]
        refine ⟨r1, ?_, ?_, ?_, Or.inr ⟨?_, ?_⟩⟩
        · rw [cs_app]; omega
        · rw [cp_app]; omega
        · rw [List.length_append]; omega
        · rw [cs_app]; omega
        · rw [List.length_append, List.length_cons]; omega
      · rw [d1_stay hv he hr q]
        refine ⟨Sq.cons (Or.inl ⟨v, e, hv, he, rfl⟩) r1, ?_, ?_, ?_, r5.imp (fun z => by rw [z]) (fun z => ?_)⟩
        · rw [cs_app, cs_app]; omega
        · rw [cp_app, cp_app]; omega
        · rw [List.length_append, List.length_append]; omega
        · rw [cs_app, cs_app, List.length_append, List.length_append]; omega
    · rw [d1_fail hr]
      refine ⟨Sq.cons (s := [111]) (Or.inr (Or.inl rfl)) r1, ?_, ?_, ?_, r5.imp (fun z => by rw [z]; rfl) (fun z => ?_)⟩
      · show cs ([111] ++ d1 r out) ≤ _; rw [cs_app, cs_app]; omega
      · show cp ([111] ++ d1 r out) ≤ _; rw [cp_app, cp_app]; omega
      · simp only [List.length_append, List.length_cons, List.length_nil]; omega
      · show cs ([111] ++ d1 r out) < _ ∧ _; rw [cs_app, cs_app]; simp only [List.length_append, List.length_cons, List.length_nil]; omega
    · rw [d1_if ht hA hB hb.1 hc.1 hr]
      obtain ⟨b1, b2, b3, b4, b5⟩ := hb.2 (LV r out)
      obtain ⟨c1, c2, c3, c4, c5⟩ := hc.2 (LV r out)
      refine ⟨Sq.cons (Or.inr (Or.inr (Or.inl ⟨t, a, b, _, _, ht, hA, hB, b1, c1, rfl⟩))) r1, ?_, ?_, ?_, ?_⟩
      · rw [cs_app, cs_app, cs_if ht hA hB, cs_if ht hA hB]; omega
      · rw [cp_app, cp_app, cp_if ht hA hB, cp_if ht hA hB]; omega
      · rw [List.length_append, List.length_append, len_if, len_if]; omega
      · rw [cs_app, cs_app, cs_if ht hA hB, cs_if ht hA hB, List.length_append, List.length_append, len_if, len_if]
        rcases b5 with b5 | b5
        · rcases c5 with c5 | c5
          · rcases r5 with r5 | r5
            · rw [b5, c5, r5]; exact Or.inl rfl
            · exact Or.inr (by omega)
          · exact Or.inr (by omega)
        · exact Or.inr (by omega)
    · rw [d1_wh ht hA hB hb.1 hr]
      obtain ⟨b1, b2, b3, b4, b5⟩ := hb.2 (LV ((115 :: t :: (a ++ (b ++ (B ++ [114])))) ++ r) out)
      refine ⟨Sq.cons (Or.inr (Or.inr (Or.inr ⟨t, a, b, _, ht, hA, hB, b1, rfl⟩))) r1, ?_, ?_, ?_, ?_⟩
      · rw [cs_app, cs_app, cs_wh ht hA hB, cs_wh ht hA hB]; omega
      · rw [cp_app, cp_app, cp_wh ht hA hB, cp_wh ht hA hB]; omega
      · rw [List.length_append, List.length_append, len_wh, len_wh]; omega
      · rw [cs_app, cs_app, cs_wh ht hA hB, cs_wh ht hA hB, List.length_append, List.length_append, len_wh, len_wh]
        rcases b5 with b5 | b5
        · rcases r5 with r5 | r5
          · rw [b5, r5]; exact Or.inl rfl
          · exact Or.inr (by omega)
        · exact Or.inr (by omega)
noncomputable def dI : Nat → List Int → List Int
  | 0, l => l
  | k + 1, l => d1 (dI k l) NoV
/-- DEAD of a row -/
noncomputable def deF (l : List Int) : List Int := dI 41 l
theorem dI_sq : ∀ (k : Nat) {l : List Int}, Sq l → Sq (dI k l) ∧ cs (dI k l) ≤ cs l ∧ cp (dI k l) ≤ cp l ∧ (dI k l).length ≤ l.length
  | 0, l, h => ⟨h, Nat.le_refl _, Nat.le_refl _, Nat.le_refl _⟩
  | k + 1, l, h => by
    obtain ⟨h1, h2, h3, h4⟩ := dI_sq k h
    obtain ⟨g1, g2, g3, g4, _⟩ := d1_sq h1 NoV
    exact ⟨g1, Nat.le_trans g2 h2, Nat.le_trans g3 h3, Nat.le_trans g4 h4⟩
theorem dI_fix {k : Nat} {l : List Int} (h : dI (k + 1) l = dI k l) : ∀ m, dI (k + m) l = dI k l
  | 0 => rfl
  | m + 1 => by
    show d1 (dI (k + m) l) NoV = _
    rw [dI_fix h m]; exact h
theorem deF_at {k : Nat} {l : List Int} (hk : k ≤ 41) (h : dI (k + 1) l = dI k l) : deF l = dI k l := by
  have := dI_fix h (41 - k)
  rw [show k + (41 - k) = 41 by omega] at this
  exact this
-- one round
theorem and_bit6 : ∀ (v : Fin 6) (x : Fin 64), (ziand (zishl 1 v.val) x.val ≠ 0) ↔ (ziand (zishr x.val v.val) 1 ≠ 0) := by decide +kernel
theorem shl_ne6 : ∀ (v : Fin 6), zishl 1 v.val ≠ 0 := by decide +kernel
theorem and_bit {v x : Int} (hv : 0 ≤ v ∧ v ≤ 5) (hx : b63 x) : ziand (zishl 1 v) x ≠ 0 ↔ bitR x v := by
  obtain ⟨i, rfl⟩ := fin6 hv.1 hv.2
  obtain ⟨j, rfl⟩ := fin64 hx.1 hx.2
  exact and_bit6 i j
theorem shl_ne {v : Int} (hv : 0 ≤ v ∧ v ≤ 5) : zishl 1 v ≠ 0 := by
  obtain ⟨i, rfl⟩ := fin6 hv.1 hv.2
  exact shl_ne6 i
theorem nmA_app {f : Int → Int} {g : N6 → Int} {s r : List Int} {p i : Int} (hs : Sm Sq s) (hr : Sq r) (h : At f i ((nmL (s ++ r) p).map g)) : At f i ((nmL s p).map g) ∧ At f (i + cs s) ((nmL r (p + s.length)).map g) := by
  rw [nmL_app hs hr, List.map_append] at h
  obtain ⟨a, b⟩ := At_app.mp h
  rw [List.length_map, nmL_len (Sq.one hs)] at b
  exact ⟨a, b⟩
theorem nmA_if {f : Int → Int} {g : N6 → Int} {t : Int} {a b B C : List Int} {p i : Int} (ht : testC t) (ha : Ex lfR a) (hb : Ex lfR b) (hB : Sq B) (hC : Sq C) (h : At f i ((nmL (112 :: t :: (a ++ (b ++ (B ++ (113 :: (C ++ [114])))))) p).map g)) : f i = g (p, 112, p + 2, p + 2 + a.length + b.length, rdL 0 (a ++ b), 0) ∧ At f (i + 1) ((nmL B (p + 2 + a.length + b.length)).map g) ∧ At f (i + 1 + cs B) ((nmL C (p + 2 + a.length + b.length + B.length + 1)).map g) := by
  rw [nmL_if1 ht ha hb hB hC, List.map_cons, List.map_append] at h
  obtain ⟨a1, b1, c1⟩ := At_tail2 h
  rw [List.length_map, nmL_len hB] at c1
  exact ⟨a1, b1, c1⟩
theorem nmA_wh {f : Int → Int} {g : N6 → Int} {t : Int} {a b B : List Int} {p i : Int} (ht : testC t) (ha : Ex lfR a) (hb : Ex lfR b) (hB : Sq B) (h : At f i ((nmL (115 :: t :: (a ++ (b ++ (B ++ [114])))) p).map g)) : f i = g (p, 115, p + 2, p + 2 + a.length + b.length, rdL 0 (a ++ b), 0) ∧ At f (i + 1) ((nmL B (p + 2 + a.length + b.length)).map g) := by
  rw [nmL_wh1 ht ha hb hB] at h
  exact ⟨h.1, h.2⟩
def AtB (A : Int → Int → Prop) : Int → List (Int → Prop) → Prop
  | _, [] => True
  | i, f :: L => (∀ w, bv w → (A i w ↔ f w)) ∧ AtB A (i + 1) L
theorem AtB_app {A : Int → Int → Prop} : ∀ {x : List (Int → Prop)} {i : Int} {y : List (Int → Prop)}, AtB A i (x ++ y) → AtB A i x ∧ AtB A (i + x.length) y
  | [], i, y, h => ⟨trivial, by simpa using h⟩
  | f :: x, i, y, h => by
    obtain ⟨h1, h2⟩ := AtB_app (x := x) h.2
    exact ⟨⟨h.1, h1⟩, by rw [show i + ((f :: x).length : Int) = i + 1 + x.length by simp only [List.length_cons]; omega]; exact h2⟩
theorem AtB_of {A C : Int → Int → Prop} (h : ∀ j w, bv w → (A j w ↔ C j w)) : ∀ {L : List (Int → Prop)} {i : Int}, AtC C i L → AtB A i L
  | [], _, _ => trivial
  | _ :: _, i, g => ⟨fun w hw => (h i w hw).trans (g.1 w), AtB_of h g.2⟩
theorem CL_head {s r : List Int} (hs : Sm Sq s) (hr : Sq r) (out : Int → Prop) : ∃ L, CL (s ++ r) out = LV (s ++ r) out :: L := by
  rcases hs with ⟨v, e, hv, he, rfl⟩ | rfl | ⟨t, a, b, B, C, ht, hA, hB, hb, hc, rfl⟩ | ⟨t, a, b, B, ht, hA, hB, hb, rfl⟩
  · exact ⟨_, by rw [CL_set hv he hr, LV_set hv he hr]⟩
  · exact ⟨_, by rw [CL_fail hr, LV_fail hr]⟩
  · exact ⟨_, by rw [CL_if ht hA hB hb hc hr, LV_if ht hA hB hb hc hr]; rfl⟩
  · exact ⟨_, by rw [CL_wh ht hA hB hb hr, LV_wh ht hA hB hb hr]; rfl⟩
/-- what is live where a row begins -/
theorem live_nxt {A : Int → Int → Prop} {r : List Int} (hr : Sq r) {i nx : Int} {out : Int → Prop} (ho : ∀ w, bv w → (A nx w ↔ out w)) (h : AtB A i (CL r out)) : ∀ w, bv w → (A (nxt r i nx) w ↔ LV r out w) := by
  intro w hw
  rcases hr.cases with rfl | ⟨s, r', hs, hr', rfl⟩
  · rw [nxt_nil, LV_nil]; exact ho w hw
  · rw [nxt_s hs]
    obtain ⟨L, e⟩ := CL_head hs hr' out
    rw [e] at h
    exact h.1 w hw
