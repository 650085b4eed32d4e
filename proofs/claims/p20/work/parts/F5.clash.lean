-- ===== the clashes in closed form; the class finds them
/-- before each statement, what it sets, behind it -/
noncomputable def CT (l : List Int) : (Int → Prop) → List ((Int → Prop) × Int × (Int → Prop)) := SqF (X := (Int → Prop) → List ((Int → Prop) × Int × (Int → Prop))) (fun _ => [])
  (fun v e r y out => ((fun w => (20 + w) ∈ e ∨ (LV r out w ∧ v ≠ 100 + w)), v, LV r out) :: y out) (fun _ y out => (NoV, 0, NoV) :: y out)
  (fun _ a b B C r yB yC y out => (((fun w => (20 + w) ∈ a ++ b ∨ LV B (LV r out) w ∨ LV C (LV r out) w), 0, NoV) :: (yB (LV r out) ++ yC (LV r out))) ++ y out)
  (fun _ a b B r yB y out => (((fun w => (20 + w) ∈ a ++ b ∨ LV B NoV w ∨ LV r out w), 0, NoV) :: yB (fun w => (20 + w) ∈ a ++ b ∨ LV B NoV w ∨ LV r out w)) ++ y out) l
section CTs
variable {out : Int → Prop}
theorem CT_nil : CT [] out = [] := congrFun (SqF_nil (X := (Int → Prop) → List ((Int → Prop) × Int × (Int → Prop)))) out
theorem CT_set {v : Int} {e r : List Int} (hv : setC v ∨ v = 110) (he : Ex lfR e) (hr : Sq r) : CT ((v :: e) ++ r) out = ((fun w => (20 + w) ∈ e ∨ (LV r out w ∧ v ≠ 100 + w)), v, LV r out) :: CT r out := congrFun (SqF_set (X := (Int → Prop) → List ((Int → Prop) × Int × (Int → Prop))) hv he hr) out
theorem CT_fail {r : List Int} (hr : Sq r) : CT ([111] ++ r) out = (NoV, 0, NoV) :: CT r out := congrFun (SqF_fail (X := (Int → Prop) → List ((Int → Prop) × Int × (Int → Prop))) hr) out
theorem CT_if {t : Int} {a b B C r : List Int} (ht : testC t) (ha : Ex lfR a) (hb : Ex lfR b) (hB : Sq B) (hC : Sq C) (hr : Sq r) : CT ((112 :: t :: (a ++ (b ++ (B ++ (113 :: (C ++ [114])))))) ++ r) out = (((fun w => (20 + w) ∈ a ++ b ∨ LV B (LV r out) w ∨ LV C (LV r out) w), 0, NoV) :: (CT B (LV r out) ++ CT C (LV r out))) ++ CT r out := congrFun (SqF_if (X := (Int → Prop) → List ((Int → Prop) × Int × (Int → Prop))) ht ha hb hB hC hr) out
theorem CT_wh {t : Int} {a b B r : List Int} (ht : testC t) (ha : Ex lfR a) (hb : Ex lfR b) (hB : Sq B) (hr : Sq r) : CT ((115 :: t :: (a ++ (b ++ (B ++ [114])))) ++ r) out = (((fun w => (20 + w) ∈ a ++ b ∨ LV B NoV w ∨ LV r out w), 0, NoV) :: CT B (fun w => (20 + w) ∈ a ++ b ∨ LV B NoV w ∨ LV r out w)) ++ CT r out := congrFun (SqF_wh (X := (Int → Prop) → List ((Int → Prop) × Int × (Int → Prop))) ht ha hb hB hr) out
end CTs
/-- two variables clash at a statement -/
def cl1 (x : (Int → Prop) × Int × (Int → Prop)) (v w : Int) : Prop := (x.1 v ∧ x.1 w) ∨ (x.2.1 = 100 + v ∧ x.2.2 w) ∨ (x.2.1 = 100 + w ∧ x.2.2 v)
def CX (T : List ((Int → Prop) × Int × (Int → Prop))) (v w : Int) : Prop := ∃ x ∈ T, cl1 x v w
theorem CX_cons {x : (Int → Prop) × Int × (Int → Prop)} {T : List ((Int → Prop) × Int × (Int → Prop))} {v w : Int} : CX (x :: T) v w ↔ cl1 x v w ∨ CX T v w := by
  constructor
  · rintro ⟨y, hy, h⟩
    rcases List.mem_cons.mp hy with q | q
    · rw [q] at h; exact Or.inl h
    · exact Or.inr ⟨y, q, h⟩
  · rintro (h | ⟨y, hy, h⟩)
    · exact ⟨x, List.mem_cons_self, h⟩
    · exact ⟨y, List.mem_cons_of_mem _ hy, h⟩
theorem CX_app {T U : List ((Int → Prop) × Int × (Int → Prop))} {v w : Int} : CX (T ++ U) v w ↔ CX T v w ∨ CX U v w := by
  constructor
  · rintro ⟨y, hy, h⟩
    rcases List.mem_append.mp hy with q | q
    · exact Or.inl ⟨y, q, h⟩
    · exact Or.inr ⟨y, q, h⟩
  · rintro (⟨y, hy, h⟩ | ⟨y, hy, h⟩)
    · exact ⟨y, List.mem_append_left _ hy, h⟩
    · exact ⟨y, List.mem_append_right _ hy, h⟩
theorem CX_nil {v w : Int} : ¬ CX [] v w := fun ⟨_, hy, _⟩ => absurd hy List.not_mem_nil
/-- a table of clashes -/
def Mx (f : Int → Int) (C : Int → Int → Prop) : Prop := ∀ v, bv v → b63 (f v) ∧ ∀ w, bv w → (bitR (f v) w ↔ (v ≠ w ∧ C v w))
theorem Mx.congr {f : Int → Int} {C D : Int → Int → Prop} (h : Mx f C) (g : ∀ v w, bv v → bv w → v ≠ w → (C v w ↔ D v w)) : Mx f D := fun v hv => ⟨(h v hv).1, fun w hw => ((h v hv).2 w hw).trans ⟨fun q => ⟨q.1, (g v w hv hw q.1).mp q.2⟩, fun q => ⟨q.1, (g v w hv hw q.1).mpr q.2⟩⟩⟩
theorem Mx.uq {f g : Int → Int} {C : Int → Int → Prop} (h : Mx f C) (k : Mx g C) {v : Int} (hv : bv v) : f v = g v := bits_ext (h v hv).1 (k v hv).1 (fun w hw => ((h v hv).2 w hw).trans ((k v hv).2 w hw).symm)
theorem Mx.cg {f g : Int → Int} {C : Int → Int → Prop} (h : Mx f C) (e : ∀ v, bv v → g v = f v) : Mx g C := fun v hv => by rw [e v hv]; exact h v hv
theorem one_bs {v : Int} (hv : bv v) : BS (zishl 1 v) (fun w => v = w) := by
  refine ⟨zishl63 (v := v) (by unfold bv at hv; omega) (by unfold bv at hv; omega), fun w hw => ?_⟩
  obtain ⟨k, rfl⟩ := fin6 hv.1 hv.2
  obtain ⟨m, rfl⟩ := fin6 hw.1 hw.2
  unfold bitR
  rw [bit_st6 k m]
  exact ⟨fun q => by rw [q], fun q => Fin.ext (by omega)⟩
theorem msk {a v : Int} (ha : b63 a) (hv : bv v) : b63 (ziand a (zixor (zishl 1 v) (-1))) ∧ ∀ w, bv w → (bitR (ziand a (zixor (zishl 1 v) (-1))) w ↔ bitR a w ∧ v ≠ w) := by
  have h1 := one_bs hv
  have h := an63 ha h1.1
  exact ⟨h.1, fun w hw => by rw [h.2 w hw, h1.2 w hw]⟩
theorem and6 : ∀ (a : Fin 64) (v : Fin 6), (ziand a.val (zishl 1 v.val) = 0) ↔ ¬ (ziand (zishr a.val v.val) 1 ≠ 0) := by decide +kernel
theorem andz_bit {a v : Int} (ha : b63 a) (hv : bv v) : (ziand a (zishl 1 v) = 0) ↔ ¬ bitR a v := by
  obtain ⟨k, rfl⟩ := fin6 hv.1 hv.2
  obtain ⟨m, hm⟩ : ∃ m : Fin 64, a = (m.val : Int) := ⟨⟨a.toNat, by unfold b63 at ha; omega⟩, by unfold b63 at ha; show a = ((a.toNat : Nat) : Int); omega⟩
  rw [hm]
  exact and6 m k
theorem Mx.upd {f : Int → Int} {C : Int → Int → Prop} (h : Mx f C) {i a : Int} (hi : bv i) (ha : b63 a) : Mx (uZ f i (zior (f i) (ziand a (zixor (zishl 1 i) (-1))))) (fun v w => C v w ∨ (v = i ∧ bitR a w)) := by
  intro v hv
  by_cases e : v = i
  · subst e
    rw [uZ_eq]
    have m := msk ha hi
    have o := or63 (h v hi).1 m.1
    refine ⟨o.1, fun w hw => ?_⟩
    rw [o.2 w hw, (h v hi).2 w hw, m.2 w hw]
    constructor
    · rintro (⟨q1, q2⟩ | ⟨q1, q2⟩)
      · exact ⟨q1, Or.inl q2⟩
      · exact ⟨q2, Or.inr ⟨rfl, q1⟩⟩
    · rintro ⟨q1, q2 | ⟨-, q2⟩⟩
      · exact Or.inl ⟨q1, q2⟩
      · exact Or.inr ⟨q2, q1⟩
  · rw [uZ_ne e]
    refine ⟨(h v hv).1, fun w hw => ?_⟩
    rw [(h v hv).2 w hw]
    constructor
    · exact fun q => ⟨q.1, Or.inl q.2⟩
    · rintro ⟨q1, q2 | ⟨q2, -⟩⟩
      · exact ⟨q1, q2⟩
      · exact absurd q2 e
section F5
variable {σ : Sg}
/-- what one noteClashes adds -/
def nz (x y v w : Int) : Prop := (bitR x v ∧ bitR y w) ∨ (bitR y v ∧ bitR x w)
theorem noteClashes_k {K : Sg → Prop} {x y : Int} {C : Int → Int → Prop} (hx : b63 x) (hy : b63 y) (h : Mx (σ.2.1 85) C) (k : ∀ σ', Sx 85 σ σ' → Mx (σ'.2.1 85) (fun v w => C v w ∨ nz x y v w) → K σ') : wp5_G_noteClashes σ x y K := by
  refine wl2_rule (fun (i : Int) (s : Sg) => (0 ≤ i ∧ i ≤ 6) ∧ Sx 85 σ s ∧ Mx (s.2.1 85) (fun v w => C v w ∨ (v < i ∧ nz x y v w))) (fun (i : Int) _ => (6 - i).toNat) ?_ ⟨by omega, Sx.refl, h.congr (fun v w hv _ _ => ⟨Or.inl, fun q => q.elim id (fun q => absurd q.1 (by unfold bv at hv; omega))⟩)⟩
  rintro P i s ⟨hi, f, hm⟩ ih
  have nx : i < 6 → ∀ s', Sx 85 σ s' → Mx (s'.2.1 85) (fun v w => (C v w ∨ (v < i ∧ nz x y v w)) ∨ (v = i ∧ (bitR x i ∧ bitR y w))) → wp5_G_noteClashes_35 x y i P s' := by
    intro h6 s' f' hm'
    have bi : bv i := ⟨hi.1, by omega⟩
    refine ⟨fun z => ⟨rng_small (by omega) (by omega), ih _ _ ⟨by omega, f', hm'.congr (fun v w hv hw _ => ?_)⟩ (by omega)⟩, fun z => ⟨⟨hi.1, h6⟩, rng_small (by omega) (by omega), ih _ _ ⟨by omega, f'.trans Sx_pF, (hm'.upd bi hx).congr (fun v w hv hw _ => ?_)⟩ (by omega)⟩⟩
    · have ny := (andz_bit hy bi).mp z
      unfold nz
      constructor
      · rintro ((q | ⟨q1, q2⟩) | ⟨q1, q2⟩)
        · exact Or.inl q
        · exact Or.inr ⟨by omega, q2⟩
        · exact Or.inr ⟨by omega, by rw [q1]; exact Or.inl q2⟩
      · rintro (q | ⟨q1, q2⟩)
        · exact Or.inl (Or.inl q)
        · by_cases e : v = i
          · rw [e] at q2
            exact Or.inr ⟨e, q2.elim id (fun q => absurd q.1 ny)⟩
          · exact Or.inl (Or.inr ⟨by omega, q2⟩)
    · have ny : bitR y i := Classical.not_not.mp (fun q => z ((andz_bit hy bi).mpr q))
      unfold nz
      constructor
      · rintro (((q | ⟨q1, q2⟩) | ⟨q1, q2⟩) | ⟨q1, q2⟩)
        · exact Or.inl q
        · exact Or.inr ⟨by omega, q2⟩
        · exact Or.inr ⟨by omega, by rw [q1]; exact Or.inl q2⟩
        · exact Or.inr ⟨by omega, by rw [q1]; exact Or.inr ⟨ny, q2⟩⟩
      · rintro (q | ⟨q1, q2⟩)
        · exact Or.inl (Or.inl (Or.inl q))
        · by_cases e : v = i
          · rw [e] at q2
            rcases q2 with q2 | q2
            · exact Or.inl (Or.inr ⟨e, q2⟩)
            · exact Or.inr ⟨e, q2.2⟩
          · exact Or.inl (Or.inl (Or.inr ⟨by omega, q2⟩))
  refine ⟨fun h6 => k s f (hm.congr (fun v w hv hw _ => ?_)), fun h6 => ⟨fun z => nx h6 s f (hm.congr (fun v w hv hw _ => ?_)), fun z => ⟨⟨hi.1, h6⟩, nx h6 _ (f.trans Sx_pF) ((hm.upd ⟨hi.1, by omega⟩ hy).congr (fun v w hv hw _ => ?_))⟩⟩⟩
  · constructor
    · exact fun q => q.imp id (fun q => q.2)
    · exact fun q => q.imp id (fun q => ⟨by unfold bv at hv; omega, q⟩)
  · have nx := (andz_bit hx ⟨hi.1, by omega⟩).mp z
    constructor
    · exact Or.inl
    · rintro (q | ⟨-, q, -⟩)
      · exact q
      · exact absurd q nx
  · have nx : bitR x i := Classical.not_not.mp (fun q => z ((andz_bit hx ⟨hi.1, by omega⟩).mpr q))
    constructor
    · exact fun q => q.imp id (fun q => ⟨q.1, nx, q.2⟩)
    · exact fun q => q.imp id (fun q => ⟨q.1, q.2.2⟩)
end F5
/-- the table by the arrays of the FLOW -/
def AtT (A : Int → Int → Prop) (st ys no : Int → Int) : Int → List ((Int → Prop) × Int × (Int → Prop)) → Prop
  | _, [] => True
  | i, x :: L => ((∀ w, bv w → (A i w ↔ x.1 w)) ∧ (∀ v, bv v → (bitR (st i) v ↔ x.2.1 = 100 + v)) ∧ ((∃ v, bv v ∧ x.2.1 = 100 + v) → ∀ w, bv w → ((A (ys i) w ∨ A (no i) w) ↔ x.2.2 w))) ∧ AtT A st ys no (i + 1) L
theorem AtT_app {A : Int → Int → Prop} {st ys no : Int → Int} : ∀ {x : List ((Int → Prop) × Int × (Int → Prop))} {i : Int} {y : List ((Int → Prop) × Int × (Int → Prop))}, AtT A st ys no i x → AtT A st ys no (i + x.length) y → AtT A st ys no i (x ++ y)
  | [], i, y, _, h => by rw [show i + (([] : List ((Int → Prop) × Int × (Int → Prop))).length : Int) = i by simp] at h; exact h
  | c :: x, i, y, h, h2 => ⟨h.1, AtT_app h.2 (by rw [show i + 1 + (x.length : Int) = i + ((c :: x).length : Int) by simp only [List.length_cons]; omega]; exact h2)⟩
theorem CT_len : ∀ {l : List Int}, Sq l → ∀ out, (CT l out).length = cs l := by
  intro l hl
  refine Sq.ind (P := fun l => ∀ out, (CT l out).length = cs l) (fun out => by rw [CT_nil]; rfl) ?_ hl
  intro s r hs hr ih out
  have hs' := hs.mono (T := Sq) (fun _ h => h.1)
  rw [cs_app]
  rcases hs with ⟨v, e, hv, he, rfl⟩ | rfl | ⟨t, a, b, B, C, ht, ha, hb, hB, hC, rfl⟩ | ⟨t, a, b, B, ht, ha, hb, hB, rfl⟩
  · rw [CT_set hv he hr, List.length_cons, ih, cs_yes (by unfold setC at hv; omega), he.csz]; omega
  · rw [CT_fail hr, List.length_cons, ih]
    have : cs ([111] : List Int) = 1 := rfl
    omega
  · rw [CT_if ht ha hb hB.1 hC.1 hr, List.length_append, List.length_cons, List.length_append, hB.2, hC.2, ih, cs_if ht ha hb]
  · rw [CT_wh ht ha hb hB.1 hr, List.length_append, List.length_cons, hB.2, ih, cs_wh ht ha hb]
theorem ct_eq {A : Int → Int → Prop} (hm : ∀ w, ¬ A (-1) w) {rd st ys no : Int → Int} : ∀ {l : List Int}, Sq l → ∀ p i nx out, Arr rd st ys no l p i nx → (∀ w, A nx w ↔ out w) → AtC A i (CL l out) → AtT A st ys no i (CT l out) := by
  intro l hl
  refine Sq.ind (P := fun l => ∀ p i nx out, Arr rd st ys no l p i nx → (∀ w, A nx w ↔ out w) → AtC A i (CL l out) → AtT A st ys no i (CT l out)) ?_ ?_ hl
  · intro p i nx out _ _ _
    rw [CT_nil]
    exact trivial
  · intro s r hs hr ih p i nx out hA ho hC
    have hs' := hs.mono (T := Sq) (fun _ h => h.1)
    have z0 : ∀ v, bv v → ∀ c : Int, c = 0 → (bitR c v ↔ (0 : Int) = 100 + v) := fun v hv c hc => ⟨fun q => absurd (by rw [hc] at q; exact q) (no0 hv), fun q => by unfold bv at hv; omega⟩
    have nz : ¬ ∃ v, bv v ∧ (0 : Int) = 100 + v := fun ⟨v, hv, q⟩ => by unfold bv at hv; omega
    obtain ⟨A1, A2⟩ := hA.app hs' hr
    rcases hs with ⟨v, e, hv, he, rfl⟩ | rfl | ⟨t, x, y, B, C, ht, hx, hy, hB, hCC, rfl⟩ | ⟨t, x, y, B, ht, hx, hy, hB, rfl⟩
    · have hcs : cs (v :: e) = 1 := by rw [cs_yes (by unfold setC at hv; omega), he.csz]
      rw [CL_set hv he hr] at hC
      rw [CT_set hv he hr]
      rw [hcs] at A1 A2
      obtain ⟨-, i2⟩ := live_eq hm hr _ _ nx out A2 ho hC.2
      have i3 := ih _ _ nx out A2 ho hC.2
      obtain ⟨h1, h2, h3, h4⟩ := A1
      rw [nmL_set1 hv he] at h2
      rw [ynL_set1 hv he] at h3 h4
      have f2 : st i = stC v := h2.1
      have f3 : ys i = nxt r (i + 1) nx := h3.1
      have f4 : no i = -1 := h4.1
      refine ⟨⟨fun w _ => hC.1 w, fun w hw => by rw [f2, bit_st hw], fun _ w hw => ?_⟩, i3⟩
      rw [f3, f4]
      have i2' : A (nxt r (i + 1) nx) w ↔ LV r out w := i2 w
      rw [i2']
      exact ⟨fun q => q.elim id (fun q => absurd q (hm w)), Or.inl⟩
    · have hcs : cs ([111] : List Int) = 1 := rfl
      rw [CL_fail hr] at hC
      rw [CT_fail hr]
      rw [hcs] at A1 A2
      have i3 := ih _ _ nx out A2 ho hC.2
      obtain ⟨h1, h2, h3, h4⟩ := A1
      rw [nmL_fail1] at h2
      have f2 : st i = 0 := h2.1
      exact ⟨⟨fun w _ => hC.1 w, fun v hv => z0 v hv _ f2, fun q => absurd q nz⟩, i3⟩
    · have hcs : cs (112 :: t :: (x ++ (y ++ (B ++ (113 :: (C ++ [114])))))) = cs B + cs C + 1 := cs_if ht hx hy
      rw [CL_if ht hx hy hB.1 hCC.1 hr] at hC
      rw [CT_if ht hx hy hB.1 hCC.1 hr]
      rw [hcs] at A1 A2
      obtain ⟨f1, f2, f3, f4, ⟨qB, AB⟩, ⟨qC, AC⟩⟩ := A1.ifs ht hx hy hB.1 hCC.1
      obtain ⟨k1, k2⟩ := AtC_app hC
      obtain ⟨k3, k4⟩ := AtC_app k1.2
      rw [CL_len hB.1] at k4
      rw [List.length_cons, List.length_append, CL_len hB.1, CL_len hCC.1] at k2
      obtain ⟨-, i2⟩ := live_eq hm hr _ _ nx out A2 ho k2
      have b1 := hB.2 _ _ _ (LV r out) AB i2 k3
      have b2 := hCC.2 _ _ _ (LV r out) AC i2 k4
      refine AtT_app ⟨⟨fun w _ => k1.1 w, fun v hv => z0 v hv _ f2, fun q => absurd q nz⟩, AtT_app b1 (by rw [CT_len hB.1]; exact b2)⟩ ?_
      rw [List.length_cons, List.length_append, CT_len hB.1, CT_len hCC.1]
      exact ih _ _ nx out A2 ho k2
    · have hcs : cs (115 :: t :: (x ++ (y ++ (B ++ [114])))) = cs B + 1 := cs_wh ht hx hy
      rw [CL_wh ht hx hy hB.1 hr] at hC
      rw [CT_wh ht hx hy hB.1 hr]
      rw [hcs] at A1 A2
      obtain ⟨f1, f2, f3, f4, qB, AB⟩ := A1.whs ht hx hy hB.1
      obtain ⟨k1, k2⟩ := AtC_app hC
      rw [List.length_cons, CL_len hB.1] at k2
      have b1 := hB.2 _ _ _ _ AB k1.1 k1.2
      refine AtT_app ⟨⟨fun w _ => k1.1 w, fun v hv => z0 v hv _ f2, fun q => absurd q nz⟩, b1⟩ ?_
      rw [List.length_cons, CT_len hB.1]
      exact ih _ _ nx out A2 ho k2
