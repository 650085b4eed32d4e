-- ===== Flow.trace, whole
def AtU (A : Int → Int → Prop) : Int → List (Int → Prop) → Prop
  | _, [] => True
  | i, f :: L => (∀ w, bv w → f w → A i w) ∧ AtU A (i + 1) L
theorem AtU_app {A : Int → Int → Prop} : ∀ {x : List (Int → Prop)} {i : Int} {y : List (Int → Prop)}, AtU A i x → AtU A (i + x.length) y → AtU A i (x ++ y)
  | [], i, y, _, h => by simpa using h
  | f :: x, i, y, h, g => by
    refine ⟨h.1, AtU_app (x := x) h.2 ?_⟩
    rw [show i + 1 + (x.length : Int) = i + ((f :: x).length : Nat) by simp only [List.length_cons]; omega]
    exact g
theorem AtU_get {A : Int → Int → Prop} : ∀ {L : List (Int → Prop)} {i : Int} {k : Nat} {f : Int → Prop}, AtU A i L → L[k]? = some f → ∀ w, bv w → f w → A (i + k) w
  | [], i, k, f, _, h => by cases k <;> cases h
  | g :: L, i, 0, f, h, e => fun w hw q => by
    have : g = f := Option.some.inj e
    subst this
    have := h.1 w hw q
    simpa using this
  | g :: L, i, k + 1, f, h, e => fun w hw q => by
    have := AtU_get (L := L) (k := k) h.2 e w hw q
    rw [show i + ((k + 1 : Nat) : Int) = i + 1 + k by omega]
    exact this
theorem live_up2 {A : Int → Int → Prop} {rd st ys no : Int → Int} : ∀ {l : List Int}, Sq l → ∀ p i nx out, Arr rd st ys no l p i nx → EqA A rd st ys no i (i + cs l) → (∀ w, bv w → out w → A nx w) → AtU A i (CL l out) := by
  intro l hl
  refine Sq.ind (P := fun l => ∀ p i nx out, Arr rd st ys no l p i nx → EqA A rd st ys no i (i + cs l) → (∀ w, bv w → out w → A nx w) → AtU A i (CL l out)) ?_ ?_ hl
  · intro p i nx out _ _ _
    rw [CL_nil]; trivial
  · intro s r hs hr ih p i nx out hA hE ho
    have hs' := hs.mono (T := Sq) (fun _ h => h.1)
    have up := fun w hw (q : LV (s ++ r) out w) => live_up (Sq.cons hs' hr) p i nx hA hE w hw (LV_mono (Sq.cons hs' hr) (ho w hw) q)
    rw [nxt_s hs'] at up
    obtain ⟨A1, A2⟩ := hA.app hs' hr
    rw [cs_app] at hE
    have ihr := ih _ _ nx out A2 (fun j j0 j1 => hE j (by have := hs'.csp; omega) (by omega)) ho
    have upr := fun w hw (q : LV r out w) => live_up hr _ _ nx A2 (fun j j0 j1 => hE j (by have := hs'.csp; omega) (by omega)) w hw (LV_mono hr (ho w hw) q)
    generalize hn : nxt r (i + cs s) nx = n1 at A1 upr
    rcases hs with ⟨v, e, hv, he, rfl⟩ | rfl | ⟨t, x, y, B, C, ht, hx, hy, hB, hC, rfl⟩ | ⟨t, x, y, B, ht, hx, hy, hB, rfl⟩
    · have hcs : cs (v :: e) = 1 := by rw [cs_yes (by unfold setC at hv; omega), he.csz]
      rw [LV_set hv he hr] at up
      rw [CL_set hv he hr]
      rw [hcs] at ihr
      exact ⟨up, ihr⟩
    · rw [CL_fail hr]
      exact ⟨fun w _ q => q.elim, ihr⟩
    · have hcs : cs (112 :: t :: (x ++ (y ++ (B ++ (113 :: (C ++ [114])))))) = cs B + cs C + 1 := cs_if ht hx hy
      obtain ⟨-, -, -, -, ⟨qB, AB⟩, ⟨qC, AC⟩⟩ := A1.ifs ht hx hy hB.1 hC.1
      rw [LV_if ht hx hy hB.1 hC.1 hr] at up
      rw [CL_if ht hx hy hB.1 hC.1 hr]
      rw [hcs] at ihr hE
      refine AtU_app (x := _ :: _) ⟨up, AtU_app (hB.2 _ _ _ _ AB (fun j j0 j1 => hE j (by omega) (by omega)) upr) ?_⟩ ?_
      · rw [CL_len hB.1]
        exact hC.2 _ _ _ _ AC (fun j j0 j1 => hE j (by omega) (by omega)) upr
      · rw [List.length_cons, List.length_append, CL_len hB.1, CL_len hC.1]
        exact ihr
    · have hcs : cs (115 :: t :: (x ++ (y ++ (B ++ [114])))) = cs B + 1 := cs_wh ht hx hy
      obtain ⟨-, -, -, -, qB, AB⟩ := A1.whs ht hx hy hB.1
      rw [LV_wh ht hx hy hB.1 hr] at up
      rw [CL_wh ht hx hy hB.1 hr]
      rw [hcs] at ihr hE
      refine AtU_app (x := _ :: _) ⟨up, hB.2 _ _ _ _ AB (fun j j0 j1 => hE j (by omega) (by omega)) up⟩ ?_
      rw [List.length_cons, CL_len hB.1]
      exact ihr
/-- a traced row -/
def Trc (qi : Nat) (n : Int) (l : List Int) (σ : Sg) : Prop :=
  σ.1 qi 0 = n ∧ σ.1 qi 1 = (cs l : Int) ∧ At (σ.2.1 (qi + 1)) 0 ((nmL l 0).map (·.1)) ∧ At (σ.2.1 (qi + 2)) 0 ((nmL l 0).map (·.2.1)) ∧ At (σ.2.1 (qi + 3)) 0 ((nmL l 0).map (·.2.2.1)) ∧ At (σ.2.1 (qi + 4)) 0 ((nmL l 0).map (·.2.2.2.1)) ∧ At (σ.2.1 (qi + 7)) 0 ((nmL l 0).map (·.2.2.2.2.1)) ∧ At (σ.2.1 (qi + 8)) 0 ((nmL l 0).map (·.2.2.2.2.2)) ∧ At (σ.2.1 (qi + 5)) 0 ((ynL l 0 (-1)).map (·.1)) ∧ At (σ.2.1 (qi + 6)) 0 ((ynL l 0 (-1)).map (·.2)) ∧ (∀ j : Int, 0 ≤ j → j < (cs l : Int) → b63 (σ.2.1 (qi + 9) j)) ∧ ∀ j w, bv w → (AhP (σ.2.1 (qi + 9)) (cs l) j w ↔ Cof (CL l NoV) j w)
theorem nm_b63 : ∀ {l : List Int}, Sq l → ∀ p, ∀ x ∈ nmL l p, b63 x.2.2.2.2.1 ∧ b63 x.2.2.2.2.2 := by
  intro l hl
  have rd : ∀ e, b63 (rdL 0 e) := fun e => by
    have := rdL_b (e := e) RdB.nil
    exact ⟨this.1, this.2.1⟩
  have st : ∀ v, b63 (stC v) := fun v => by
    unfold stC
    split
    · exact zishl63 (v := v - 100) (by omega) (by omega)
    · exact b63_0
  refine Sq.ind (P := fun l => ∀ p, ∀ x ∈ nmL l p, b63 x.2.2.2.2.1 ∧ b63 x.2.2.2.2.2) ?_ ?_ hl
  · intro p x hx; rw [nmL_nil] at hx; cases hx
  · intro s r hs hr ih p x hx
    have hs' := hs.mono (T := Sq) (fun _ h => h.1)
    rw [nmL_app hs' hr] at hx
    rcases List.mem_append.mp hx with hx | hx
    · rcases hs with ⟨v, e, hv, he, rfl⟩ | rfl | ⟨t, a, b, B, C, ht, hA, hB, hb, hc, rfl⟩ | ⟨t, a, b, B, ht, hA, hB, hb, rfl⟩
      · rw [nmL_set1 hv he] at hx
        rw [List.mem_singleton.mp hx]
        exact ⟨rd e, st v⟩
      · rw [nmL_fail1] at hx
        rw [List.mem_singleton.mp hx]
        exact ⟨b63_0, b63_0⟩
      · rw [nmL_if1 ht hA hB hb.1 hc.1] at hx
        rcases List.mem_cons.mp hx with rfl | hx
        · exact ⟨rd _, b63_0⟩
        · rcases List.mem_append.mp hx with hx | hx
          · exact hb.2 _ x hx
          · exact hc.2 _ x hx
      · rw [nmL_wh1 ht hA hB hb.1] at hx
        rcases List.mem_cons.mp hx with rfl | hx
        · exact ⟨rd _, b63_0⟩
        · exact hb.2 _ x hx
    · exact ih _ x hx
theorem At_all {f : Int → Int} {P : Int → Prop} : ∀ {L : List Int} {i : Int}, At f i L → (∀ c ∈ L, P c) → ∀ j, i ≤ j → j < i + L.length → P (f j)
  | [], i, _, _, j, j0, j1 => by simp at j1; omega
  | c :: L, i, h, g, j, j0, j1 => by
    by_cases z : j = i
    · rw [z, h.1]; exact g c List.mem_cons_self
    · exact At_all h.2 (fun d hd => g d (List.mem_cons_of_mem _ hd)) j (by omega) (by simp only [List.length_cons] at j1; omega)
theorem trace_k {σ : Sg} {qi : Nat} {K : Sg → Prop} {n : Int} {l : List Int} (h : RowL σ n l) (hl : Sq l) (h40 : cs l ≤ 40) (hb : l.length ≤ 480) (k : ∀ σ', Trc qi n l σ' → Fq (fl qi) No No σ σ' → K σ') : wp5_F_trace σ qi n K := by
  have e0 : (pU σ qi 0 n).1 qi 0 = n := by rw [pU_get, if_pos ⟨rfl, rfl⟩]
  refine number_k (n := n) (h.fl fqU) e0 hl h40 hb (fun σ1 c1 n1 N1 O1 f1 => ?_)
  have h1 := (h.fl fqU).fl f1
  refine link_k h1 n1 hl h40 hb c1 N1 O1 (fun σ2 g2 => ?_)
  obtain ⟨y5, y6, -, -, y1, ya, yf⟩ := g2
  obtain ⟨m1, m2, m3, m4, m7, m8, -, -⟩ := N1
  have c2 : σ2.1 qi 1 = (cs l : Int) := by rw [y1]; exact c1
  have w1 : At (σ2.2.1 (qi + 1)) 0 ((nmL l 0).map (·.1)) := by rw [ya 1 (by decide) (by decide) (by decide) (by decide) (by decide)]; exact m1
  have w2 : At (σ2.2.1 (qi + 2)) 0 ((nmL l 0).map (·.2.1)) := by rw [ya 2 (by decide) (by decide) (by decide) (by decide) (by decide)]; exact m2
  have w3 : At (σ2.2.1 (qi + 3)) 0 ((nmL l 0).map (·.2.2.1)) := by rw [ya 3 (by decide) (by decide) (by decide) (by decide) (by decide)]; exact m3
  have w4 : At (σ2.2.1 (qi + 4)) 0 ((nmL l 0).map (·.2.2.2.1)) := by rw [ya 4 (by decide) (by decide) (by decide) (by decide) (by decide)]; exact m4
  have w7 : At (σ2.2.1 (qi + 7)) 0 ((nmL l 0).map (·.2.2.2.2.1)) := by rw [ya 7 (by decide) (by decide) (by decide) (by decide) (by decide)]; exact m7
  have w8 : At (σ2.2.1 (qi + 8)) 0 ((nmL l 0).map (·.2.2.2.2.2)) := by rw [ya 8 (by decide) (by decide) (by decide) (by decide) (by decide)]; exact m8
  have r7 : ∀ j, 0 ≤ j → j < (cs l : Int) → b63 (σ2.2.1 (qi + 7) j) := fun j j0 j1 => At_all (P := b63) w7 (fun c hc => by
    obtain ⟨x, hx, rfl⟩ := List.mem_map.mp hc
    exact (nm_b63 hl 0 x hx).1) j j0 (by rw [List.length_map, nmL_len hl]; omega)
  have r8 : ∀ j, 0 ≤ j → j < (cs l : Int) → b63 (σ2.2.1 (qi + 8) j) := fun j j0 j1 => At_all (P := b63) w8 (fun c hc => by
    obtain ⟨x, hx, rfl⟩ := List.mem_map.mp hc
    exact (nm_b63 hl 0 x hx).2) j j0 (by rw [List.length_map, nmL_len hl]; omega)
  have arr : Arr (σ2.2.1 (qi + 7)) (σ2.2.1 (qi + 8)) (σ2.2.1 (qi + 5)) (σ2.2.1 (qi + 6)) l 0 0 (-1) := ⟨w7, w8, y5, y6⟩
  have cm : ∀ w, ¬ Cof (CL l NoV) (-1) w := fun w q => absurd q.1 (by decide)
  have eqC := (live_eq (A := Cof (CL l NoV)) cm hl 0 0 (-1) NoV arr (fun w => ⟨fun q => cm w q, fun q => q.elim⟩) (Cof_at (L := CL l NoV) (CL l NoV) [] rfl)).1
  rw [Int.zero_add] at eqC
  refine settle_k (C := Cof (CL l NoV)) c2 (by omega) (by omega) r7 r8 eqC (fun s bs hE => ?_)
  obtain ⟨b1, b2, b3, b4, -, b6⟩ := bs
  have z : ∀ k, 1 ≤ k → k ≤ 12 → k ≠ 9 → s.2.1 (qi + k) = σ2.2.1 (qi + k) := b2
  refine k s ⟨by rw [b1, y1]; exact n1, by rw [b1]; exact c2, by rw [z 1 (by decide) (by decide) (by decide)]; exact w1, by rw [z 2 (by decide) (by decide) (by decide)]; exact w2, by rw [z 3 (by decide) (by decide) (by decide)]; exact w3, by rw [z 4 (by decide) (by decide) (by decide)]; exact w4, by rw [z 7 (by decide) (by decide) (by decide)]; exact w7, by rw [z 8 (by decide) (by decide) (by decide)]; exact w8, by rw [z 5 (by decide) (by decide) (by decide)]; exact y5, by rw [z 6 (by decide) (by decide) (by decide)]; exact y6, b3, fun j w hw => ⟨b4 j w hw, fun q => ?_⟩⟩ (((fqU.trans f1).trans yf).trans b6)
  have up := live_up2 (A := AhP (s.2.1 (qi + 9)) (cs l)) hl 0 0 (-1) NoV arr (by rw [Int.zero_add]; exact hE) (fun w _ q => q.elim)
  obtain ⟨q0, f, q1, q2⟩ := q
  have := AtU_get up q1 w hw q2
  rw [Int.zero_add, Int.toNat_of_nonneg q0] at this
  exact this
