-- ===== DEAD in the class, the rounds
theorem eq_app {s s' r r' : List Int} (h1 : s'.length ≤ s.length) (h2 : r'.length ≤ r.length) : s' ++ r' = s ++ r ↔ s' = s ∧ r' = r := by
  constructor
  · intro h
    have hl := congrArg List.length h
    simp only [List.length_append] at hl
    exact List.append_inj h (by omega)
  · rintro ⟨rfl, rfl⟩; rfl
def DAr (s0 : Sg) (l : List Int) (p i nx : Int) : Prop := At (s0.2.1 72) i ((nmL l p).map (·.1)) ∧ At (s0.2.1 75) i ((nmL l p).map (·.2.2.2.1)) ∧ At (s0.2.1 79) i ((nmL l p).map (·.2.2.2.2.2)) ∧ At (s0.2.1 76) i ((ynL l i nx).map (·.1)) ∧ At (s0.2.1 77) i ((ynL l i nx).map (·.2))
theorem DAr.app {s0 : Sg} {s r : List Int} {p i nx : Int} (hs : Sm Sq s) (hr : Sq r) (h : DAr s0 (s ++ r) p i nx) : DAr s0 s p i (nxt r (i + cs s) nx) ∧ DAr s0 r (p + s.length) (i + cs s) nx := by
  obtain ⟨h1, h2, h3, h4, h5⟩ := h
  rw [ynL_app hs hr, List.map_append] at h4 h5
  obtain ⟨a1, b1⟩ := nmA_app hs hr h1
  obtain ⟨a2, b2⟩ := nmA_app hs hr h2
  obtain ⟨a3, b3⟩ := nmA_app hs hr h3
  obtain ⟨a4, b4⟩ := At_app.mp h4
  obtain ⟨a5, b5⟩ := At_app.mp h5
  rw [List.length_map, ynL_len (Sq.one hs)] at b4 b5
  exact ⟨⟨a1, a2, a3, a4, a5⟩, b1, b2, b3, b4, b5⟩
theorem DAr.ifs {s0 : Sg} {t : Int} {a b B C : List Int} {p i nx : Int} (ht : testC t) (ha : Ex lfR a) (hb : Ex lfR b) (hB : Sq B) (hC : Sq C) (h : DAr s0 (112 :: t :: (a ++ (b ++ (B ++ (113 :: (C ++ [114])))))) p i nx) : s0.2.1 79 i = 0 ∧ DAr s0 B (p + 2 + a.length + b.length) (i + 1) nx ∧ DAr s0 C (p + 2 + a.length + b.length + B.length + 1) (i + 1 + cs B) nx := by
  obtain ⟨h1, h2, h3, h4, h5⟩ := h
  rw [ynL_if1 ht ha hb hB hC, List.map_cons, List.map_append] at h4 h5
  obtain ⟨_, b1, c1⟩ := nmA_if ht ha hb hB hC h1
  obtain ⟨_, b2, c2⟩ := nmA_if ht ha hb hB hC h2
  obtain ⟨a3, b3, c3⟩ := nmA_if ht ha hb hB hC h3
  obtain ⟨_, b4, c4⟩ := At_tail2 h4
  obtain ⟨_, b5, c5⟩ := At_tail2 h5
  rw [List.length_map, ynL_len hB] at c4 c5
  exact ⟨a3, ⟨b1, b2, b3, b4, b5⟩, ⟨c1, c2, c3, c4, c5⟩⟩
theorem DAr.whs {s0 : Sg} {t : Int} {a b B : List Int} {p i nx : Int} (ht : testC t) (ha : Ex lfR a) (hb : Ex lfR b) (hB : Sq B) (h : DAr s0 (115 :: t :: (a ++ (b ++ (B ++ [114])))) p i nx) : s0.2.1 79 i = 0 ∧ DAr s0 B (p + 2 + a.length + b.length) (i + 1) i := by
  obtain ⟨h1, h2, h3, h4, h5⟩ := h
  rw [ynL_wh1 ht ha hb hB] at h4 h5
  obtain ⟨_, b1⟩ := nmA_wh ht ha hb hB h1
  obtain ⟨_, b2⟩ := nmA_wh ht ha hb hB h2
  obtain ⟨a3, b3⟩ := nmA_wh ht ha hb hB h3
  exact ⟨a3, b1, b2, b3, h4.2, h5.2⟩
section DE
variable {s0 s : Sg} {n rr : Int} {L4 L : Int → Int → Sg → Prop} {cnt i c : Int}
theorem sameA {a : Nat} (f : Fq No (one n) No s0 s) : s.1 a = s0.1 a ∧ s.2.1 a = s0.2.1 a := f.1 a (fun z => z)
theorem de_no (hL : ∀ c j s, wp5_A_dead_35 n rr L4 L c j s → L c j s) (f : Fq No (one n) No s0 s) (hc : s0.1 71 1 = cnt) (h40 : cnt ≤ 40) (hi : 0 ≤ i ∧ i < cnt) (h : s0.2.1 79 i = 0) (k : L c (i - 1) s) : L c i s := by
  have hr : rng (i - 1) := rng_small (by omega) (by omega)
  have hx : s.1 71 1 = cnt := by rw [(sameA f).1]; exact hc
  refine hL _ _ _ ⟨fun z => absurd z (by omega), fun _ => isHere_k (fun _ => t1 ⟨by omega, ?_⟩) (fun z => absurd ⟨hi.1, by omega, by omega⟩ z)⟩
  show (s.2.1 79 i = 0 → _) ∧ (s.2.1 79 i ≠ 0 → _)
  rw [(sameA f).2, h]
  exact t0 ⟨hr, k⟩
theorem de_at (hL : ∀ c j s, wp5_A_dead_35 n rr L4 L c j s → L c j s) (f : Fq No (one n) No s0 s) (hc : s0.1 71 1 = cnt) (h40 : cnt ≤ 40) (hi : 0 ≤ i ∧ i < cnt) (hb : ∀ j, 0 ≤ j → j < cnt → b63 (s0.2.1 80 j)) {v x : Int} (hv : 0 ≤ v ∧ v ≤ 5) (h : s0.2.1 79 i = zishl 1 v) (h1 : s0.2.1 76 i = x) (h2 : s0.2.1 77 i = -1) (k1 : AhP (s0.2.1 80) cnt x v → L c (i - 1) s) (k0 : ¬ AhP (s0.2.1 80) cnt x v → wp5_W_remove s n (s0.2.1 72 i) (s0.2.1 75 i) (fun s' => rng (i - 1) ∧ L 1 (i - 1) s')) : L c i s := by
  have hr : rng (i - 1) := rng_small (by omega) (by omega)
  have hx : s.1 71 1 = cnt := by rw [(sameA f).1]; exact hc
  have here : ∀ {K : Int → Prop}, K 1 → wp5_F_isHere s 71 i K := fun q => isHere_k (fun _ => q) (fun z => absurd ⟨hi.1, by omega, by omega⟩ z)
  refine hL _ _ _ ⟨fun z => absurd z (by omega), fun _ => here (t1 ⟨by omega, ?_⟩)⟩
  show (s.2.1 79 i = 0 → _) ∧ (s.2.1 79 i ≠ 0 → _)
  rw [(sameA f).2, h]
  refine ⟨fun z => absurd z (shl_ne hv), fun _ => here (t1 ⟨by omega, aheadOf_k hx h40 (aheadOf_k hx h40 ?_)⟩)⟩
  show (ziand (zishl 1 v) (zior (ahv (s.2.1 80) cnt (s.2.1 76 i)) (ahv (s.2.1 80) cnt (s.2.1 77 i))) ≠ 0 → _) ∧ (ziand (zishl 1 v) (zior (ahv (s.2.1 80) cnt (s.2.1 76 i)) (ahv (s.2.1 80) cnt (s.2.1 77 i))) = 0 → _)
  rw [(sameA (a := 80) f).2, (sameA (a := 76) f).2, (sameA (a := 77) f).2, h1, h2]
  have hno : ahv (s0.2.1 80) cnt (-1) = 0 := if_neg (by omega)
  rw [hno]
  have o := or63 (ahv_b hb x) b63_0
  have ab := and_bit hv o.1
  rw [o.2 v hv] at ab
  refine ⟨fun z => ⟨hr, k1 ((ab.mp z).elim id (fun q => absurd q (no0 hv)))⟩, fun z => here (t1 ⟨by omega, ?_⟩)⟩
  show wp5_W_remove s n (s.2.1 72 i) (s.2.1 75 i) _
  rw [(sameA (a := 72) f).2, (sameA (a := 75) f).2]
  exact k0 (fun q => ab.mpr (Or.inl q) z)
def DeP (s0 : Sg) (n cnt : Int) (L : Int → Int → Sg → Prop) (l : List Int) : Prop := ∀ (s : Sg) (c : Int) (a t : List Int) (p i nx : Int) (out : Int → Prop), Fq No (one n) No s0 s → RowL s n (a ++ (l ++ t)) → p = a.length → DAr s0 l p i nx → 0 ≤ i → i + cs l ≤ cnt → (∀ w, bv w → (AhP (s0.2.1 80) cnt nx w ↔ out w)) → AtB (AhP (s0.2.1 80) cnt) i (CL l out) → (∀ s' c', Fq No (one n) No s0 s' → RowL s' n (a ++ (d1 l out ++ t)) → (c' = 0 ↔ c = 0 ∧ d1 l out = l) → L c' (i - 1) s') → L c (i + cs l - 1) s
theorem DeP_sq (hL : ∀ c j s, wp5_A_dead_35 n rr L4 L c j s → L c j s) (hc : s0.1 71 1 = cnt) (h40 : cnt ≤ 40) (hb : ∀ j, 0 ≤ j → j < cnt → b63 (s0.2.1 80 j)) : ∀ {l : List Int}, Sq l → DeP s0 n cnt L l := by
  intro l hl
  refine Sq.ind (P := DeP s0 n cnt L) ?_ ?_ hl
  · intro s c a t p i nx out f h hp hd i0 i1 ho hC k
    have := k s c f (by rw [d1_nil]; exact h) (by rw [d1_nil]; exact ⟨fun q => ⟨q, rfl⟩, fun q => q.1⟩)
    rw [show i + ((cs ([] : List Int) : Nat) : Int) - 1 = i - 1 by show i + ((0 : Nat) : Int) - 1 = _; omega]
    exact this
  · intro st r hs hr ih s c a t p i nx out f h hp hd i0 i1 ho hC k
    have hs' := hs.mono (T := Sq) (fun _ h => h.1)
    have pos := hs'.csp
    obtain ⟨D1, D2⟩ := hd.app hs' hr
    rw [cs_app] at i1
    have dr := d1_sq hr out
    rw [show i + ((cs (st ++ r) : Nat) : Int) - 1 = i + cs st + cs r - 1 by rw [cs_app]; omega]
    have h' : RowL s n ((a ++ st) ++ (r ++ t)) := by simpa using h
    have start : ∀ (C2 : AtB (AhP (s0.2.1 80) cnt) (i + cs st) (CL r out)), (∀ s' c', Fq No (one n) No s0 s' → RowL s' n (a ++ (st ++ (d1 r out ++ t))) → (c' = 0 ↔ c = 0 ∧ d1 r out = r) → L c' (i + cs st - 1) s') → L c (i + cs st + cs r - 1) s := fun C2 kk => ih s c (a ++ st) t (p + st.length) (i + cs st) nx out f h' (by rw [List.length_append]; omega) D2 (by omega) (by omega) ho C2 (fun s' c' f' h' q => kk s' c' f' (by simpa using h') q)
    have nl := fun C2 => live_nxt (A := AhP (s0.2.1 80) cnt) hr (i := i + cs st) ho C2
    rcases hs with ⟨v, e, hv, he, rfl⟩ | rfl | ⟨tt, x, y, B, C, ht, hx, hy, hB, hCC, rfl⟩ | ⟨tt, x, y, B, ht, hx, hy, hB, rfl⟩
    · have hcs : cs (v :: e) = 1 := by rw [cs_yes (by unfold setC at hv; omega), he.csz]
      rw [CL_set hv he hr] at hC
      rw [hcs] at start nl D1 i1 ⊢
      refine start hC.2 (fun s1 c1 f1 r1 q1 => ?_)
      rw [show i + ((1 : Nat) : Int) - 1 = i by omega]
      obtain ⟨g1, g2, g3, g4, g5⟩ := D1
      rw [nmL_set1 hv he] at g1 g2 g3
      rw [ynL_set1 hv he] at g4 g5
      have v1 : s0.2.1 72 i = p := g1.1
      have v2 : s0.2.1 75 i = p + 1 + e.length := g2.1
      have v3 : s0.2.1 79 i = stC v := g3.1
      have v4 : s0.2.1 76 i = nxt r (i + ((1 : Nat) : Int)) nx := g4.1
      have v5 : s0.2.1 77 i = -1 := g5.1
      by_cases hvv : 100 ≤ v ∧ v ≤ 105
      · have e3 : stC v = zishl 1 (v - 100) := if_pos hvv
        rw [e3] at v3
        have lv := nl hC.2 (v - 100) ⟨by omega, by omega⟩
        refine de_at hL f1 hc h40 ⟨i0, by omega⟩ hb (v := v - 100) (by omega) v3 v4 v5 (fun q => ?_) (fun q => ?_)
        · have nd : ¬ ((100 ≤ v ∧ v ≤ 105) ∧ ¬ LV r out (v - 100)) := fun z => z.2 (lv.mp q)
          have e := d1_stay (out := out) hv he hr nd
          refine k s1 c1 f1 (by rw [e]; simpa using r1) ?_
          rw [e, q1, eq_app (Nat.le_refl _) dr.2.2.2.1]
          exact ⟨fun z => ⟨z.1, rfl, z.2⟩, fun z => ⟨z.1, z.2.2⟩⟩
        · have nd : (100 ≤ v ∧ v ≤ 105) ∧ ¬ LV r out (v - 100) := ⟨hvv, fun z => q (lv.mpr z)⟩
          have ed := d1_out (out := out) hv he hr nd
          rw [v1, v2]
          refine remove_k (a := a) (e := v :: e) (b := d1 r out ++ t) r1 hp (by simp only [List.length_cons]; omega) (fun s2 r2 f2 => ⟨rng_small (by omega) (by omega), k s2 1 (f1.trans f2) (by rw [ed]; exact r2) ?_⟩)
          refine ⟨fun z => absurd z (by decide), fun z => ?_⟩
          have := congrArg List.length z.2
          rw [ed, List.length_append, List.length_cons] at this
          have := dr.2.2.2.1
          omega
      · have e3 : stC v = 0 := if_neg hvv
        have e := d1_stay (out := out) hv he hr (fun z => hvv z.1)
        refine de_no hL f1 hc h40 ⟨i0, by omega⟩ (v3.trans e3) (k s1 c1 f1 (by rw [e]; simpa using r1) ?_)
        rw [e, q1, eq_app (Nat.le_refl _) dr.2.2.2.1]
        exact ⟨fun z => ⟨z.1, rfl, z.2⟩, fun z => ⟨z.1, z.2.2⟩⟩
    · have hcs : cs ([111] : List Int) = 1 := rfl
      rw [CL_fail hr] at hC
      rw [hcs] at start D1 i1 ⊢
      refine start hC.2 (fun s1 c1 f1 r1 q1 => ?_)
      rw [show i + ((1 : Nat) : Int) - 1 = i by omega]
      have e := d1_fail (out := out) hr
      have g3 := D1.2.2.1
      rw [nmL_fail1] at g3
      refine de_no hL f1 hc h40 ⟨i0, by omega⟩ g3.1 (k s1 c1 f1 (by rw [e]; simpa using r1) ?_)
      rw [show d1 ([111] ++ r) out = [111] ++ d1 r out from e, q1, eq_app (Nat.le_refl _) dr.2.2.2.1]
      exact ⟨fun z => ⟨z.1, rfl, z.2⟩, fun z => ⟨z.1, z.2.2⟩⟩
    · have hcs : cs (112 :: tt :: (x ++ (y ++ (B ++ (113 :: (C ++ [114])))))) = cs B + cs C + 1 := cs_if ht hx hy
      rw [CL_if ht hx hy hB.1 hCC.1 hr] at hC
      obtain ⟨k1, k2⟩ := AtB_app hC
      obtain ⟨k3, k4⟩ := AtB_app k1.2
      rw [CL_len hB.1] at k4
      rw [List.length_cons, List.length_append, CL_len hB.1, CL_len hCC.1] at k2
      rw [hcs] at start nl D1 i1 ⊢
      obtain ⟨z9, DB, DC⟩ := D1.ifs ht hx hy hB.1 hCC.1
      have dB := d1_sq hB.1 (LV r out)
      have dC := d1_sq hCC.1 (LV r out)
      refine start k2 (fun s1 c1 f1 r1 q1 => ?_)
      rw [show i + ((cs B + cs C + 1 : Nat) : Int) - 1 = i + 1 + cs B + cs C - 1 by omega]
      refine hCC.2 s1 c1 (a ++ (112 :: tt :: (x ++ (y ++ (B ++ [113]))))) (114 :: (d1 r out ++ t)) _ (i + 1 + cs B) _ (LV r out) f1 (by simpa using r1) (by simp only [List.length_append, List.length_cons, List.length_nil]; omega) DC (by omega) (by omega) (nl k2) k4 (fun s2 c2 f2 r2 q2 => ?_)
      refine hB.2 s2 c2 (a ++ (112 :: tt :: (x ++ y))) (113 :: (d1 C (LV r out) ++ (114 :: (d1 r out ++ t)))) _ (i + 1) _ (LV r out) f2 (by simpa using r2) (by simp only [List.length_append, List.length_cons]; omega) DB (by omega) (by omega) (nl k2) k3 (fun s3 c3 f3 r3 q3 => ?_)
      rw [show i + 1 - 1 = i by omega]
      have e := d1_if (out := out) ht hx hy hB.1 hCC.1 hr
      refine de_no hL f3 hc h40 ⟨i0, by omega⟩ z9 (k s3 c3 f3 (by rw [e]; simpa using r3) ?_)
      rw [e, q3, q2, q1, eq_app (by rw [len_if, len_if]; have := dB.2.2.2.1; have := dC.2.2.2.1; omega) dr.2.2.2.1]
      constructor
      · rintro ⟨⟨⟨g1, g2⟩, g3⟩, g4⟩
        exact ⟨g1, by rw [g3, g4], g2⟩
      · rintro ⟨g1, g2, g3⟩
        have g4 := (List.cons.inj (List.cons.inj g2).2).2
        have g5 := List.append_cancel_left (List.append_cancel_left g4)
        have g6 := (eq_app dB.2.2.2.1 (by simp only [List.length_cons, List.length_append, List.length_nil]; have := dC.2.2.2.1; omega)).mp g5
        have g7 := List.append_cancel_right (List.cons.inj g6.2).2
        exact ⟨⟨⟨g1, g3⟩, g7⟩, g6.1⟩
    · have hcs : cs (115 :: tt :: (x ++ (y ++ (B ++ [114])))) = cs B + 1 := cs_wh ht hx hy
      have eW := LV_wh (out := out) ht hx hy hB.1 hr
      rw [CL_wh ht hx hy hB.1 hr, ← eW] at hC
      obtain ⟨k1, k2⟩ := AtB_app hC
      rw [List.length_cons, CL_len hB.1] at k2
      rw [hcs] at start nl D1 i1 ⊢
      obtain ⟨z9, DB⟩ := D1.whs ht hx hy hB.1
      have dB := d1_sq hB.1 (LV ((115 :: tt :: (x ++ (y ++ (B ++ [114])))) ++ r) out)
      refine start k2 (fun s1 c1 f1 r1 q1 => ?_)
      rw [show i + ((cs B + 1 : Nat) : Int) - 1 = i + 1 + cs B - 1 by omega]
      refine hB.2 s1 c1 (a ++ (115 :: tt :: (x ++ y))) (114 :: (d1 r out ++ t)) _ (i + 1) i (LV ((115 :: tt :: (x ++ (y ++ (B ++ [114])))) ++ r) out) f1 (by simpa using r1) (by simp only [List.length_append, List.length_cons]; omega) DB (by omega) (by omega) k1.1 k1.2 (fun s3 c3 f3 r3 q3 => ?_)
      rw [show i + 1 - 1 = i by omega]
      have e := d1_wh (out := out) ht hx hy hB.1 hr
      refine de_no hL f3 hc h40 ⟨i0, by omega⟩ z9 (k s3 c3 f3 (by rw [e]; simpa using r3) ?_)
      rw [e, q3, q1, eq_app (by rw [len_wh, len_wh]; have := dB.2.2.2.1; omega) dr.2.2.2.1]
      constructor
      · rintro ⟨⟨g1, g2⟩, g4⟩
        exact ⟨g1, by rw [g4], g2⟩
      · rintro ⟨g1, g2, g3⟩
        have g4 := (List.cons.inj (List.cons.inj g2).2).2
        have g5 := List.append_cancel_left (List.append_cancel_left g4)
        exact ⟨⟨g1, g3⟩, List.append_cancel_right g5⟩
end DE
/-- cells of the acts' flow, and the row -/
theorem dead_k {σ : Sg} {n : Int} {l : List Int} {K : Sg → Prop} (h : RowL σ n l) (hl : Sq l) (h40 : cs l ≤ 40) (hb : l.length ≤ 480) (k : ∀ σ', RowL σ' n (deF l) → Fq (fl 71) (one n) No σ σ' → K σ') : wp5_A_dead σ n K := by
  unfold wp5_A_dead
  refine wl3_rule (fun (c r : Int) (s : Sg) => ∃ j : Nat, r = (j : Int) ∧ j ≤ 41 ∧ RowL s n (dI j l) ∧ Fq (fl 71) (one n) No σ s ∧ (c = 0 → dI (j + 1) l = dI j l) ∧ (c ≠ 0 → cs (dI j l) + j ≤ 40)) (fun _ (r : Int) _ => (41 - r).toNat) ?_ ⟨0, rfl, by omega, h, Fq.refl, fun z => absurd z (by decide), fun _ => by show cs l + 0 ≤ 40; omega⟩
  rintro P c r s ⟨j, rfl, hj, hr, hf, hc0, hc1⟩ ih
  have fin : c = 0 → P c (j : Int) s → K s := fun z _ => k s (by rw [deF_at hj (hc0 z)]; exact hr) hf
  have fin' : c = 0 → K s := fun z => k s (by rw [deF_at hj (hc0 z)]; exact hr) hf
  refine ⟨fun z => ?_, fun z => ⟨fun z2 => fin' z2, fun z2 => ?_⟩⟩
  · by_cases z2 : c = 0
    · exact fin' z2
    · have := hc1 z2; omega
  obtain ⟨m1, m2, m3, m4⟩ := dI_sq j hl
  have hm := hc1 z2
  refine trace_k hr m1 (by omega) (by omega) (fun s1 T1 f1 => ?_)
  obtain ⟨t0', t1', p1, _, _, p4, _, p8, y5, y6, hbb, hA⟩ := T1
  have hrow : RowL s1 n (dI j l) := hr.fl f1
  rw [t1']
  refine ⟨rng_small (by omega) (by omega), ?_⟩
  intro L hL
  have aB : AtB (AhP (s1.2.1 (71 + 9)) (cs (dI j l))) 0 (CL (dI j l) NoV) := AtB_of hA (Cof_at (L := CL (dI j l) NoV) (CL (dI j l) NoV) [] rfl)
  have hno : ∀ w, bv w → (AhP (s1.2.1 (71 + 9)) (cs (dI j l)) (-1) w ↔ NoV w) := fun w hw => by
    unfold AhP
    rw [show ahv (s1.2.1 (71 + 9)) (cs (dI j l)) (-1) = 0 from if_neg (by omega)]
    exact ⟨fun q => absurd q (no0 hw), fun q => q.elim⟩
  have key := DeP_sq (s0 := s1) (n := n) (cnt := (cs (dI j l) : Int)) (L := L) hL t1' (by omega) hbb m1 s1 0 [] [] 0 0 (-1) NoV Fq.refl (by simpa using hrow) rfl ⟨p1, p4, p8, y5, y6⟩ (by omega) (by omega) hno aB (fun s2 c2 f2 r2 q2 => ?_)
  · rw [Int.zero_add] at key
    exact key
  · have r3 : RowL s2 n (dI (j + 1) l) := by
      have := r2
      rw [List.nil_append, List.append_nil] at this
      exact this
    have f3 : Fq (fl 71) (one n) No σ s2 := (hf.trans (f1.mono (fun _ h => h) (fun _ h => h.elim) (fun _ h => h))).trans (f2.mono (fun _ h => h.elim) (fun _ h => h) (fun _ h => h))
    refine hL _ _ _ ⟨fun _ => ⟨rng_small (by omega) (by omega), ih _ _ _ ⟨j + 1, by omega, by omega, r3, f3, fun z3 => ?_, fun z3 => ?_⟩ (by omega)⟩, fun z3 => absurd z3 (by omega)⟩
    · have e : dI (j + 1) l = dI j l := (q2.mp z3).2
      show d1 (dI (j + 1) l) NoV = dI (j + 1) l
      rw [e]; exact e
    · obtain ⟨_, _, _, _, d5⟩ := d1_sq m1 NoV
      rcases d5 with d5 | d5
      · exact absurd (q2.mpr ⟨rfl, d5⟩) z3
      · show cs (d1 (dI j l) NoV) + (j + 1) ≤ 40
        omega
