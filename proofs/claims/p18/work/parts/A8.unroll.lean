-- ===== UNROLL
noncomputable def unF (l : List Int) : List Int := SqM (fun v e => v :: e) (fun t a b _ _ y z => 112 :: t :: (a ++ (b ++ (y ++ (113 :: (z ++ [114])))))) (fun t a b B _ => 112 :: t :: (a ++ (b ++ ((B ++ (115 :: t :: (a ++ (b ++ (B ++ [114]))))) ++ (113 :: ([] ++ [114])))))) l
def URx (l l' : List Int) : Prop := UR l l' ∧ l' = unF l
def UWx (row : Int → Int) (many : Int) (l : List Int) : Prop := ∀ (n : Nat) (q : Int) (f : Int → Int) (m : Int) (P : Int → (Int → Int) → Int → Prop) (K : (Int → Int) → Int → Prop), cs l ≤ n → cs l ≤ 40 → At row q l → 0 ≤ q → q + l.length ≤ many → l.length ≤ 500 → 0 ≤ m → m + 3 * l.length ≤ 2400 → (∀ a b c, wp_unrolls_2 (wp_unrolls n) K row many P a b c → P a b c) → (∀ l' f' m', URx l l' → Wr f m l' f' m' → P (q + l.length) f' m') → P q f m
theorem unrollsx_of {row : Int → Int} {many : Int} (hm : many ≤ 2400) {l : List Int} (hl : UWx row many l) {n : Nat} {q : Int} {f : Int → Int} {m : Int} {K : (Int → Int) → Int → Prop} (hn : cs l + 1 ≤ n) (h40 : cs l ≤ 40) (ha : At row q l) (h0 : 0 ≤ q) (h1 : q + l.length ≤ many) (h2 : l.length ≤ 500) (h3 : Lst row many (q + l.length)) (m0 : 0 ≤ m) (m1 : m + 3 * l.length ≤ 2400) (hK : ∀ l' f' m', URx l l' → Wr f m l' f' m' → K f' m') : wp_unrolls n row f many m q K := by
  obtain ⟨n, rfl⟩ : ∃ k, n = k + 1 := ⟨n - 1, by omega⟩
  rw [wp_unrolls_s]
  intro P hP
  exact hl n q f m P K (by omega) h40 ha h0 h1 h2 m0 m1 hP (fun l' f' m' hr hw => hP _ _ _ (isLast_yes (by omega) hm h3 (u1 (hK l' f' m' hr hw))))
theorem UWx_all {row : Int → Int} {many : Int} (hm : many ≤ 2400) : ∀ {l : List Int}, Sq l → UWx row many l := by
  intro l hl
  refine Sq.ind (P := UWx row many) ?_ ?_ hl
  · intro n q f m P K _ _ _ _ _ _ _ _ _ h
    have := h [] f m ⟨⟨Sq.nil, by simp⟩, SqM_nil.symm⟩ Wr.nil
    simpa using this
  · intro st r hs hr ih n q f m P K hn h40 ha h0 h1 h2 m0 m1 hP h
    rw [cs_app] at hn h40
    rw [List.length_append] at h1 h2 m1 h
    obtain ⟨a1, a2⟩ := At_app.mp ha
    have hp := hs.pos
    have hat := hs.at0 a1
    have hss : Sm Sq st := hs.mono (fun _ h => h.1)
    have hbe := @behind_ok row st hss q
    have tail : ∀ (s' : List Int) (f1 : Int → Int) (m1' : Int), URx st s' → Wr f m s' f1 m1' → wp_unrolls_149 row q P f1 m1' := by
      intro s' f1 m1' hs' w1
      have k1 := w1.1
      obtain ⟨⟨s1, s2⟩, s3⟩ := hs'
      refine hbe (by omega) a1 h0 (by omega) (by omega) ?_
      refine ih n _ f1 m1' P K (by omega) (by omega) a2 (by omega) (by omega) (by omega) (by omega) (by omega) hP (fun r' f2 m2 hr' w2 => ?_)
      obtain ⟨⟨t1, t2⟩, t3⟩ := hr'
      rw [show q + (st.length : Int) + r.length = q + ((st.length + r.length : Nat) : Int) by omega]
      exact h (s' ++ r') f2 m2 ⟨⟨Sq.app s1 t1, by rw [List.length_append, List.length_append]; omega⟩, by rw [s3, t3]; exact (SqM_cons hss hr).symm⟩ (w1.app w2)
    refine hP _ _ _ (isLast_no h0 (by omega) hm hat (u0 ⟨⟨by omega, by omega⟩, ?_⟩))
    rcases hs with ⟨v, ex, hv, he, rfl⟩ | rfl | ⟨t, a, b, B, C, ht, hA, hB, hb, hc, rfl⟩ | ⟨t, a, b, B, ht, hA, hB, hb, rfl⟩
    · have e1 : row q = v := a1.1
      unfold setC at hv
      exact ⟨fun _ => ⟨⟨by omega, by omega⟩, fun _ => hbe (by omega) a1 h0 (by omega) (by omega) (writes_ok a1 rfl h0 (by omega) m0 (by omega) (fun f' m' hw => tail _ f' m' ⟨⟨Sq.one hss, by omega⟩, (SqM_set (by unfold setC; exact hv) he).symm⟩ hw)), fun c => absurd c (by omega)⟩, fun c => absurd c (by omega)⟩
    · have e1 : row q = 111 := a1.1
      exact ⟨fun _ => ⟨⟨by omega, by omega⟩, fun _ => hbe (by omega) a1 h0 (by omega) (by omega) (writes_ok a1 rfl h0 (by omega) m0 (by omega) (fun f' m' hw => tail _ f' m' ⟨⟨Sq.one hss, by omega⟩, SqM_fail.symm⟩ hw)), fun c => absurd c (by omega)⟩, fun c => absurd c (by omega)⟩
    · have hl := len_if (t := t) (a := a) (b := b) (B := B) (C := C)
      rw [cs_if ht hA hB] at hn h40
      obtain ⟨r1, r2, r3, r4, r5, r6, r7, r8⟩ := At_if.mp a1
      have lb : Lst row many (q + 2 + a.length + b.length + B.length) := Or.inr ⟨by omega, Or.inl r6⟩
      have hh : At row q (112 :: t :: (a ++ b)) := ⟨r1, r2, At_app.mpr ⟨by rw [show q + 1 + 1 = q + 2 by omega]; exact r3, by rw [show q + 1 + 1 + (a.length : Int) = q + 2 + a.length by omega]; exact r4⟩⟩
      have hhl : (112 :: t :: (a ++ b)).length = a.length + b.length + 2 := by simp only [List.length_cons, List.length_append]
      refine ⟨fun _ => ⟨⟨by omega, by omega⟩, fun c => absurd r1 c, fun _ => ?_⟩, fun c => absurd c (by omega)⟩
      refine body_ok hA hB h0 r3 r4 (by omega) (by omega) (by omega) (writes_ok hh (by omega) h0 (by omega) m0 (by omega) (fun f1 m1' g1 => ?_))
      have e1 := g1.1
      refine body_ok hA hB h0 r3 r4 (by omega) (by omega) (by omega) (unrollsx_of hm hb.2 (by omega) (by omega) r5 (by omega) (by omega) (by omega) lb (by omega) (by omega) (fun B' f2 m2 hB' g2 => ?_))
      have e2 := g2.1
      obtain ⟨⟨b1, b2⟩, b3⟩ := hB'
      refine body_ok hA hB h0 r3 r4 (by omega) (by omega) (by omega) (close_ok hm hb.1 _ _ (by omega) r5 (by omega) (by omega) (by omega) lb ⟨⟨by omega, by omega⟩, fun c => absurd r6 c, fun _ => write_ok (by omega) (by omega) (fun f3 m3 g3 => ⟨⟨by omega, by omega⟩, ?_⟩)⟩)
      have e3 := g3.1
      simp only [List.length_cons, List.length_nil] at e3
      refine unrollsx_of hm hc.2 (by omega) (by omega) r7 (by omega) (by omega) (by omega) (Or.inr ⟨by omega, Or.inr r8⟩) (by omega) (by omega) (fun C' f4 m4 hC' g4 => ?_)
      have e4 := g4.1
      obtain ⟨⟨c1, c2⟩, c3⟩ := hC'
      refine write_ok (by omega) (by omega) (fun f5 m5 g5 => tail (112 :: t :: (a ++ (b ++ (B' ++ (113 :: (C' ++ [114])))))) f5 m5 ⟨⟨Sq.one (Or.inr (Or.inr (Or.inl ⟨t, a, b, B', C', ht, hA, hB, b1, c1, rfl⟩))), by rw [len_if, len_if]; omega⟩, by rw [b3, c3]; exact (show unF (112 :: t :: (a ++ (b ++ (B ++ (113 :: (C ++ [114])))))) = 112 :: t :: (a ++ (b ++ (unF B ++ (113 :: (unF C ++ [114]))))) from SqM_if ht hA hB hb.1 hc.1).symm⟩ ?_)
      have := g1.app (g2.app (g3.app (g4.app g5)))
      simpa using this
    · have hl := len_wh (t := t) (a := a) (b := b) (B := B)
      obtain ⟨r1, r2, r3, r4, r5, r6⟩ := At_wh.mp a1
      have hh : At row (q + 1) (t :: (a ++ (b ++ B))) := by
        refine ⟨r2, ?_⟩
        rw [show q + 1 + 1 = q + 2 by omega]
        exact At_app.mpr ⟨r3, At_app.mpr ⟨r4, r5⟩⟩
      have hhl : (t :: (a ++ (b ++ B))).length = a.length + b.length + B.length + 1 := by simp only [List.length_cons, List.length_append]; omega
      refine ⟨fun c => absurd r1 c, fun _ => write_ok m0 (by omega) (fun f1 m1' g1 => hbe (by omega) a1 h0 (by omega) (by omega) ⟨⟨by omega, by omega⟩, ⟨by omega, by omega⟩, ?_⟩)⟩
      have e1 := g1.1
      simp only [List.length_cons, List.length_nil] at e1
      refine writes_ok hh (by omega) (by omega) (by omega) (by omega) (by omega) (fun f2 m2 g2 => hbe (by omega) a1 h0 (by omega) (by omega) ?_)
      have e2 := g2.1
      refine writes_ok a1 rfl h0 (by omega) (by omega) (by omega) (fun f3 m3 g3 => ?_)
      have e3 := g3.1
      refine write_ok (by omega) (by omega) (fun f4 m4 g4 => ?_)
      have e4 := g4.1
      simp only [List.length_cons, List.length_nil] at e4
      refine write_ok (by omega) (by omega) (fun f5 m5 g5 => ?_)
      refine tail (112 :: t :: (a ++ (b ++ ((B ++ (115 :: t :: (a ++ (b ++ (B ++ [114]))))) ++ (113 :: ([] ++ [114])))))) f5 m5 ⟨⟨Sq.one (Or.inr (Or.inr (Or.inl ⟨t, a, b, _, [], ht, hA, hB, Sq.app hb.1 (Sq.one hss), Sq.nil, rfl⟩))), ?_⟩, (show unF (115 :: t :: (a ++ (b ++ (B ++ [114])))) = 112 :: t :: (a ++ (b ++ ((B ++ (115 :: t :: (a ++ (b ++ (B ++ [114]))))) ++ (113 :: ([] ++ [114]))))) from SqM_wh ht hA hB hb.1).symm⟩ ?_
      · rw [len_if, List.length_append, hl, List.length_nil]; omega
      · have := g1.app (g2.app (g3.app (g4.app g5)))
        simpa using this
theorem unrollsx_ok {row f : Int → Int} {many : Int} {l : List Int} (h : WF row many l) {K : (Int → Int) → Int → Prop} (hK : ∀ l' f', URx l l' → At f' 0 l' → K f' l'.length) : wp_unrolls 100 row f many 0 0 K := by
  have hl := h.len
  obtain ⟨h1, h2, h3, h4, h5⟩ := h
  refine unrollsx_of (by omega) (UWx_all (by omega) h1) (by omega) h4 h2 (by omega) (by omega) (by omega) (Or.inl (by omega)) (by omega) (by omega) (fun l' f' m' hr hw => ?_)
  rw [hw.1, show (0 : Int) + l'.length = l'.length by omega]
  exact hK l' f' hr hw.2.1
-- ===== UNROLL in the class
theorem unF_len : ∀ {l : List Int}, Sq l → Sq (unF l) ∧ (unF l).length ≤ 2 * l.length + cs l := by
  intro l hl
  refine Sq.ind (P := fun l => Sq (unF l) ∧ (unF l).length ≤ 2 * l.length + cs l) ?_ ?_ hl
  · have : unF [] = [] := SqM_nil
    rw [this]; exact ⟨Sq.nil, by simp⟩
  · intro s r hs hr ih
    have hs' := hs.mono (T := Sq) (fun _ h => h.1)
    have e0 : unF (s ++ r) = unF s ++ unF r := SqM_cons hs' hr
    have key : Sq (unF s) ∧ (unF s).length ≤ 2 * s.length + cs s := by
      rcases hs with ⟨v, e, hv, he, rfl⟩ | rfl | ⟨t, a, b, B, C, ht, ha, hb, hB, hC, rfl⟩ | ⟨t, a, b, B, ht, ha, hb, hB, rfl⟩
      · have e1 : unF (v :: e) = v :: e := SqM_set hv he
        rw [e1]; exact ⟨Sq.one hs', by omega⟩
      · have e1 : unF [111] = [111] := SqM_fail
        rw [e1]; exact ⟨Sq.one hs', by omega⟩
      · have e1 : unF (112 :: t :: (a ++ (b ++ (B ++ (113 :: (C ++ [114])))))) = 112 :: t :: (a ++ (b ++ (unF B ++ (113 :: (unF C ++ [114]))))) := SqM_if ht ha hb hB.1 hC.1
        rw [e1, len_if, len_if, cs_if ht ha hb]
        exact ⟨Sq.one (Or.inr (Or.inr (Or.inl ⟨t, a, b, _, _, ht, ha, hb, hB.2.1, hC.2.1, rfl⟩))), by have := hB.2.2; have := hC.2.2; omega⟩
      · have e1 : unF (115 :: t :: (a ++ (b ++ (B ++ [114])))) = 112 :: t :: (a ++ (b ++ ((B ++ (115 :: t :: (a ++ (b ++ (B ++ [114]))))) ++ (113 :: ([] ++ [114]))))) := SqM_wh ht ha hb hB.1
        rw [e1, len_if, List.length_append, len_wh, cs_wh ht ha hb]
        exact ⟨Sq.one (Or.inr (Or.inr (Or.inl ⟨t, a, b, _, [], ht, ha, hb, Sq.app hB.1 (Sq.one hs'), Sq.nil, rfl⟩))), by simp only [List.length_nil]; omega⟩
    rw [e0, List.length_append, List.length_append, cs_app]
    exact ⟨Sq.app key.1 ih.1, by omega⟩
def Un (n : Int) (l l' : List Int) : Prop := ∀ (K : Sg → Prop) (L : Int → Sg → Prop), (∀ k s, wp5_A_unroll_10 K n L k s → L k s) → ∀ (σ : Sg) (a t o : List Int), RowL σ n (a ++ (l ++ t)) → RowL σ 10 o → o.length + l'.length ≤ 1000 → (∀ σ', RowL σ' n (a ++ (l ++ t)) → RowL σ' 10 (o ++ l') → Fq No (one 10) No σ σ' → L ((a.length : Int) + l.length) σ') → L (a.length : Int) σ
theorem Un.app {n : Int} {x x1 y y1 : List Int} (hx : Un n x x1) (hy : Un n y y1) : Un n (x ++ y) (x1 ++ y1) := by
  intro K L hL σ a t o hr ho room h
  rw [List.length_append] at room
  refine hx K L hL σ a (y ++ t) o (by simpa using hr) ho (by omega) (fun σ1 hr1 ho1 f1 => ?_)
  have e2 : (a.length : Int) + x.length = ((a ++ x).length : Nat) := by simp only [List.length_append]; omega
  rw [e2]
  refine hy K L hL σ1 (a ++ x) t (o ++ x1) (by simpa using hr1) ho1 (by rw [List.length_append]; omega) (fun σ2 hr2 ho2 f2 => ?_)
  have e3 : (((a ++ x).length : Nat) : Int) + y.length = a.length + (x ++ y).length := by simp only [List.length_append]; omega
  rw [e3]
  exact h σ2 (by simpa using hr2) (by simpa using ho2) (f1.trans f2)
theorem cap10 : capI 10 = 1000 := rfl
theorem Un_no {n c : Int} (hn : n ≠ 10) (h : c ≠ 115) : Un n [c] [c] := by
  intro K L hL σ a t o hr ho room k
  have bd := hr.bd
  simp only [List.length_append, List.length_cons, List.length_nil] at bd room
  have e3 := hr.2.2.1
  refine hL _ _ ⟨fun z => ?_, fun _ => cell_mid (b := t) hr rfl ⟨fun _ => cell_mid (b := t) hr rfl (add_k ho (by rw [cap10]; omega) (fun σ1 ho1 f1 => ⟨rng_small (by omega) (by omega), k σ1 (hr.fr f1 hn) ho1 f1⟩)), fun z => absurd z h⟩⟩
  rw [e3] at z
  simp only [List.length_append, List.length_cons, List.length_nil] at z
  omega
theorem Un_skip {n : Int} (hn : n ≠ 10) : ∀ {e : List Int}, (∀ c ∈ e, c ≠ 115) → Un n e e := by
  intro e
  induction e with
  | nil =>
    intro _ K L hL σ a t o hr ho room k
    have := k σ hr (by simpa using ho) Fq.refl
    simpa using this
  | cons c e ih =>
    intro h
    exact (Un_no hn (h c List.mem_cons_self)).app (ih (fun d hd => h d (List.mem_cons_of_mem _ hd)))
theorem Un_sq {n : Int} (hn : n ≠ 10) : ∀ {l : List Int}, Sq l → Un n l (unF l) := by
  intro l hl
  refine Sq.ind (P := fun l => Un n l (unF l)) ?_ ?_ hl
  · have : unF [] = [] := SqM_nil
    rw [this]
    exact Un_skip hn (fun c hc => by cases hc)
  · intro s r hs hr ih
    have hs' := hs.mono (T := Sq) (fun _ h => h.1)
    have e0 : unF (s ++ r) = unF s ++ unF r := SqM_cons hs' hr
    rw [e0]
    refine Un.app ?_ ih
    have ex : ∀ {e : List Int}, Ex lfR e → Un n e e := fun he => Un_skip hn (fun c hc => (he.no c hc).2.1)
    rcases hs with ⟨v, e, hv, he, rfl⟩ | rfl | ⟨t, x, y, B, C, ht, hx, hy, hB, hC, rfl⟩ | ⟨t, x, y, B, ht, hx, hy, hB, rfl⟩
    · have e1 : unF (v :: e) = v :: e := SqM_set hv he
      rw [e1]
      exact (Un_no (n := n) (c := v) hn (by unfold setC at hv; omega)).app (ex he)
    · have e1 : unF [111] = [111] := SqM_fail
      rw [e1]
      exact Un_no hn (by decide)
    · have e1 : unF (112 :: t :: (x ++ (y ++ (B ++ (113 :: (C ++ [114])))))) = 112 :: t :: (x ++ (y ++ (unF B ++ (113 :: (unF C ++ [114]))))) := SqM_if ht hx hy hB.1 hC.1
      rw [e1]
      unfold testC at ht
      exact (Un_no (n := n) (c := 112) hn (by decide)).app ((Un_no (n := n) (c := t) hn (by omega)).app ((ex hx).app ((ex hy).app (hB.2.app ((Un_no (n := n) (c := 113) hn (by decide)).app (hC.2.app (Un_no (n := n) (c := 114) hn (by decide))))))))
    · have e1 : unF (115 :: t :: (x ++ (y ++ (B ++ [114])))) = 112 :: t :: (x ++ (y ++ ((B ++ (115 :: t :: (x ++ (y ++ (B ++ [114]))))) ++ (113 :: ([] ++ [114]))))) := SqM_wh ht hx hy hB.1
      rw [e1]
      intro K L hL σ a tl o hr ho room k
      have bd := hr.bd
      have e3 := hr.2.2.1
      simp only [List.length_append] at bd e3
      rw [len_wh] at bd e3
      rw [len_if, List.length_append, len_wh] at room
      simp only [List.length_nil] at room
      have hs2 : RowL σ n (a ++ ((115 :: t :: (x ++ (y ++ (B ++ [114])))) ++ tl)) := hr
      refine hL _ _ ⟨fun z => absurd z (by rw [e3]; omega), fun _ => cell_mid (b := _) hr rfl ⟨fun z => absurd rfl z, fun _ => ?_⟩⟩
      refine closeOf_k hs2 (Or.inr ⟨t, x, y, B, ht, hx, hy, hB.1, rfl⟩) rfl ?_
      rw [len_wh]
      refine add_k ho (by rw [cap10]; omega) (fun σ1 ho1 f1 => ⟨rng_small (by omega) (by omega), ?_⟩)
      have hr1 := hr.fr f1 hn
      refine addPart_k (a := a ++ [115]) (e := t :: (x ++ (y ++ B))) (b := 114 :: tl) ho1 (by simpa using hr1) (by simp only [List.length_append, List.length_cons, List.length_nil]; omega) (by simp only [List.length_append, List.length_cons, List.length_nil]; omega) (by rw [cap10]; simp only [List.length_append, List.length_cons, List.length_nil]; omega) (fun σ2 ho2 f2 => ⟨rng_small (by omega) (by omega), ?_⟩)
      have hr2 := hr1.fr f2 hn
      refine addPart_k (a := a) (e := 115 :: t :: (x ++ (y ++ (B ++ [114])))) (b := tl) ho2 hr2 rfl (by rw [len_wh]; omega) (by rw [cap10, len_wh]; simp only [List.length_append, List.length_cons, List.length_nil]; omega) (fun σ3 ho3 f3 => ?_)
      have hr3 := hr2.fr f3 hn
      refine add_k ho3 (by rw [cap10]; simp only [List.length_append, List.length_cons, List.length_nil]; omega) (fun σ4 ho4 f4 => ?_)
      have hr4 := hr3.fr f4 hn
      refine add_k ho4 (by rw [cap10]; simp only [List.length_append, List.length_cons, List.length_nil]; omega) (fun σ5 ho5 f5 => ?_)
      have hr5 := hr4.fr f5 hn
      have em : max (a.length : Int) ((a.length : Int) + ((x.length + y.length + B.length + 3 : Nat) : Int) - 1) = (a.length : Int) + ((x.length + y.length + B.length + 3 : Nat) : Int) - 1 := Int.max_eq_right (by omega)
      rw [em]
      refine ⟨rng_small (by omega) (by omega), ?_⟩
      have := k σ5 hr5 (by simpa using ho5) (f1.trans (f2.trans (f3.trans (f4.trans f5))))
      rw [len_wh] at this
      rw [show (a.length : Int) + ((x.length + y.length + B.length + 3 : Nat) : Int) - 1 + 1 = (a.length : Int) + ((x.length + y.length + B.length + 3 : Nat) : Int) by omega]
      exact this
def two {α : Type} (n m k : α) : Prop := k = n ∨ k = m
theorem unroll_k {σ : Sg} {n : Int} {l : List Int} {K : Sg → Prop} (hn : n ≠ 10) (h : RowL σ n l) (hl : Sq l) (room : 2 * l.length + cs l ≤ 1000) (cap : capI n = 1000) (k : ∀ σ', RowL σ' n (unF l) → Fq No (two 10 n) No σ σ' → K σ') : wp5_A_unroll σ n K := by
  have hu := unF_len hl
  intro L hL
  have h0 : RowL (pY σ 0 10 0) n ([] ++ (l ++ [])) := by
    have := h.fr (fq_rowY (σ := σ) (n := 10) (v := 0)) hn
    simpa using this
  have key := Un_sq hn hl K L hL (pY σ 0 10 0) [] [] [] h0 (rowL_nil (by decide)) (by simp only [List.length_nil]; omega) (fun σ' hr ho f => ?_)
  · simpa using key
  · have hr2 : RowL σ' n l := by simpa using hr
    have ho2 : RowL σ' 10 (unF l) := by simpa using ho
    have e3 := hr2.2.2.1
    refine hL _ _ ⟨fun _ => copy_k hr2.1 ho2 (fun q => hn q.symm) (by rw [cap]; omega) (fun σ2 h2 f2 => k σ2 h2 ?_), fun z => ?_⟩
    · exact ((fq_rowY.trans f).mono (fun _ q => q) (fun _ q => Or.inl q) (fun _ q => q)).trans (f2.mono (fun _ q => q) (fun _ q => Or.inr q) (fun _ q => q))
    · rw [e3] at z; simp only [List.length_nil] at z; omega
