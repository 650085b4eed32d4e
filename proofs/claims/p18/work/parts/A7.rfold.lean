-- ===== FOLD in the reference, exactly
theorem both_x {c a b : Int} {K : Int → Prop} (k : K (opR c a b)) : wp_both c a b K := by
  unfold opR at k
  refine ⟨fun z => ⟨fun z2 => ?_, fun z2 => ?_⟩, fun z => ?_⟩
  · rwa [if_neg z, if_neg z2] at k
  · rwa [if_neg z, if_pos z2] at k
  · rwa [if_pos z] at k
def Fl (r : Int) (e : List Int) : Prop := (r = 1 ∧ nm1 e = true) ∨ (r = 0 ∧ nm1 e = false)
theorem folds_x {row : Int → Int} : ∀ {e : List Int}, Ex lfR e → ∀ (n : Nat) (p : Int) (f : Int → Int) (m : Int) (K : Int → (Int → Int) → Int → Prop), At row p e → 0 ≤ p → p + e.length ≤ 2400 → e.length ≤ n → e.length ≤ 500 → 0 ≤ m → m + e.length ≤ 2400 → (∀ (r : Int) (f' : Int → Int) (m' : Int), Fl r (foE e) → Wr f m (foE e) f' m' → K r f' m') → wp_folds n row f m p K := by
  intro e he
  refine Ex.ind (P := fun e => ∀ (n : Nat) (p : Int) (f : Int → Int) (m : Int) (K : Int → (Int → Int) → Int → Prop), At row p e → 0 ≤ p → p + e.length ≤ 2400 → e.length ≤ n → e.length ≤ 500 → 0 ≤ m → m + e.length ≤ 2400 → (∀ (r : Int) (f' : Int → Int) (m' : Int), Fl r (foE e) → Wr f m (foE e) f' m' → K r f' m') → wp_folds n row f m p K) ?_ ?_ he
  · intro c hc n p f m K ha h0 h1 hn h5 m0 m1 hK
    have hc' := hc
    unfold lfR at hc'
    have ef : foE [c] = [c] := by
      show fo1 c [] = [c]
      exact fo1_no (lfR_no hc)
    rw [ef] at hK
    simp only [List.length_cons, List.length_nil] at h1 hn m1
    obtain ⟨n, rfl⟩ : ∃ k, n = k + 1 := ⟨n - 1, by omega⟩
    have e1 : row p = c := ha.1
    rw [wp_folds_s]
    refine ⟨⟨by omega, by omega⟩, isIn_c (fun x _ => absurd x (by omega)) (fun _ => u0 ⟨⟨by omega, by omega⟩, write_ok m0 (by omega) (fun f' m' hw => ⟨⟨by omega, by omega⟩, fun g => ?_, fun g => ?_⟩)⟩)⟩
    · rw [e1] at hw
      exact hK 0 f' m' (Or.inr ⟨rfl, nm1_ff (by omega)⟩) hw
    · rw [e1] at hw
      exact hK 1 f' m' (Or.inl ⟨rfl, nm1_of (by omega)⟩) hw
  · intro o a b ho hea heb iha ihb n p f m K ha h0 h1 hn h5 m0 m1 hK
    have ho' := ho
    unfold opC at ho'
    have nno : ¬ (0 ≤ o ∧ o ≤ 15) := by omega
    rw [foE_op ho hea heb] at hK
    have fa := foE_is hea
    have fb := foE_is heb
    simp only [List.length_cons, List.length_append] at h1 hn h5 m1
    obtain ⟨n, rfl⟩ : ∃ k, n = k + 1 := ⟨n - 1, by omega⟩
    have e1 : row p = o := ha.1
    obtain ⟨a1, a2⟩ := At_app.mp ha.2
    rw [wp_folds_s]
    refine ⟨⟨by omega, by omega⟩, isIn_c (fun _ _ => u1 ⟨⟨by omega, by omega⟩, write_ok m0 (by omega) (fun f1 m1' w1 => ⟨⟨by omega, by omega⟩, ?_⟩)⟩) (fun c => absurd c (by omega))⟩
    have k1 := w1.1
    simp only [List.length_cons, List.length_nil] at k1
    have la := fa.2.1
    have lb := fb.2.1
    have pa := hea.pos
    have pb := heb.pos
    refine iha n (p + 1) f1 m1' _ a1 (by omega) (by omega) (by omega) (by omega) (by omega) (by omega) (fun r2 f2 m2 hr2 w2 => ?_)
    have k2 := w2.1
    refine endOf5 hea a1 (by omega) (by omega) (by omega) ?_
    refine ihb n _ f2 m2 _ a2 (by omega) (by omega) (by omega) (by omega) (by omega) (by omega) (fun r3 f3 m3 hr3 w3 => ?_)
    have k3 := w3.1
    have wall : Wr f m (o :: (foE a ++ foE b)) f3 m3 := by
      rw [e1] at w1
      have := w1.app (w2.app w3)
      simpa using this
    have fall : fo1 o (foE a ++ foE b) = o :: (foE a ++ foE b) → K 0 f3 m3 := fun q => hK 0 f3 m3 (Or.inr ⟨rfl, by rw [q]; exact nm1_ff nno⟩) (by rw [q]; exact wall)
    have no1 : nm1 (foE a) = false → fo1 o (foE a ++ foE b) = o :: (foE a ++ foE b) := fun q => by
      obtain ⟨c, r, hc, e⟩ := nm1_f fa.2.2.1 q
      rw [e]; exact fo1_no1 hc
    have no2 : nm1 (foE a) = true → nm1 (foE b) = false → fo1 o (foE a ++ foE b) = o :: (foE a ++ foE b) := fun q1 q2 => by
      obtain ⟨c, hc, e⟩ := nm1_t q1
      obtain ⟨d, r, hd, e'⟩ := nm1_f fb.2.2.1 q2
      rw [e, e']; exact fo1_no2 hd
    refine ⟨fun g2 => ?_, fun g2 => ⟨fun g3 => ?_, fun g3 => ?_⟩⟩
    · rcases hr2 with ⟨z, _⟩ | ⟨_, z⟩
      · omega
      · exact fall (no1 z)
    · rcases hr2 with ⟨_, z2⟩ | ⟨z, _⟩
      · rcases hr3 with ⟨_, z3⟩ | ⟨z, _⟩
        · obtain ⟨x, hx, ex⟩ := nm1_t z2
          obtain ⟨y, hy, ey⟩ := nm1_t z3
          rw [ex, ey] at hK wall
          have v1 : f3 (m + 1) = x := wall.2.1.2.1
          have v2 : f3 (m + 2) = y := by
            have := wall.2.1.2.2.1
            rwa [show m + 1 + 1 = m + 2 by omega] at this
          rw [ex] at k2; rw [ey] at k3
          simp only [List.length_cons, List.length_nil] at k2 k3
          refine ⟨⟨by omega, by omega⟩, ⟨by omega, by omega⟩, ⟨by omega, by omega⟩, ?_⟩
          rw [v1, v2, e1]
          have q : fo1 o ([x] ++ [y]) = [opR o x y] := fo1_yes ho hx hy
          refine both_x ⟨⟨by omega, by omega⟩, ⟨by omega, by omega⟩, ?_⟩
          refine hK 1 _ _ (Or.inl ⟨rfl, by rw [q]; exact nm1_of (opR_rg _ _ _)⟩) ?_
          rw [q]
          refine ⟨by simp, ⟨if_pos rfl, trivial⟩, fun j hj => ?_⟩
          rw [show uZ f3 m (opR o x y) j = f3 j from if_neg (by omega)]
          exact wall.2.2 j hj
        · omega
      · omega
    · rcases hr3 with ⟨z, _⟩ | ⟨_, z3⟩
      · omega
      · rcases hr2 with ⟨_, z2⟩ | ⟨z, _⟩
        · exact fall (no2 z2 z3)
        · omega
theorem folds5x {row : Int → Int} {e : List Int} (he : Ex lfR e) {p : Int} {f : Int → Int} {m : Int} {K : Int → (Int → Int) → Int → Prop} (ha : At row p e) (h0 : 0 ≤ p) (h1 : p + e.length ≤ 2400) (h5 : e.length ≤ 500) (m0 : 0 ≤ m) (m1 : m + e.length ≤ 2400) (hK : ∀ (r : Int) (f' : Int → Int) (m' : Int), Fl r (foE e) → Wr f m (foE e) f' m' → K r f' m') : wp_folds 500 row f m p K := folds_x he 500 p f m K ha h0 h1 h5 h5 m0 m1 hK
def FRx (l l' : List Int) : Prop := FR l l' ∧ l' = foF l
def FWx (row : Int → Int) (many : Int) (l : List Int) : Prop := ∀ (n : Nat) (q : Int) (f : Int → Int) (m : Int) (P : Int → (Int → Int) → Int → Prop) (K : (Int → Int) → Int → Prop), 2 * cs l ≤ n → cs l ≤ 40 → At row q l → 0 ≤ q → q + l.length ≤ many → l.length ≤ 500 → 0 ≤ m → m + l.length ≤ 2400 → (∀ a b c, wp_foldAll_2 (wp_foldOne n) K row many P a b c → P a b c) → (∀ l' f' m', FRx l l' → Wr f m l' f' m' → P (q + l.length) f' m') → P q f m
theorem foldAllx_of {row : Int → Int} {many : Int} (hm : many ≤ 2400) {l : List Int} (hl : FWx row many l) {n : Nat} {q : Int} {f : Int → Int} {m : Int} {K : (Int → Int) → Int → Prop} (hn : 2 * cs l + 1 ≤ n) (h40 : cs l ≤ 40) (ha : At row q l) (h0 : 0 ≤ q) (h1 : q + l.length ≤ many) (h2 : l.length ≤ 500) (h3 : Lst row many (q + l.length)) (m0 : 0 ≤ m) (m1 : m + l.length ≤ 2400) (hK : ∀ l' f' m', FRx l l' → Wr f m l' f' m' → K f' m') : wp_foldAll n row f many m q K := by
  obtain ⟨n, rfl⟩ : ∃ k, n = k + 1 := ⟨n - 1, by omega⟩
  rw [wp_foldAll_s]
  intro P hP
  exact hl n q f m P K (by omega) h40 ha h0 h1 h2 m0 m1 hP (fun l' f' m' hr hw => hP _ _ _ (isLast_yes (by omega) hm h3 (u1 (hK l' f' m' hr hw))))
theorem foldOnex_of {row : Int → Int} {many : Int} (hm : many ≤ 2400) {st : List Int} (hs : Sm (fun B => Sq B ∧ FWx row many B) st) {n : Nat} {q : Int} {f : Int → Int} {m : Int} {K : (Int → Int) → Int → Prop} (hn : 2 * cs st ≤ n) (h40 : cs st ≤ 40) (ha : At row q st) (h0 : 0 ≤ q) (h1 : q + st.length ≤ many) (h2 : st.length ≤ 500) (m0 : 0 ≤ m) (m1 : m + st.length ≤ 2400) (hK : ∀ l' f' m', FRx st l' → Wr f m l' f' m' → K f' m') : wp_foldOne n row f many m q K := by
  have hcs := hs.csp
  obtain ⟨n, rfl⟩ : ∃ k, n = k + 1 := ⟨n - 1, by omega⟩
  rw [wp_foldOne_s]
  have hss : Sm Sq st := hs.mono (fun _ h => h.1)
  rcases hs with ⟨v, ex, hv, he, rfl⟩ | rfl | ⟨t, a, b, B, C, ht, hA, hB, hb, hc, rfl⟩ | ⟨t, a, b, B, ht, hA, hB, hb, rfl⟩
  · have e1 : row q = v := ha.1
    have hv' := hv
    unfold setC at hv'
    simp only [List.length_cons] at h1 h2 m1
    have hle := (foE_is he).2.1
    refine ⟨⟨by omega, by omega⟩, fun _ => write_ok m0 (by omega) (fun f1 m1' w1 => ⟨fun c => absurd c (by omega), fun _ => ⟨fun c => absurd c (by omega), fun _ => ⟨⟨by omega, by omega⟩, ?_⟩⟩⟩), fun c => absurd c (by omega)⟩
    have k1 := w1.1
    simp only [List.length_cons, List.length_nil] at k1
    refine folds5x he ha.2 (by omega) (by omega) (by omega) (by omega) (by omega) (fun r f2 m2 _ w2 => ?_)
    rw [e1] at w1
    obtain ⟨he', hl, -, -⟩ := foE_is he
    refine hK (v :: foE ex) f2 m2 ⟨⟨Sq.one (Or.inl ⟨v, _, hv, he', rfl⟩), ?_, ?_, ?_⟩, (show foF (v :: ex) = v :: foE ex from SqM_set hv he).symm⟩ (w1.app w2)
    · rw [cs_yes (by omega), cs_yes (by omega), he.csz, he'.csz]; omega
    · rw [cp_no (by omega), cp_no (by omega), he.cpz, he'.cpz]; exact hl
    · simp only [List.length_cons]; omega
  · have e1 : row q = 111 := ha.1
    simp only [List.length_cons, List.length_nil] at h1 m1
    refine ⟨⟨by omega, by omega⟩, fun c => absurd e1 c, fun _ => write_ok m0 (by omega) (fun f1 m1' w1 => ?_)⟩
    rw [e1] at w1
    exact hK [111] f1 m1' ⟨⟨Sq.one hss, Nat.le_refl _, Nat.le_refl _, Nat.le_refl _⟩, (show foF [111] = [111] from SqM_fail).symm⟩ w1
  · rw [cs_if ht hA hB] at hn h40
    rw [len_if] at h1 h2 m1
    obtain ⟨r1, r2, r3, r4, r5, r6, r7, r8⟩ := At_if.mp ha
    have lb : Lst row many (q + 2 + a.length + b.length + B.length) := Or.inr ⟨by omega, Or.inl r6⟩
    have lc : Lst row many (q + 2 + a.length + b.length + B.length + 1 + C.length) := Or.inr ⟨by omega, Or.inr r8⟩
    refine ⟨⟨by omega, by omega⟩, fun _ => write_ok m0 (by omega) (fun f1 m1' w1 => ⟨fun _ => ?_, fun c => absurd r1 c⟩), fun c => absurd c (by omega)⟩
    have k1 := w1.1
    simp only [List.length_cons, List.length_nil] at k1
    refine ⟨⟨by omega, by omega⟩, write_ok (by omega) (by omega) (fun f2 m2 w2 => ⟨⟨by omega, by omega⟩, ?_⟩)⟩
    have k2 := w2.1
    simp only [List.length_cons, List.length_nil] at k2
    refine folds5x hA r3 (by omega) (by omega) (by omega) (by omega) (by omega) (fun ra f3 m3 hra w3 => ?_)
    have k3 := w3.1
    have hla0 := (foE_is hA).2.1
    have hlb0 := (foE_is hB).2.1
    refine endOf5 hA r3 (by omega) (by omega) (by omega) ?_
    refine folds5x hB r4 (by omega) (by omega) (by omega) (by omega) (by omega) (fun rb f4 m4 hrb w4 => ?_)
    have k4 := w4.1
    obtain ⟨ha', hla, -, -⟩ := foE_is hA
    obtain ⟨hb', hlb, -, -⟩ := foE_is hB
    have wall : Wr f m (112 :: t :: (foE a ++ foE b)) f4 m4 := by
      rw [r1] at w1; rw [r2] at w2
      have := w1.app (w2.app (w3.app w4))
      simpa using this
    refine body_ok hA hB h0 r3 r4 (by omega) (by omega) (by omega) (close_ok hm hb.1 _ _ (by omega) r5 (by omega) (by omega) (by omega) lb ?_)
    -- the way that keeps the statement
    have fif : ∀ {B' C' : List Int}, B' = foF B → C' = foF C → foF (112 :: t :: (a ++ (b ++ (B ++ (113 :: (C ++ [114])))))) = (if known (foE a) (foE b) = true then (if soR t (foE a) (foE b) = true then B' else C') else 112 :: t :: (foE a ++ (foE b ++ (B' ++ (113 :: (C' ++ [114])))))) := fun q1 q2 => by rw [q1, q2]; exact SqM_if ht hA hB hb.1 hc.1
    have keep : known (foE a) (foE b) = false → wp_foldOne_265 (wp_foldAll n) K row many q f4 m4 (q + 2 + a.length + b.length + B.length) := by
      intro kf
      refine body_ok hA hB h0 r3 r4 (by omega) (by omega) (by omega) (foldAllx_of hm hb.2 (by omega) (by omega) r5 (by omega) (by omega) (by omega) lb (by omega) (by omega) (fun B' f5 m5 hB' w5 => ⟨⟨by omega, by omega⟩, fun c => absurd r6 c, fun _ => ?_⟩))
      have k5 := w5.1
      obtain ⟨⟨b1, b2, b3, b4⟩, b5⟩ := hB'
      refine write_ok (by omega) (by omega) (fun f6 m6 w6 => ⟨⟨by omega, by omega⟩, ?_⟩)
      have k6 := w6.1
      simp only [List.length_cons, List.length_nil] at k6
      refine foldAllx_of hm hc.2 (by omega) (by omega) r7 (by omega) (by omega) (by omega) lc (by omega) (by omega) (fun C' f7 m7 hC' w7 => ?_)
      have k7 := w7.1
      obtain ⟨⟨c1, c2, c3, c4⟩, c5⟩ := hC'
      refine write_ok (by omega) (by omega) (fun f8 m8 w8 => ?_)
      refine hK (112 :: t :: (foE a ++ (foE b ++ (B' ++ (113 :: (C' ++ [114])))))) f8 m8 ⟨⟨Sq.one (Or.inr (Or.inr (Or.inl ⟨t, _, _, B', C', ht, ha', hb', b1, c1, rfl⟩))), ?_, ?_, ?_⟩, ?_⟩ ?_
      · rw [cs_if ht hA hB, cs_if ht ha' hb']; omega
      · rw [cp_if ht hA hB, cp_if ht ha' hb']; omega
      · rw [len_if, len_if]; omega
      · rw [fif b5 c5, kf, if_neg (by decide)]
      · have := wall.app (w5.app (w6.app (w7.app w8)))
        simpa using this
    -- the way on which it is known
    have knw : known (foE a) (foE b) = true → ∀ z, (z = 0 ∨ z = 1) → (z = 1 ↔ soR t (foE a) (foE b) = true) → wp_foldOne_195 (wp_foldAll n) K row many m q f4 m4 (q + 2 + a.length + b.length + B.length) z := by
      intro kt z hz hso
      have last : ∀ (f' : Int → Int) (m' : Int), z = 1 → K f' m' → wp_foldOne_233 (wp_foldAll n) K row many q (q + 2 + a.length + b.length + B.length) z f' m' := fun f' m' h1 h => ⟨fun _ => h, fun _ => ⟨fun _ => h, fun c => absurd c (by omega)⟩⟩
      refine ⟨fun _ => ⟨fun c => absurd r1 c, fun _ => ⟨fun hz0 => ?_, fun hz1 => ?_⟩⟩, fun c => absurd r1 c⟩
      · refine ⟨fun c => absurd r1 c, fun _ => ⟨fun c => absurd hz0 c, fun _ => ⟨⟨by omega, by omega⟩, fun c => absurd r6 c, fun _ => ⟨⟨by omega, by omega⟩, ?_⟩⟩⟩⟩
        refine foldAllx_of hm hc.2 (by omega) (by omega) r7 (by omega) (by omega) (by omega) lc m0 (by omega) (fun C' f7 m7 hC' w7 => ?_)
        obtain ⟨⟨c1, c2, c3, c4⟩, c5⟩ := hC'
        have sf : soR t (foE a) (foE b) = false := by
          cases q : soR t (foE a) (foE b) with
          | false => rfl
          | true => have := hso.mpr q; omega
        exact hK C' f7 m7 ⟨⟨c1, by rw [cs_if ht hA hB]; omega, by rw [cp_if ht hA hB]; omega, by rw [len_if]; omega⟩, by rw [fif rfl c5, kt, if_pos rfl, sf, if_neg (by decide)]⟩ (w7.base (fun j hj => wall.2.2 j hj))
      · refine body_ok hA hB h0 r3 r4 (by omega) (by omega) (by omega) (foldAllx_of hm hb.2 (by omega) (by omega) r5 (by omega) (by omega) (by omega) lb m0 (by omega) (fun B' f5 m5 hB' w5 => last f5 m5 (by omega) ?_))
        obtain ⟨⟨b1, b2, b3, b4⟩, b5⟩ := hB'
        have sf : soR t (foE a) (foE b) = true := hso.mp (by omega)
        exact hK B' f5 m5 ⟨⟨b1, by rw [cs_if ht hA hB]; omega, by rw [cp_if ht hA hB]; omega, by rw [len_if]; omega⟩, by rw [fif b5 rfl, kt, if_pos rfl, sf, if_pos rfl]⟩ (w5.base (fun j hj => wall.2.2 j hj))
    have kf1 : nm1 (foE a) = false → known (foE a) (foE b) = false := fun q => by unfold known; rw [q, Bool.false_and]
    have kf2 : nm1 (foE b) = false → known (foE a) (foE b) = false := fun q => by unfold known; rw [q, Bool.and_false]
    refine ⟨fun g => keep (by rcases hra with ⟨z, _⟩ | ⟨_, z⟩ <;> first | omega | exact kf1 z), fun g => ⟨fun g2 => keep (by rcases hrb with ⟨z, _⟩ | ⟨_, z⟩ <;> first | omega | exact kf2 z), fun g2 => ?_⟩⟩
    rcases hra with ⟨_, za⟩ | ⟨z, _⟩
    rcases hrb with ⟨_, zb⟩ | ⟨z, _⟩
    · have kt : known (foE a) (foE b) = true := by unfold known; rw [za, zb]; rfl
      obtain ⟨x, hx, ex⟩ := nm1_t za
      obtain ⟨y, hy, ey⟩ := nm1_t zb
      have wl := wall.2.1
      rw [ex, ey] at wl
      have v1 : f4 (m + 2) = x := by
        have := wl.2.2.1
        rwa [show m + 1 + 1 = m + 2 by omega] at this
      have v2 : f4 (m + 3) = y := by
        have := wl.2.2.2.1
        rwa [show m + 1 + 1 + 1 = m + 3 by omega] at this
      have so : soR t (foE a) (foE b) = holdR t x y := by rw [ex, ey]; rfl
      rw [so] at knw
      unfold holdR at knw
      rw [v1, v2, r2]
      have y1 : ∀ {p : Prop} [Decidable p], p → ((1 : Int) = 1 ↔ decide p = true) := fun h => ⟨fun _ => decide_eq_true h, fun _ => rfl⟩
      have y0 : ∀ {p : Prop} [Decidable p], ¬ p → ((0 : Int) = 1 ↔ decide p = true) := fun h => ⟨fun z => absurd z (by decide), fun z => absurd (of_decide_eq_true z) h⟩
      refine ⟨⟨by omega, by omega⟩, ⟨by omega, by omega⟩, ⟨by omega, by omega⟩, fun z => ⟨⟨by omega, by omega⟩, fun z2 => ?_, fun z2 => ?_⟩, fun z => ?_⟩
      · rw [if_neg z, if_neg z2] at knw
        exact ⟨fun w => knw kt 0 (Or.inl rfl) (y0 (by omega)), fun w => knw kt 1 (Or.inr rfl) (y1 w)⟩
      · rw [if_neg z, if_pos z2] at knw
        exact ⟨fun w => knw kt 0 (Or.inl rfl) (y0 w), fun w => knw kt 1 (Or.inr rfl) (y1 w)⟩
      · rw [if_pos z] at knw
        exact ⟨fun w => knw kt 0 (Or.inl rfl) (y0 (by omega)), fun w => knw kt 1 (Or.inr rfl) (y1 w)⟩
    · omega
    · omega
  · rw [cs_wh ht hA hB] at hn h40
    rw [len_wh] at h1 h2 m1
    obtain ⟨r1, r2, r3, r4, r5, r6⟩ := At_wh.mp ha
    have hba := hA.pos
    have hbb := hB.pos
    have lb : Lst row many (q + 2 + a.length + b.length + B.length) := Or.inr ⟨by omega, Or.inr r6⟩
    refine ⟨⟨by omega, by omega⟩, fun _ => write_ok m0 (by omega) (fun f1 m1' w1 => ⟨fun c => absurd c (by omega), fun _ => ⟨fun _ => ?_, fun c => absurd r1 c⟩⟩), fun c => absurd c (by omega)⟩
    have k1 := w1.1
    simp only [List.length_cons, List.length_nil] at k1
    refine ⟨⟨by omega, by omega⟩, write_ok (by omega) (by omega) (fun f2 m2 w2 => ⟨⟨by omega, by omega⟩, ?_⟩)⟩
    have k2 := w2.1
    simp only [List.length_cons, List.length_nil] at k2
    refine folds5x hA r3 (by omega) (by omega) (by omega) (by omega) (by omega) (fun ra f3 m3 hra w3 => ?_)
    have k3 := w3.1
    have hla0 := (foE_is hA).2.1
    have hlb0 := (foE_is hB).2.1
    refine endOf5 hA r3 (by omega) (by omega) (by omega) ?_
    refine folds5x hB r4 (by omega) (by omega) (by omega) (by omega) (by omega) (fun rb f4 m4 hrb w4 => ?_)
    have k4 := w4.1
    obtain ⟨ha', hla, -, -⟩ := foE_is hA
    obtain ⟨hb', hlb, -, -⟩ := foE_is hB
    have wall : Wr f m (115 :: t :: (foE a ++ foE b)) f4 m4 := by
      rw [r1] at w1; rw [r2] at w2
      have := w1.app (w2.app (w3.app w4))
      simpa using this
    refine body_ok hA hB h0 r3 r4 (by omega) (by omega) (by omega) (close_ok hm hb.1 _ _ (by omega) r5 (by omega) (by omega) (by omega) lb ?_)
    have fwh : ∀ {B' : List Int}, B' = foF B → foF (115 :: t :: (a ++ (b ++ (B ++ [114])))) = (if known (foE a) (foE b) = true ∧ soR t (foE a) (foE b) = false then [] else 115 :: t :: (foE a ++ (foE b ++ (B' ++ [114])))) := fun q1 => by rw [q1]; exact SqM_wh ht hA hB hb.1
    have keep : ¬ (known (foE a) (foE b) = true ∧ soR t (foE a) (foE b) = false) → wp_foldOne_265 (wp_foldAll n) K row many q f4 m4 (q + 2 + a.length + b.length + B.length) := by
      intro kf
      refine body_ok hA hB h0 r3 r4 (by omega) (by omega) (by omega) (foldAllx_of hm hb.2 (by omega) (by omega) r5 (by omega) (by omega) (by omega) lb (by omega) (by omega) (fun B' f5 m5 hB' w5 => ⟨⟨by omega, by omega⟩, fun _ => ?_, fun c => absurd c (by omega)⟩))
      have k5 := w5.1
      obtain ⟨⟨b1, b2, b3, b4⟩, b5⟩ := hB'
      refine write_ok (by omega) (by omega) (fun f8 m8 w8 => ?_)
      refine hK (115 :: t :: (foE a ++ (foE b ++ (B' ++ [114])))) f8 m8 ⟨⟨Sq.one (Or.inr (Or.inr (Or.inr ⟨t, _, _, B', ht, ha', hb', b1, rfl⟩))), ?_, ?_, ?_⟩, ?_⟩ ?_
      · rw [cs_wh ht hA hB, cs_wh ht ha' hb']; omega
      · rw [cp_wh ht hA hB, cp_wh ht ha' hb']; omega
      · rw [len_wh, len_wh]; omega
      · rw [fwh b5, if_neg kf]
      · have := wall.app (w5.app w8)
        simpa using this
    have knw : known (foE a) (foE b) = true → ∀ z, (z = 0 ∨ z = 1) → (z = 1 ↔ soR t (foE a) (foE b) = true) → wp_foldOne_195 (wp_foldAll n) K row many m q f4 m4 (q + 2 + a.length + b.length + B.length) z := by
      intro kt z hz hso
      refine ⟨fun c => absurd c (by omega), fun _ => ⟨fun z1 => keep (fun q => ?_), fun z0 => ⟨fun _ => ⟨fun _ => ?_, fun c => absurd c (by omega)⟩, fun c => absurd c (by omega)⟩⟩⟩
      · have := hso.mp (by omega)
        rw [q.2] at this; cases this
      · have sf : soR t (foE a) (foE b) = false := by
          cases q : soR t (foE a) (foE b) with
          | false => rfl
          | true => have := hso.mpr q; omega
        exact hK [] f4 m ⟨⟨Sq.nil, Nat.zero_le _, Nat.zero_le _, Nat.zero_le _⟩, by rw [fwh rfl, if_pos ⟨kt, sf⟩]⟩ ⟨by simp, trivial, wall.2.2⟩
    have kf1 : nm1 (foE a) = false → known (foE a) (foE b) = false := fun q => by unfold known; rw [q, Bool.false_and]
    have kf2 : nm1 (foE b) = false → known (foE a) (foE b) = false := fun q => by unfold known; rw [q, Bool.and_false]
    refine ⟨fun g => keep (fun q => by rcases hra with ⟨z, _⟩ | ⟨_, z⟩ <;> first | omega | (rw [kf1 z] at q; exact absurd q.1 (by decide))), fun g => ⟨fun g2 => keep (fun q => by rcases hrb with ⟨z, _⟩ | ⟨_, z⟩ <;> first | omega | (rw [kf2 z] at q; exact absurd q.1 (by decide))), fun g2 => ?_⟩⟩
    rcases hra with ⟨_, za⟩ | ⟨z, _⟩
    rcases hrb with ⟨_, zb⟩ | ⟨z, _⟩
    · have kt : known (foE a) (foE b) = true := by unfold known; rw [za, zb]; rfl
      obtain ⟨x, hx, ex⟩ := nm1_t za
      obtain ⟨y, hy, ey⟩ := nm1_t zb
      have wl := wall.2.1
      rw [ex, ey] at wl
      have v1 : f4 (m + 2) = x := by
        have := wl.2.2.1
        rwa [show m + 1 + 1 = m + 2 by omega] at this
      have v2 : f4 (m + 3) = y := by
        have := wl.2.2.2.1
        rwa [show m + 1 + 1 + 1 = m + 3 by omega] at this
      have so : soR t (foE a) (foE b) = holdR t x y := by rw [ex, ey]; rfl
      rw [so] at knw
      unfold holdR at knw
      rw [v1, v2, r2]
      have y1 : ∀ {p : Prop} [Decidable p], p → ((1 : Int) = 1 ↔ decide p = true) := fun h => ⟨fun _ => decide_eq_true h, fun _ => rfl⟩
      have y0 : ∀ {p : Prop} [Decidable p], ¬ p → ((0 : Int) = 1 ↔ decide p = true) := fun h => ⟨fun z => absurd z (by decide), fun z => absurd (of_decide_eq_true z) h⟩
      refine ⟨⟨by omega, by omega⟩, ⟨by omega, by omega⟩, ⟨by omega, by omega⟩, fun z => ⟨⟨by omega, by omega⟩, fun z2 => ?_, fun z2 => ?_⟩, fun z => ?_⟩
      · rw [if_neg z, if_neg z2] at knw
        exact ⟨fun w => knw kt 0 (Or.inl rfl) (y0 (by omega)), fun w => knw kt 1 (Or.inr rfl) (y1 w)⟩
      · rw [if_neg z, if_pos z2] at knw
        exact ⟨fun w => knw kt 0 (Or.inl rfl) (y0 w), fun w => knw kt 1 (Or.inr rfl) (y1 w)⟩
      · rw [if_pos z] at knw
        exact ⟨fun w => knw kt 0 (Or.inl rfl) (y0 (by omega)), fun w => knw kt 1 (Or.inr rfl) (y1 w)⟩
    · omega
    · omega
theorem FWx_all {row : Int → Int} {many : Int} (hm : many ≤ 2400) : ∀ {l : List Int}, Sq l → FWx row many l := by
  intro l hl
  refine Sq.ind (P := FWx row many) ?_ ?_ hl
  · intro n q f m P K _ _ _ _ _ _ _ _ _ h
    have := h [] f m ⟨⟨Sq.nil, Nat.le_refl _, Nat.le_refl _, Nat.le_refl _⟩, (show foF [] = [] from SqM_nil).symm⟩ Wr.nil
    simpa using this
  · intro st r hs hr ih n q f m P K hn h40 ha h0 h1 h2 m0 m1 hP h
    rw [cs_app] at hn h40
    rw [List.length_append] at h1 h2 m1 h
    obtain ⟨a1, a2⟩ := At_app.mp ha
    have hp := hs.pos
    refine hP _ _ _ (isLast_no h0 (by omega) hm (hs.at0 a1) (u0 ?_))
    refine foldOnex_of hm hs (by omega) (by omega) a1 h0 (by omega) (by omega) m0 (by omega) (fun s' f1 m1' hs' w1 => ?_)
    have k1 := w1.1
    obtain ⟨⟨s1, s2, s3, s4⟩, s5⟩ := hs'
    refine behind_ok (hs.mono (fun _ h => h.1)) (by omega) a1 h0 (by omega) (by omega) ?_
    refine ih n _ f1 m1' P K (by omega) (by omega) a2 (by omega) (by omega) (by omega) (by omega) (by omega) hP (fun r' f2 m2 hr' w2 => ?_)
    obtain ⟨⟨t1, t2, t3, t4⟩, t5⟩ := hr'
    rw [show q + (st.length : Int) + r.length = q + ((st.length + r.length : Nat) : Int) by omega]
    exact h (s' ++ r') f2 m2 ⟨⟨Sq.app s1 t1, by rw [cs_app, cs_app]; omega, by rw [cp_app, cp_app]; omega, by rw [List.length_append, List.length_append]; omega⟩, by rw [s5, t5]; exact (show foF (st ++ r) = foF st ++ foF r from SqM_cons (hs.mono (fun _ h => h.1)) hr).symm⟩ (w1.app w2)
theorem foldAllx_ok {row f : Int → Int} {many : Int} {l : List Int} (h : WF row many l) {K : (Int → Int) → Int → Prop} (hK : ∀ l' f', FRx l l' → At f' 0 l' → K f' l'.length) : wp_foldAll 100 row f many 0 0 K := by
  have hl := h.len
  obtain ⟨h1, h2, h3, h4, h5⟩ := h
  refine foldAllx_of (by omega) (FWx_all (by omega) h1) (by omega) h4 h2 (by omega) (by omega) (by omega) (Or.inl (by omega)) (by omega) (by omega) (fun l' f' m' hr hw => ?_)
  rw [hw.1, show (0 : Int) + l'.length = l'.length by omega]
  exact hK l' f' hr hw.2.1
