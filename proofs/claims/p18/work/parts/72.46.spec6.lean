theorem ziand15 (x : Int) : 0 ≤ ziand x 15 ∧ ziand x 15 ≤ 15 := by
  unfold ziand
  have h1 : (zI x &&& zI 15).toBitVec = (zI x).toBitVec &&& 15#32 := rfl
  have h2 : ((zI x).toBitVec &&& 15#32).toNat ≤ 15 := by
    rw [BitVec.toNat_and]; exact Nat.and_le_right
  have h3 : (zI x &&& zI 15).toInt = (((zI x).toBitVec &&& 15#32).toNat : Int) := by
    show (zI x &&& zI 15).toBitVec.toInt = _
    rw [h1]
    exact BitVec.toInt_eq_toNat_of_lt (by omega)
  omega
theorem both_ok {c a b : Int} {K : Int → Prop} (hK : ∀ r, 0 ≤ r → r ≤ 15 → K r) : wp_both c a b K := by
  have h := fun x => hK _ (ziand15 x).1 (ziand15 x).2
  unfold wp_both
  simp only [h, and_true, implies_true]
theorem Wr.base {f f1 f' : Int → Int} {m m' : Int} {l : List Int} (h : ∀ j : Int, j < m → f1 j = f j) (w : Wr f1 m l f' m') : Wr f m l f' m' := ⟨w.1, w.2.1, fun j hj => (w.2.2 j hj).trans (h j hj)⟩
-- ===== folding expressions
def Num1 (r : Int) (e : List Int) : Prop := r = 1 → ∃ c, 0 ≤ c ∧ c ≤ 15 ∧ e = [c]
theorem wp_folds_s {n : Nat} : wp_folds (n + 1) = wp_folds_b (wp_folds n) := rfl
theorem folds_ok {row : Int → Int} : ∀ {e : List Int}, Ex lfR e → ∀ (n : Nat) (p : Int) (f : Int → Int) (m : Int) (K : Int → (Int → Int) → Int → Prop), At row p e → 0 ≤ p → p + e.length ≤ 2400 → e.length ≤ n → e.length ≤ 500 → 0 ≤ m → m + e.length ≤ 2400 → (∀ (r : Int) (e' : List Int) (f' : Int → Int) (m' : Int), (r = 0 ∨ r = 1) → Ex lfR e' → e'.length ≤ e.length → Num1 r e' → Wr f m e' f' m' → K r f' m') → wp_folds n row f m p K := by
  intro e he
  refine Ex.ind (P := fun e => ∀ (n : Nat) (p : Int) (f : Int → Int) (m : Int) (K : Int → (Int → Int) → Int → Prop), At row p e → 0 ≤ p → p + e.length ≤ 2400 → e.length ≤ n → e.length ≤ 500 → 0 ≤ m → m + e.length ≤ 2400 → (∀ (r : Int) (e' : List Int) (f' : Int → Int) (m' : Int), (r = 0 ∨ r = 1) → Ex lfR e' → e'.length ≤ e.length → Num1 r e' → Wr f m e' f' m' → K r f' m') → wp_folds n row f m p K) ?_ ?_ he
  · intro c hc n p f m K ha h0 h1 hn h5 m0 m1 hK
    have hc' := hc
    unfold lfR at hc'
    simp only [List.length_cons, List.length_nil] at h1 hn m1
    obtain ⟨n, rfl⟩ : ∃ k, n = k + 1 := ⟨n - 1, by omega⟩
    have e1 : row p = c := ha.1
    rw [wp_folds_s]
    refine ⟨⟨by omega, by omega⟩, isIn_c (fun x _ => absurd x (by omega)) (fun _ => u0 ⟨⟨by omega, by omega⟩, write_ok m0 (by omega) (fun f' m' hw => ⟨⟨by omega, by omega⟩, fun g => ?_, fun g => ?_⟩)⟩)⟩
    · rw [e1] at hw
      exact hK 0 [c] f' m' (Or.inl rfl) (Ex.leaf hc) (Nat.le_refl _) (fun q => absurd q (by decide)) hw
    · rw [e1] at hw
      exact hK 1 [c] f' m' (Or.inr rfl) (Ex.leaf hc) (Nat.le_refl _) (fun _ => ⟨c, by omega, by omega, rfl⟩) hw
  · intro o a b ho hea heb iha ihb n p f m K ha h0 h1 hn h5 m0 m1 hK
    have ho' := ho
    unfold opC at ho'
    simp only [List.length_cons, List.length_append] at h1 hn h5 m1 hK
    obtain ⟨n, rfl⟩ : ∃ k, n = k + 1 := ⟨n - 1, by omega⟩
    have e1 : row p = o := ha.1
    obtain ⟨a1, a2⟩ := At_app.mp ha.2
    rw [wp_folds_s]
    refine ⟨⟨by omega, by omega⟩, isIn_c (fun _ _ => u1 ⟨⟨by omega, by omega⟩, write_ok m0 (by omega) (fun f1 m1' w1 => ⟨⟨by omega, by omega⟩, ?_⟩)⟩) (fun c => absurd c (by omega))⟩
    have k1 := w1.1
    simp only [List.length_cons, List.length_nil] at k1
    refine iha n (p + 1) f1 m1' _ a1 (by omega) (by omega) (by omega) (by omega) (by omega) (by omega) (fun r2 a' f2 m2 hr2 ha' hl2 hc2 w2 => ?_)
    have k2 := w2.1
    refine endOf5 hea a1 (by omega) (by omega) (by omega) ?_
    refine ihb n _ f2 m2 _ a2 (by omega) (by omega) (by omega) (by omega) (by omega) (by omega) (fun r3 b' f3 m3 hr3 hb' hl3 hc3 w3 => ?_)
    have k3 := w3.1
    have wall : Wr f m (o :: (a' ++ b')) f3 m3 := by
      rw [e1] at w1
      have := w1.app (w2.app w3)
      simpa using this
    have fall : ∀ r, (r = 0 ∨ r = 1) → r ≠ 1 → K r f3 m3 := fun r hr hne => hK r (o :: (a' ++ b')) f3 m3 hr (Ex.op ho ha' hb') (by simp only [List.length_cons, List.length_append]; omega) (fun q => absurd q hne) wall
    refine ⟨fun _ => fall 0 (Or.inl rfl) (by decide), fun g2 => ⟨fun g3 => ?_, fun _ => fall 0 (Or.inl rfl) (by decide)⟩⟩
    obtain ⟨ca, ca0, ca1, rfl⟩ := hc2 (by omega)
    obtain ⟨cb, cb0, cb1, rfl⟩ := hc3 (by omega)
    have pa := hea.pos
    have pb := heb.pos
    refine ⟨⟨by omega, by omega⟩, ⟨by omega, by omega⟩, ⟨by omega, by omega⟩, both_ok (fun r r0 r1 => ⟨⟨by omega, by omega⟩, ⟨by omega, by omega⟩, ?_⟩)⟩
    refine hK 1 [r] _ _ (Or.inr rfl) (Ex.leaf (Or.inl ⟨r0, r1⟩)) (by simp) (fun _ => ⟨r, r0, r1, rfl⟩) ⟨by simp, ⟨if_pos rfl, trivial⟩, fun j hj => ?_⟩
    rw [show uZ f3 m r j = f3 j from if_neg (by omega)]
    exact wall.2.2 j hj
theorem folds5 {row : Int → Int} {e : List Int} (he : Ex lfR e) {p : Int} {f : Int → Int} {m : Int} {K : Int → (Int → Int) → Int → Prop} (ha : At row p e) (h0 : 0 ≤ p) (h1 : p + e.length ≤ 2400) (h5 : e.length ≤ 500) (m0 : 0 ≤ m) (m1 : m + e.length ≤ 2400) (hK : ∀ (r : Int) (e' : List Int) (f' : Int → Int) (m' : Int), (r = 0 ∨ r = 1) → Ex lfR e' → e'.length ≤ e.length → Num1 r e' → Wr f m e' f' m' → K r f' m') : wp_folds 500 row f m p K := folds_ok he 500 p f m K ha h0 h1 h5 h5 m0 m1 hK
-- ===== folding rows
def FR (l l' : List Int) : Prop := Sq l' ∧ cs l' ≤ cs l ∧ cp l' ≤ cp l ∧ l'.length ≤ l.length
theorem wp_foldAll_s {n : Nat} : wp_foldAll (n + 1) = wp_foldAll_b (wp_foldAll n) (wp_foldOne n) := rfl
theorem wp_foldOne_s {n : Nat} : wp_foldOne (n + 1) = wp_foldOne_b (wp_foldAll n) (wp_foldOne n) := rfl
def FW (row : Int → Int) (many : Int) (l : List Int) : Prop := ∀ (n : Nat) (q : Int) (f : Int → Int) (m : Int) (P : Int → (Int → Int) → Int → Prop) (K : (Int → Int) → Int → Prop), 2 * cs l ≤ n → cs l ≤ 40 → At row q l → 0 ≤ q → q + l.length ≤ many → l.length ≤ 500 → 0 ≤ m → m + l.length ≤ 2400 → (∀ a b c, wp_foldAll_2 (wp_foldOne n) K row many P a b c → P a b c) → (∀ l' f' m', FR l l' → Wr f m l' f' m' → P (q + l.length) f' m') → P q f m
theorem foldAll_of {row : Int → Int} {many : Int} (hm : many ≤ 2400) {l : List Int} (hl : FW row many l) {n : Nat} {q : Int} {f : Int → Int} {m : Int} {K : (Int → Int) → Int → Prop} (hn : 2 * cs l + 1 ≤ n) (h40 : cs l ≤ 40) (ha : At row q l) (h0 : 0 ≤ q) (h1 : q + l.length ≤ many) (h2 : l.length ≤ 500) (h3 : Lst row many (q + l.length)) (m0 : 0 ≤ m) (m1 : m + l.length ≤ 2400) (hK : ∀ l' f' m', FR l l' → Wr f m l' f' m' → K f' m') : wp_foldAll n row f many m q K := by
  obtain ⟨n, rfl⟩ : ∃ k, n = k + 1 := ⟨n - 1, by omega⟩
  rw [wp_foldAll_s]
  intro P hP
  exact hl n q f m P K (by omega) h40 ha h0 h1 h2 m0 m1 hP (fun l' f' m' hr hw => hP _ _ _ (isLast_yes (by omega) hm h3 (u1 (hK l' f' m' hr hw))))
theorem foldOne_of {row : Int → Int} {many : Int} (hm : many ≤ 2400) {st : List Int} (hs : Sm (fun B => Sq B ∧ FW row many B) st) {n : Nat} {q : Int} {f : Int → Int} {m : Int} {K : (Int → Int) → Int → Prop} (hn : 2 * cs st ≤ n) (h40 : cs st ≤ 40) (ha : At row q st) (h0 : 0 ≤ q) (h1 : q + st.length ≤ many) (h2 : st.length ≤ 500) (m0 : 0 ≤ m) (m1 : m + st.length ≤ 2400) (hK : ∀ l' f' m', FR st l' → Wr f m l' f' m' → K f' m') : wp_foldOne n row f many m q K := by
  have hcs := hs.csp
  obtain ⟨n, rfl⟩ : ∃ k, n = k + 1 := ⟨n - 1, by omega⟩
  rw [wp_foldOne_s]
  have hss : Sm Sq st := hs.mono (fun _ h => h.1)
  rcases hs with ⟨v, ex, hv, he, rfl⟩ | rfl | ⟨t, a, b, B, C, ht, hA, hB, hb, hc, rfl⟩ | ⟨t, a, b, B, ht, hA, hB, hb, rfl⟩
  · have e1 : row q = v := ha.1
    have hv' := hv
    unfold setC at hv'
    simp only [List.length_cons] at h1 h2 m1
    refine ⟨⟨by omega, by omega⟩, fun _ => write_ok m0 (by omega) (fun f1 m1' w1 => ⟨fun c => absurd c (by omega), fun _ => ⟨fun c => absurd c (by omega), fun _ => ⟨⟨by omega, by omega⟩, ?_⟩⟩⟩), fun c => absurd c (by omega)⟩
    have k1 := w1.1
    simp only [List.length_cons, List.length_nil] at k1
    refine folds5 he ha.2 (by omega) (by omega) (by omega) (by omega) (by omega) (fun r e' f2 m2 _ he' hl _ w2 => ?_)
    rw [e1] at w1
    refine hK (v :: e') f2 m2 ⟨Sq.one (Or.inl ⟨v, e', hv, he', rfl⟩), ?_, ?_, ?_⟩ (w1.app w2)
    · rw [cs_yes (by omega), cs_yes (by omega), he.csz, he'.csz]; omega
    · rw [cp_no (by omega), cp_no (by omega), he.cpz, he'.cpz]; exact hl
    · simp only [List.length_cons]; omega
  · have e1 : row q = 111 := ha.1
    simp only [List.length_cons, List.length_nil] at h1 m1
    refine ⟨⟨by omega, by omega⟩, fun c => absurd e1 c, fun _ => write_ok m0 (by omega) (fun f1 m1' w1 => ?_)⟩
    rw [e1] at w1
    exact hK [111] f1 m1' ⟨Sq.one hss, Nat.le_refl _, Nat.le_refl _, Nat.le_refl _⟩ w1
  · rw [cs_if ht hA hB] at hn h40
    rw [len_if] at h1 h2 m1
    obtain ⟨r1, r2, r3, r4, r5, r6, r7, r8⟩ := At_if.mp ha
    have lb : Lst row many (q + 2 + a.length + b.length + B.length) := Or.inr ⟨by omega, Or.inl r6⟩
    have lc : Lst row many (q + 2 + a.length + b.length + B.length + 1 + C.length) := Or.inr ⟨by omega, Or.inr r8⟩
    refine ⟨⟨by omega, by omega⟩, fun _ => write_ok m0 (by omega) (fun f1 m1' w1 => ⟨fun _ => ?_, fun c => absurd r1 c⟩), fun c => absurd c (by omega)⟩
    have k1 := w1.1
    simp only [List.length_cons, List.length_nil] at k1
    refine ⟨⟨by omega, by omega⟩, write_ok (by omega) (by omega) (fun f2 m2 w2 => ⟨⟨by omega, by omega⟩, ?_⟩)⟩
    have k2 := w2.1
    simp only [List.length_cons, List.length_nil] at k2
    refine folds5 hA r3 (by omega) (by omega) (by omega) (by omega) (by omega) (fun ra a' f3 m3 hra ha' hla hca w3 => ?_)
    have k3 := w3.1
    refine endOf5 hA r3 (by omega) (by omega) (by omega) ?_
    refine folds5 hB r4 (by omega) (by omega) (by omega) (by omega) (by omega) (fun rb b' f4 m4 hrb hb' hlb hcb w4 => ?_)
    have k4 := w4.1
    have wall : Wr f m (112 :: t :: (a' ++ b')) f4 m4 := by
      rw [r1] at w1; rw [r2] at w2
      have := w1.app (w2.app (w3.app w4))
      simpa using this
    refine body_ok hA hB h0 r3 r4 (by omega) (by omega) (by omega) (close_ok hm hb.1 _ _ (by omega) r5 (by omega) (by omega) (by omega) lb ?_)
    -- the way that keeps the statement
    have keep : wp_foldOne_265 (wp_foldAll n) K row many q f4 m4 (q + 2 + a.length + b.length + B.length) := by
      refine body_ok hA hB h0 r3 r4 (by omega) (by omega) (by omega) (foldAll_of hm hb.2 (by omega) (by omega) r5 (by omega) (by omega) (by omega) lb (by omega) (by omega) (fun B' f5 m5 hB' w5 => ⟨⟨by omega, by omega⟩, fun c => absurd r6 c, fun _ => ?_⟩))
      have k5 := w5.1
      obtain ⟨b1, b2, b3, b4⟩ := hB'
      refine write_ok (by omega) (by omega) (fun f6 m6 w6 => ⟨⟨by omega, by omega⟩, ?_⟩)
      have k6 := w6.1
      simp only [List.length_cons, List.length_nil] at k6
      refine foldAll_of hm hc.2 (by omega) (by omega) r7 (by omega) (by omega) (by omega) lc (by omega) (by omega) (fun C' f7 m7 hC' w7 => ?_)
      have k7 := w7.1
      obtain ⟨c1, c2, c3, c4⟩ := hC'
      refine write_ok (by omega) (by omega) (fun f8 m8 w8 => ?_)
      refine hK (112 :: t :: (a' ++ (b' ++ (B' ++ (113 :: (C' ++ [114])))))) f8 m8 ⟨Sq.one (Or.inr (Or.inr (Or.inl ⟨t, a', b', B', C', ht, ha', hb', b1, c1, rfl⟩))), ?_, ?_, ?_⟩ ?_
      · rw [cs_if ht hA hB, cs_if ht ha' hb']; omega
      · rw [cp_if ht hA hB, cp_if ht ha' hb']; omega
      · rw [len_if, len_if]; omega
      · have := wall.app (w5.app (w6.app (w7.app w8)))
        simpa using this
    -- the way on which it is known
    have known : ∀ z, (z = 0 ∨ z = 1) → wp_foldOne_195 (wp_foldAll n) K row many m q f4 m4 (q + 2 + a.length + b.length + B.length) z := by
      intro z hz
      have last : ∀ (f' : Int → Int) (m' : Int), z = 1 → K f' m' → wp_foldOne_233 (wp_foldAll n) K row many q (q + 2 + a.length + b.length + B.length) z f' m' := fun f' m' h1 h => ⟨fun _ => h, fun _ => ⟨fun _ => h, fun c => absurd c (by omega)⟩⟩
      refine ⟨fun _ => ⟨fun c => absurd r1 c, fun _ => ⟨fun hz0 => ?_, fun hz1 => ?_⟩⟩, fun c => absurd r1 c⟩
      · refine ⟨fun c => absurd r1 c, fun _ => ⟨fun c => absurd hz0 c, fun _ => ⟨⟨by omega, by omega⟩, fun c => absurd r6 c, fun _ => ⟨⟨by omega, by omega⟩, ?_⟩⟩⟩⟩
        refine foldAll_of hm hc.2 (by omega) (by omega) r7 (by omega) (by omega) (by omega) lc m0 (by omega) (fun C' f7 m7 hC' w7 => ?_)
        obtain ⟨c1, c2, c3, c4⟩ := hC'
        exact hK C' f7 m7 ⟨c1, by rw [cs_if ht hA hB]; omega, by rw [cp_if ht hA hB]; omega, by rw [len_if]; omega⟩ (w7.base (fun j hj => wall.2.2 j hj))
      · refine body_ok hA hB h0 r3 r4 (by omega) (by omega) (by omega) (foldAll_of hm hb.2 (by omega) (by omega) r5 (by omega) (by omega) (by omega) lb m0 (by omega) (fun B' f5 m5 hB' w5 => last f5 m5 (by omega) ?_))
        obtain ⟨b1, b2, b3, b4⟩ := hB'
        exact hK B' f5 m5 ⟨b1, by rw [cs_if ht hA hB]; omega, by rw [cp_if ht hA hB]; omega, by rw [len_if]; omega⟩ (w5.base (fun j hj => wall.2.2 j hj))
    exact ⟨fun _ => keep, fun _ => ⟨fun _ => keep, fun _ => ⟨⟨by omega, by omega⟩, ⟨by omega, by omega⟩, ⟨by omega, by omega⟩, fun _ => ⟨⟨by omega, by omega⟩, fun _ => ⟨fun _ => known 0 (Or.inl rfl), fun _ => known 1 (Or.inr rfl)⟩, fun _ => ⟨fun _ => known 0 (Or.inl rfl), fun _ => known 1 (Or.inr rfl)⟩⟩, fun _ => ⟨fun _ => known 0 (Or.inl rfl), fun _ => known 1 (Or.inr rfl)⟩⟩⟩⟩
  · rw [cs_wh ht hA hB] at hn h40
    rw [len_wh] at h1 h2 m1
    obtain ⟨r1, r2, r3, r4, r5, r6⟩ := At_wh.mp ha
    have hba := hA.pos
    have hbb := hB.pos
    have lb : Lst row many (q + 2 + a.length + b.length + B.length) := Or.inr ⟨by omega, Or.inr r6⟩
    refine ⟨⟨by omega, by omega⟩, fun _ => write_ok m0 (by omega) (fun f1 m1' w1 => ⟨fun c => absurd c (by omega), fun _ => ⟨fun _ => ?_, fun c => absurd r1 c⟩⟩), fun c => absurd c (by omega)⟩
    have k1 := w1.1
    simp only [List.length_cons, List.length_nil] at k1
    refine ⟨⟨by omega, by omega⟩, write_ok (by omega) (by omega) (fun f2 m2 w2 => ⟨⟨by omega, by omega⟩, ?_⟩)⟩
    have k2 := w2.1
    simp only [List.length_cons, List.length_nil] at k2
    refine folds5 hA r3 (by omega) (by omega) (by omega) (by omega) (by omega) (fun ra a' f3 m3 hra ha' hla hca w3 => ?_)
    have k3 := w3.1
    refine endOf5 hA r3 (by omega) (by omega) (by omega) ?_
    refine folds5 hB r4 (by omega) (by omega) (by omega) (by omega) (by omega) (fun rb b' f4 m4 hrb hb' hlb hcb w4 => ?_)
    have k4 := w4.1
    have wall : Wr f m (115 :: t :: (a' ++ b')) f4 m4 := by
      rw [r1] at w1; rw [r2] at w2
      have := w1.app (w2.app (w3.app w4))
      simpa using this
    refine body_ok hA hB h0 r3 r4 (by omega) (by omega) (by omega) (close_ok hm hb.1 _ _ (by omega) r5 (by omega) (by omega) (by omega) lb ?_)
    have keep : wp_foldOne_265 (wp_foldAll n) K row many q f4 m4 (q + 2 + a.length + b.length + B.length) := by
      refine body_ok hA hB h0 r3 r4 (by omega) (by omega) (by omega) (foldAll_of hm hb.2 (by omega) (by omega) r5 (by omega) (by omega) (by omega) lb (by omega) (by omega) (fun B' f5 m5 hB' w5 => ⟨⟨by omega, by omega⟩, fun _ => ?_, fun c => absurd c (by omega)⟩))
      have k5 := w5.1
      obtain ⟨b1, b2, b3, b4⟩ := hB'
      refine write_ok (by omega) (by omega) (fun f8 m8 w8 => ?_)
      refine hK (115 :: t :: (a' ++ (b' ++ (B' ++ [114])))) f8 m8 ⟨Sq.one (Or.inr (Or.inr (Or.inr ⟨t, a', b', B', ht, ha', hb', b1, rfl⟩))), ?_, ?_, ?_⟩ ?_
      · rw [cs_wh ht hA hB, cs_wh ht ha' hb']; omega
      · rw [cp_wh ht hA hB, cp_wh ht ha' hb']; omega
      · rw [len_wh, len_wh]; omega
      · have := wall.app (w5.app w8)
        simpa using this
    have known : ∀ z, (z = 0 ∨ z = 1) → wp_foldOne_195 (wp_foldAll n) K row many m q f4 m4 (q + 2 + a.length + b.length + B.length) z := by
      intro z hz
      refine ⟨fun c => absurd c (by omega), fun _ => ⟨fun _ => keep, fun _ => ⟨fun _ => ⟨fun _ => ?_, fun c => absurd c (by omega)⟩, fun c => absurd c (by omega)⟩⟩⟩
      exact hK [] f4 m ⟨Sq.nil, Nat.zero_le _, Nat.zero_le _, Nat.zero_le _⟩ ⟨by simp, trivial, wall.2.2⟩
    exact ⟨fun _ => keep, fun _ => ⟨fun _ => keep, fun _ => ⟨⟨by omega, by omega⟩, ⟨by omega, by omega⟩, ⟨by omega, by omega⟩, fun _ => ⟨⟨by omega, by omega⟩, fun _ => ⟨fun _ => known 0 (Or.inl rfl), fun _ => known 1 (Or.inr rfl)⟩, fun _ => ⟨fun _ => known 0 (Or.inl rfl), fun _ => known 1 (Or.inr rfl)⟩⟩, fun _ => ⟨fun _ => known 0 (Or.inl rfl), fun _ => known 1 (Or.inr rfl)⟩⟩⟩⟩
theorem FW_all {row : Int → Int} {many : Int} (hm : many ≤ 2400) : ∀ {l : List Int}, Sq l → FW row many l := by
  intro l hl
  refine Sq.ind (P := FW row many) ?_ ?_ hl
  · intro n q f m P K _ _ _ _ _ _ _ _ _ h
    have := h [] f m ⟨Sq.nil, Nat.le_refl _, Nat.le_refl _, Nat.le_refl _⟩ Wr.nil
    simpa using this
  · intro st r hs hr ih n q f m P K hn h40 ha h0 h1 h2 m0 m1 hP h
    rw [cs_app] at hn h40
    rw [List.length_append] at h1 h2 m1 h
    obtain ⟨a1, a2⟩ := At_app.mp ha
    have hp := hs.pos
    refine hP _ _ _ (isLast_no h0 (by omega) hm (hs.at0 a1) (u0 ?_))
    refine foldOne_of hm hs (by omega) (by omega) a1 h0 (by omega) (by omega) m0 (by omega) (fun s' f1 m1' hs' w1 => ?_)
    have k1 := w1.1
    obtain ⟨s1, s2, s3, s4⟩ := hs'
    refine behind_ok (hs.mono (fun _ h => h.1)) (by omega) a1 h0 (by omega) (by omega) ?_
    refine ih n _ f1 m1' P K (by omega) (by omega) a2 (by omega) (by omega) (by omega) (by omega) (by omega) hP (fun r' f2 m2 hr' w2 => ?_)
    obtain ⟨t1, t2, t3, t4⟩ := hr'
    rw [show q + (st.length : Int) + r.length = q + ((st.length + r.length : Nat) : Int) by omega]
    exact h (s' ++ r') f2 m2 ⟨Sq.app s1 t1, by rw [cs_app, cs_app]; omega, by rw [cp_app, cp_app]; omega, by rw [List.length_append, List.length_append]; omega⟩ (w1.app w2)
theorem foldAll_ok {row f : Int → Int} {many : Int} {l : List Int} (h : WF row many l) {K : (Int → Int) → Int → Prop} (hK : ∀ l' f', FR l l' → At f' 0 l' → K f' l'.length) : wp_foldAll 100 row f many 0 0 K := by
  have hl := h.len
  obtain ⟨h1, h2, h3, h4, h5⟩ := h
  refine foldAll_of (by omega) (FW_all (by omega) h1) (by omega) h4 h2 (by omega) (by omega) (by omega) (Or.inl (by omega)) (by omega) (by omega) (fun l' f' m' hr hw => ?_)
  rw [hw.1, show (0 : Int) + l'.length = l'.length by omega]
  exact hK l' f' hr hw.2.1
