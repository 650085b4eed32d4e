-- ===== running in the reference, exactly
theorem worth_x {row holds : Int → Int} : ∀ {e : List Int}, Ex lfR e → ∀ (n : Nat) (c : Int) (K : Int → Int → Prop), At row c e → 0 ≤ c → c + e.length ≤ 2400 → e.length ≤ n → K (valE holds e) (c + e.length) → wp_worth n row holds c K := by
  intro e he
  refine Ex.ind (P := fun e => ∀ (n : Nat) (c : Int) (K : Int → Int → Prop), At row c e → 0 ≤ c → c + e.length ≤ 2400 → e.length ≤ n → K (valE holds e) (c + e.length) → wp_worth n row holds c K) ?_ ?_ he
  · intro v hv n c K ha h0 h1 hn hK
    rw [valE_lf hv] at hK
    simp only [List.length_cons, List.length_nil] at h1 hn hK
    obtain ⟨n, rfl⟩ : ∃ m, n = m + 1 := ⟨n - 1, by omega⟩
    have e1 : row c = v := ha.1
    unfold lfR at hv
    rw [wp_worth_s]
    refine ⟨⟨by omega, by omega⟩, ⟨by omega, by omega⟩, fun q => ⟨fun q2 => absurd q2 (by omega), fun q2 => ⟨⟨by omega, by omega⟩, ?_⟩⟩, fun q => ?_⟩
    · rw [e1] at q ⊢
      rw [if_neg (show ¬ v < 20 by omega)] at hK
      exact hK
    · rw [e1] at q ⊢
      rw [if_pos q] at hK
      exact hK
  · intro o a b ho ha hb iha ihb n c K haa h0 h1 hn hK
    rw [valE_op ho ha hb] at hK
    simp only [List.length_cons, List.length_append] at h1 hn hK
    obtain ⟨n, rfl⟩ : ∃ m, n = m + 1 := ⟨n - 1, by omega⟩
    have e1 : row c = o := haa.1
    obtain ⟨a1, a2⟩ := At_app.mp haa.2
    unfold opC at ho
    rw [wp_worth_s]
    refine ⟨⟨by omega, by omega⟩, ⟨by omega, by omega⟩, fun _ => ⟨fun _ => ?_, fun q => absurd q (by omega)⟩, fun q => absurd q (by omega)⟩
    refine iha n (c + 1) _ a1 (by omega) (by omega) (by omega) (ihb n _ _ a2 (by omega) (by omega) (by omega) (both_x ?_))
    rw [e1]
    rwa [show c + ((a.length + b.length + 1 : Nat) : Int) = c + 1 + a.length + b.length by omega] at hK
theorem worthx5 {row holds h : Int → Int} {e : List Int} (he : Ex lfR e) {c : Int} {K : Int → Int → Prop} (ha : At row c e) (h0 : 0 ≤ c) (h1 : c + e.length ≤ 2400) (h2 : e.length ≤ 500) (hh : agr6 holds h) (hK : K (valE h e) (c + e.length)) : wp_worth 500 row holds c K := worth_x he 500 c K ha h0 h1 h2 (by rw [valE_agr he hh]; exact hK)
theorem isSo_x {row holds : Int → Int} {st : RSt} {t : Int} {a b : List Int} (ha : Ex lfR a) (hb : Ex lfR b) {cur p : Int} {K : Int → Int → Prop} (h0 : 0 ≤ p) (e1 : row (p + 1) = t) (aa : At row (p + 2) a) (ab : At row (p + 2 + a.length) b) (h1 : p + 2 + a.length + b.length ≤ 2400) (h2 : a.length ≤ 500) (h3 : b.length ≤ 500) (hh : agr6 holds st.1) (k1 : soS t a b st = true → ∀ c, K 1 c) (k0 : soS t a b st = false → ∀ c, K 0 c) : wp_isSo row holds cur p K := by
  refine ⟨⟨by omega, by omega⟩, worthx5 ha aa (by omega) (by omega) h2 hh (worthx5 hb ab (by omega) (by omega) h3 hh ⟨⟨by omega, by omega⟩, ?_⟩)⟩
  rw [e1]
  unfold soS holdR at k1 k0
  refine ⟨fun z => ⟨fun z2 => ?_, fun z2 => ?_⟩, fun z => ?_⟩
  · rw [if_neg z, if_neg z2] at k1 k0
    exact ⟨fun q => k0 (decide_eq_false (by omega)) _, fun q => k1 (decide_eq_true q) _⟩
  · rw [if_neg z, if_pos z2] at k1 k0
    exact ⟨fun q => k0 (decide_eq_false q) _, fun q => k1 (decide_eq_true q) _⟩
  · rw [if_pos z] at k1 k0
    exact ⟨fun q => k0 (decide_eq_false (by omega)) _, fun q => k1 (decide_eq_true q) _⟩
theorem step_x {s e : Int} {K : Int → Int → Int → Prop} (h1 : s < 100 → K 1 (s + 1) e) (h2 : s = 100 → K 0 s 2) (h0 : 0 ≤ s) (h : s ≤ 100) : wp_step s e K := ⟨fun hne => ⟨⟨by omega, by omega⟩, h1 (by omega)⟩, fun z => h2 z⟩
def Rst (h o : Int → Int) (s m : Int) (st : RSt) : Prop := agr6 h st.1 ∧ At o 0 st.2.1 ∧ m = st.2.1.length ∧ s = st.2.2 ∧ st.2.1.length ≤ st.2.2 ∧ st.2.2 ≤ 100
theorem Rst.tk {h o : Int → Int} {s m : Int} {st : RSt} (hs : Rst h o s m st) (hlt : s < 100) : Rst h o (s + 1) m (tks st) := by
  obtain ⟨a1, a2, a3, a4, a5, a6⟩ := hs
  refine ⟨a1, a2, a3, ?_, ?_, ?_⟩
  · show s + 1 = ((st.2.2 + 1 : Nat) : Int); omega
  · show st.2.1.length ≤ st.2.2 + 1; omega
  · show st.2.2 + 1 ≤ 100; omega
theorem WH_s {sf : RSt → Bool} {y : (RSt → RFn) → RSt → RFn} {k : RSt → RFn} {j : Nat} {s : RSt} : WH sf y k (j + 1) s = stp s (fun s' => if sf s' = true then y (WH sf y k j) s' else k s') := rfl
theorem RN_100 {sl r : List Int} (hs : Sm Sq sl) (hr : Sq r) {k : RSt → RFn} {s : RSt} (h : s.2.2 = 100) : RN (sl ++ r) k s = (2, s) := by
  rcases hs with ⟨v, e, hv, he, rfl⟩ | rfl | ⟨t, x, y, B, C, ht, hx, hy, hB, hC, rfl⟩ | ⟨t, x, y, B, ht, hx, hy, hB, rfl⟩
  · rw [RN_set hv he hr, stp_100 h]
  · rw [RN_fail hr, stp_100 h]
  · rw [RN_if ht hx hy hB hC hr, stp_100 h]
  · rw [RN_wh ht hx hy hB hr, show (101 : Nat) = 100 + 1 from rfl, WH_s, stp_100 h]
def DX (row : Int → Int) (many : Int) (l : List Int) : Prop := ∀ (n : Nat) (q : Int) (h o : Int → Int) (s m c : Int) (st : RSt) (k : RSt → RFn) (f0 : RFn) (mm : Nat) (P : Int → (Int → Int) → (Int → Int) → Int → Int → Int → Int → Prop) (K : Int → (Int → Int) → (Int → Int) → Int → Int → Int → Int → Prop), 2 * cs l ≤ n → cs l ≤ 40 → At row q l → 0 ≤ q → q + l.length ≤ many → l.length ≤ 500 → Rst h o s m st → mm ≤ st.2.2 → RN l k st = f0 → (∀ a0 a1 a2 a3 a4 a5 a6, wp_does_2 (wp_doesOne n) K row many P a0 a1 a2 a3 a4 a5 a6 → P a0 a1 a2 a3 a4 a5 a6) → (∀ h' o' s' e' m' c' st', Rst h' o' s' m' st' → ((e', st') : RFn) = f0 → K 0 h' o' s' e' m' c') → (∀ h' o' s' m' c' st', mm ≤ st'.2.2 → Rst h' o' s' m' st' → k st' = f0 → P (q + l.length) h' o' s' 0 m' c') → P q h o s 0 m c
theorem nt_of_f {b : Bool} (h : b = false) : ¬ b = true := by rw [h]; decide
section DX
variable {row : Int → Int} {many : Int}
theorem does_xof (hm : many ≤ 2400) {l : List Int} (hl : DX row many l) {n : Nat} {q : Int} {h o : Int → Int} {s m c : Int} {st : RSt} {k : RSt → RFn} {f0 : RFn} {mm : Nat} {K : Int → (Int → Int) → (Int → Int) → Int → Int → Int → Int → Prop} (hn : 2 * cs l + 1 ≤ n) (h40 : cs l ≤ 40) (ha : At row q l) (h0 : 0 ≤ q) (h1 : q + l.length ≤ many) (h2 : l.length ≤ 500) (h3 : Lst row many (q + l.length)) (hst : Rst h o s m st) (hmm : mm ≤ st.2.2) (hf : RN l k st = f0) (hk0 : ∀ h' o' s' e' m' c' st', Rst h' o' s' m' st' → ((e', st') : RFn) = f0 → K 0 h' o' s' e' m' c') (hk1 : ∀ h' o' s' m' c' st', mm ≤ st'.2.2 → Rst h' o' s' m' st' → k st' = f0 → K 1 h' o' s' 0 m' c') : wp_does n row many h o s 0 m c q K := by
  obtain ⟨n, rfl⟩ : ∃ k, n = k + 1 := ⟨n - 1, by omega⟩
  rw [wp_does_s]
  intro P hP
  exact hl n q h o s m c st k f0 mm P K (by omega) h40 ha h0 h1 h2 hst hmm hf hP hk0 (fun h' o' s' m' c' st' q1 q2 q3 => hP _ _ _ _ _ _ _ (isLast_yes (by omega) hm h3 (u1 (hk1 _ _ _ _ _ st' q1 q2 q3))))
theorem doesOne_x (hm : many ≤ 2400) {sl r : List Int} (hs : Sm (fun B => Sq B ∧ DX row many B) sl) (hr : Sq r) {n : Nat} {q : Int} {h o : Int → Int} {s m c : Int} {st : RSt} {k : RSt → RFn} {f0 : RFn} {K : Int → (Int → Int) → (Int → Int) → Int → Int → Int → Int → Prop} (hn : 2 * cs sl ≤ n) (h40 : cs sl ≤ 40) (ha : At row q sl) (h0 : 0 ≤ q) (h1 : q + sl.length ≤ many) (h2 : sl.length ≤ 500) (hst : Rst h o s m st) (hf : RN (sl ++ r) k st = f0) (hk0 : ∀ h' o' s' e' m' c' st', Rst h' o' s' m' st' → ((e', st') : RFn) = f0 → K 0 h' o' s' e' m' c') (hk1 : ∀ h' o' s' m' c' st', st.2.2 ≤ st'.2.2 → Rst h' o' s' m' st' → RN r k st' = f0 → K 1 h' o' s' 0 m' c') : wp_doesOne n row many h o s 0 m c q K := by
  have hcs := hs.csp
  have hpos := hs.pos
  have hst0 := hst
  obtain ⟨a1, a2, a3, a4, a5, a6⟩ := hst
  obtain ⟨n, rfl⟩ : ∃ k, n = k + 1 := ⟨n - 1, by omega⟩
  rw [wp_doesOne_s]
  refine step_x (fun hlt => u1 ⟨⟨by omega, by omega⟩, ?_⟩) (fun z => u0 (hk0 _ _ _ _ _ _ st hst0 ?_)) (by omega) (by omega)
  · have hlt2 : st.2.2 < 100 := by omega
    have ht := hst0.tk hlt
    have n1 : st.2.2 ≤ (tks st).2.2 := Nat.le_succ _
    rcases hs with ⟨v, ex, hv, he, rfl⟩ | rfl | ⟨t, a, b, B, C, htt, hA, hB, hb, hc, rfl⟩ | ⟨t, a, b, B, htt, hA, hB, hb, rfl⟩
    · have e1 : row q = v := ha.1
      rw [RN_set hv he hr, stp_lt hlt2] at hf
      have hf2 : RN r k (doS v (valE st.1 ex) (tks st)) = f0 := hf
      unfold setC at hv
      simp only [List.length_cons] at h1 h2
      refine ⟨fun _ => ⟨fun _ => ⟨fun _ => ⟨⟨by omega, by omega⟩, worthx5 he ha.2 (by omega) (by omega) (by omega) a1 ⟨fun z => ⟨⟨by omega, by omega⟩, ?_⟩, fun z => ⟨⟨by omega, by omega⟩, ⟨by omega, by omega⟩, ?_⟩⟩⟩, fun x => absurd x (by omega)⟩, fun x => absurd x (by omega)⟩, fun x => absurd x (by omega)⟩
      · have hn110 : ¬ v = 110 := fun q => z (e1.trans q)
        unfold doS at hf2
        rw [if_neg hn110] at hf2
        rw [e1]
        exact hk1 _ _ _ _ _ (uZ (tks st).1 (v - 100) (valE st.1 ex), (tks st).2) n1 ⟨agr6_upd a1, ht.2.1, ht.2.2.1, ht.2.2.2.1, ht.2.2.2.2.1, ht.2.2.2.2.2⟩ hf2
      · have h110 : v = 110 := e1.symm.trans z
        unfold doS at hf2
        rw [if_pos h110] at hf2
        refine hk1 _ _ _ _ _ ((tks st).1, (tks st).2.1 ++ [valE st.1 ex], (tks st).2.2) n1 ⟨a1, ?_, ?_, ht.2.2.2.1, ?_, ht.2.2.2.2.2⟩ hf2
        · have := At_snoc (c := valE st.1 ex) a2
          rw [Int.zero_add, ← a3] at this
          exact this
        · show m + 1 = ((st.2.1 ++ [valE st.1 ex]).length : Int)
          simp only [List.length_append, List.length_cons, List.length_nil]; omega
        · show (st.2.1 ++ [valE st.1 ex]).length ≤ st.2.2 + 1
          simp only [List.length_append, List.length_cons, List.length_nil]; omega
    · have e1 : row q = 111 := ha.1
      rw [RN_fail hr, stp_lt hlt2] at hf
      exact ⟨fun x => absurd e1 x, fun _ => hk0 _ _ _ _ _ _ (tks st) ht hf⟩
    · rw [cs_if htt hA hB] at hn h40
      rw [len_if] at h1 h2
      obtain ⟨r1, r2, r3, r4, r5, r6, r7, r8⟩ := At_if.mp ha
      have lb : Lst row many (q + 2 + a.length + b.length + B.length) := Or.inr ⟨by omega, Or.inl r6⟩
      rw [RN_if htt hA hB hb.1 hc.1 hr, stp_lt hlt2] at hf
      have hf2 : (if soS t a b (tks st) = true then RN B (RN r k) (tks st) else RN C (RN r k) (tks st)) = f0 := hf
      refine ⟨fun _ => ⟨fun x => absurd r1 x, fun _ => ?_⟩, fun x => absurd x (by omega)⟩
      refine body_ok hA hB h0 r3 r4 (by omega) (by omega) (by omega) (isSo_x (st := tks st) hA hB h0 r2 r3 r4 (by omega) (by omega) (by omega) a1 (fun z c1 => ⟨fun x => absurd x (by decide), fun _ => ?_⟩) (fun z c1 => ⟨fun _ => ?_, fun x => absurd rfl x⟩))
      · rw [if_pos z] at hf2
        exact does_xof hm hb.2 (by omega) (by omega) r5 (by omega) (by omega) (by omega) lb ht (Nat.le_refl _) hf2 (fun h' o' s' e' m' c' st' q1 q2 => ⟨Or.inl rfl, hk0 _ _ _ _ _ _ st' q1 q2⟩) (fun h' o' s' m' c' st' q0 q1 q2 => ⟨Or.inr rfl, hk1 _ _ _ _ _ st' (Nat.le_trans n1 q0) q1 q2⟩)
      · rw [if_neg (nt_of_f z)] at hf2
        refine close_ok hm hb.1 _ _ (by omega) r5 (by omega) (by omega) (by omega) lb ⟨⟨by omega, by omega⟩, fun x => absurd x (by omega), fun _ => ⟨⟨by omega, by omega⟩, ?_⟩⟩
        exact does_xof hm hc.2 (by omega) (by omega) r7 (by omega) (by omega) (by omega) (Or.inr ⟨by omega, Or.inr r8⟩) ht (Nat.le_refl _) hf2 (fun h' o' s' e' m' c' st' q1 q2 => ⟨fun _ => hk0 _ _ _ _ _ _ st' q1 q2, fun x => absurd rfl x⟩) (fun h' o' s' m' c' st' q0 q1 q2 => ⟨fun x => absurd x (by decide), fun _ => hk1 _ _ _ _ _ st' (Nat.le_trans n1 q0) q1 q2⟩)
    · rw [cs_wh htt hA hB] at hn h40
      rw [len_wh] at h1 h2
      obtain ⟨r1, r2, r3, r4, r5, r6⟩ := At_wh.mp ha
      have lb : Lst row many (q + 2 + a.length + b.length + B.length) := Or.inr ⟨by omega, Or.inr r6⟩
      rw [RN_wh htt hA hB hb.1 hr, show (101 : Nat) = 100 + 1 from rfl, WH_s, stp_lt hlt2] at hf
      have hf2 : (if soS t a b (tks st) = true then RN B (WH (soS t a b) (RN B) (RN r k) 100) (tks st) else RN r k (tks st)) = f0 := hf
      have tn : (tks st).2.2 = st.2.2 + 1 := rfl
      refine ⟨fun _ => ⟨fun _ => ⟨fun x => absurd r1 x, fun _ => ?_⟩, fun x => absurd x (by omega)⟩, fun x => absurd x (by omega)⟩
      refine wl6_rule (fun h' o' (s' : Int) (e' : Int) (m' : Int) _ => e' = 0 ∧ ∃ (st' : RSt) (j : Nat), Rst h' o' s' m' st' ∧ st.2.2 ≤ st'.2.2 ∧ 101 ≤ j + st'.2.2 ∧ (if soS t a b st' = true then RN B (WH (soS t a b) (RN B) (RN r k) j) st' else RN r k st') = f0) (fun _ _ (s' : Int) _ _ _ => (100 - s').toNat) ?_ ⟨rfl, tks st, 100, ht, n1, by omega, hf2⟩
      rintro P h' o' s' e' m' c' ⟨rfl, st', j, k1, k2, k3, k4⟩ ih
      have b1 := k1.2.2.2.1
      refine isSo_x (st := st') hA hB h0 r2 r3 r4 (by omega) (by omega) (by omega) k1.1 (fun z c1 => ⟨fun x => absurd x (by decide), fun _ => ?_⟩) (fun z c1 => ⟨fun _ => ?_, fun x => absurd rfl x⟩)
      · rw [if_pos z] at k4
        refine body_ok hA hB h0 r3 r4 (by omega) (by omega) (by omega) (does_xof hm hb.2 (by omega) (by omega) r5 (by omega) (by omega) (by omega) lb k1 (Nat.le_refl _) k4 (fun h2 o2 s2 e2 m2 c2 st2 q1 q2 => ⟨fun _ => hk0 _ _ _ _ _ _ st2 q1 q2, fun x => absurd rfl x⟩) (fun h2 o2 s2 m2 c2 st2 q0 q1 q2 => ⟨fun x => absurd x (by decide), fun _ => ?_⟩))
        have b2 := q1.2.2.2.1
        have b3 := q1.2.2.2.2.2
        obtain ⟨j, rfl⟩ : ∃ i, j = i + 1 := ⟨j - 1, by omega⟩
        rw [WH_s] at q2
        refine step_x (fun hlt3 => u1 ?_) (fun z3 => u0 (hk0 _ _ _ _ _ _ st2 q1 ?_)) (by omega) (by omega)
        · rw [stp_lt (by omega)] at q2
          exact ih _ _ _ _ _ _ ⟨rfl, tks st2, j, q1.tk hlt3, by show st.2.2 ≤ st2.2.2 + 1; omega, by show 101 ≤ j + (st2.2.2 + 1); omega, q2⟩ (by omega)
        · rw [stp_100 (by omega)] at q2
          exact q2
      · rw [if_neg (nt_of_f z)] at k4
        exact hk1 _ _ _ _ _ st' k2 k1 k4
  · rw [← hf]
    exact (RN_100 (hs.mono (fun _ h => h.1)) hr (by omega)).symm
theorem DX_all (hm : many ≤ 2400) : ∀ {l : List Int}, Sq l → DX row many l := by
  intro l hl
  refine Sq.ind (P := DX row many) ?_ ?_ hl
  · intro n q h o s m c st k f0 mm P K _ _ _ _ _ _ hst hmm hf hP _ hend
    rw [RN_nil] at hf
    have := hend h o s m c st hmm hst hf
    simpa using this
  · intro sl r hs hr ih n q h o s m c st k f0 mm P K hn h40 ha h0 h1 h2 hst hmm hf hP hk0 hend
    rw [cs_app] at hn h40
    rw [List.length_append] at h1 h2 hend
    obtain ⟨a1, a2⟩ := At_app.mp ha
    have hp := hs.pos
    refine hP _ _ _ _ _ _ _ (isLast_no h0 (by omega) hm (hs.at0 a1) (u0 ?_))
    refine doesOne_x hm hs hr (by omega) (by omega) a1 h0 (by omega) (by omega) hst hf (fun h' o' s' e' m' c' st' q1 q2 => ⟨fun x => absurd rfl x, fun _ => hk0 _ _ _ _ _ _ st' q1 q2⟩) (fun h' o' s' m' c' st' q0 q1 q2 => ⟨fun _ => ?_, fun x => absurd x (by decide)⟩)
    refine behind_ok (hs.mono (fun _ h => h.1)) (by omega) a1 h0 (by omega) (by omega) ?_
    refine ih n _ h' o' s' m' c' st' k f0 mm P K (by omega) (by omega) a2 (by omega) (by omega) (by omega) q1 (Nat.le_trans hmm q0) q2 hP hk0 (fun h3 o3 s3 m3 c3 st3 w1 w2 w3 => ?_)
    rw [show q + (sl.length : Int) + r.length = q + ((sl.length + r.length : Nat) : Int) by omega]
    exact hend _ _ _ _ _ st3 w1 w2 w3
theorem runs_x {l : List Int} (hw : WF row many l) {h o : Int → Int} {s e m c x y : Int} {K : (Int → Int) → (Int → Int) → Int → Int → Int → Int → Prop} (hK : ∀ h' o' s' e' m' c', Rst h' o' s' m' (rnF l x y).2 → e' = (rnF l x y).1 → K h' o' s' e' m' c') : wp_runs row many h o s e m c x y K := by
  have hl := hw.len
  obtain ⟨h1, h2, h3, h4, h5⟩ := hw
  refine wl2_rule (fun (i : Int) (g : Int → Int) => (0 ≤ i ∧ i ≤ 6) ∧ ∀ v : Int, 0 ≤ v → v < i → g v = (st0 x y).1 v) (fun (i : Int) _ => (6 - i).toNat) ?_ ⟨by omega, fun v v0 v1 => by omega⟩
  rintro P i g ⟨hi, hv⟩ ih
  have step : i < 6 → ∀ z : Int, z = (st0 x y).1 i → rng (i + 1) ∧ P (i + 1) (uZ g i z) := by
    intro hi6 z ez
    refine ⟨⟨by omega, by omega⟩, ih _ _ ⟨by omega, fun v v0 v1 => ?_⟩ (by omega)⟩
    unfold uZ
    by_cases q : v = i
    · rw [if_pos q, q]; exact ez
    · rw [if_neg q]; exact hv v v0 (by omega)
  refine ⟨fun h6 => ?_, fun hlt => ⟨fun z0 => ⟨fun z1 => ⟨⟨by omega, by omega⟩, step hlt 0 ?_⟩, fun z1 => ⟨⟨by omega, by omega⟩, step hlt y ?_⟩⟩, fun z0 => ⟨⟨by omega, by omega⟩, step hlt x ?_⟩⟩⟩
  · have fin : ∀ (h' o' : Int → Int) (s' e' m' c' : Int) (st' : RSt), Rst h' o' s' m' st' → ((e', st') : RFn) = rnF l x y → K h' o' s' e' m' c' := fun h' o' s' e' m' c' st' q1 q2 => hK _ _ _ _ _ _ (by rw [← q2]; exact q1) (congrArg Prod.fst q2)
    exact does_xof (by omega) (DX_all (by omega) h1) (k := fun s => (0, s)) (f0 := rnF l x y) (mm := 0) (st := st0 x y) (by omega) h4 h2 (by omega) (by omega) (by omega) (Or.inl (by omega)) ⟨fun v v0 v1 => hv v v0 (by omega), trivial, rfl, rfl, Nat.le_refl _, Nat.zero_le _⟩ (Nat.zero_le _) rfl (fun h' o' s' e' m' c' st' q1 q2 => fin _ _ _ _ _ _ st' q1 q2) (fun h' o' s' m' c' st' _ q1 q2 => fin _ _ _ _ _ _ st' q1 q2)
  · show 0 = if i = 0 then x else if i = 1 then y else 0
    rw [if_neg z0, if_neg z1]
  · show y = if i = 0 then x else if i = 1 then y else 0
    rw [if_neg z0, if_pos z1]
  · show x = if i = 0 then x else if i = 1 then y else 0
    rw [if_pos z0]
end DX
