-- ===== registers
theorem clashAll_ok {c : Int → Int} {x : Int} {K : (Int → Int) → Prop} (hK : ∀ d, K d) : wp_clashAll c x K := by
  refine wl2_rule (fun (i : Int) (_ : Int → Int) => 0 ≤ i) (fun (i : Int) _ => (6 - i).toNat) ?_ (Int.le_refl 0)
  rintro P i d hi ih
  exact ⟨fun _ => hK d, fun h => ⟨fun _ => ⟨⟨by omega, by omega⟩, ih _ _ (by omega) (by omega)⟩, fun _ => ⟨⟨by omega, by omega⟩, ⟨by omega, by omega⟩, ⟨by omega, by omega⟩, ih _ _ (by omega) (by omega)⟩⟩⟩
theorem clashSet_ok {c : Int → Int} {v x : Int} (v0 : 0 ≤ v) (v5 : v ≤ 5) {K : (Int → Int) → Prop} (hK : ∀ d, K d) : wp_clashSet c v x K := by
  refine ⟨⟨by omega, by omega⟩, ⟨by omega, by omega⟩, wl2_rule (fun (i : Int) (_ : Int → Int) => 0 ≤ i) (fun (i : Int) _ => (6 - i).toNat) ?_ (Int.le_refl 0)⟩
  rintro P i d hi ih
  exact ⟨fun _ => hK d, fun h => ⟨fun _ => ⟨⟨by omega, by omega⟩, ih _ _ (by omega) (by omega)⟩, fun _ => ⟨fun _ => ⟨⟨by omega, by omega⟩, ih _ _ (by omega) (by omega)⟩, fun _ => ⟨⟨by omega, by omega⟩, ⟨by omega, by omega⟩, ⟨by omega, by omega⟩, ih _ _ (by omega) (by omega)⟩⟩⟩⟩
theorem wp_clashFrom_s {n : Nat} : wp_clashFrom (n + 1) = wp_clashFrom_b (wp_clashFrom n) := rfl
def KW (row : Int → Int) (many : Int) (l : List Int) : Prop := ∀ (n : Nat) (q out : Int) (c : Int → Int) (P : Int → (Int → Int) → Prop) (K : (Int → Int) → Prop), cs l ≤ n → cs l ≤ 40 → At row q l → 0 ≤ q → q + l.length ≤ many → l.length ≤ 500 → Lst row many (q + l.length) → 0 ≤ out → out ≤ 63 → (∀ a b, wp_clashFrom_2 (wp_clashFrom n) K row many out P a b → P a b) → (∀ c', P (q + l.length) c') → P q c
theorem clashFrom_of {row : Int → Int} {many : Int} (hm : many ≤ 2400) {l : List Int} (hl : KW row many l) {n : Nat} {q out : Int} {c : Int → Int} {K : (Int → Int) → Prop} (hn : cs l + 1 ≤ n) (h40 : cs l ≤ 40) (ha : At row q l) (h0 : 0 ≤ q) (h1 : q + l.length ≤ many) (h2 : l.length ≤ 500) (h3 : Lst row many (q + l.length)) (o0 : 0 ≤ out) (o1 : out ≤ 63) (hK : ∀ c', K c') : wp_clashFrom n row many c q out K := by
  obtain ⟨n, rfl⟩ : ∃ k, n = k + 1 := ⟨n - 1, by omega⟩
  rw [wp_clashFrom_s]
  intro P hP
  exact hl n q out c P K (by omega) h40 ha h0 h1 h2 h3 o0 o1 hP (fun c' => hP _ _ (isLast_yes (by omega) hm h3 (u1 (hK c'))))
theorem KW_all {row : Int → Int} {many : Int} (hm : many ≤ 2400) : ∀ {l : List Int}, Sq l → KW row many l := by
  intro l hl
  refine Sq.ind (P := KW row many) ?_ ?_ hl
  · intro n q out c P K _ _ _ _ _ _ _ _ _ _ h
    have := h c
    simpa using this
  · intro st r hs hr ih n q out c P K hn h40 ha h0 h1 h2 h3 o0 o1 hP h
    rw [cs_app] at hn h40
    rw [List.length_append] at h1 h2 h3 h
    obtain ⟨a1, a2⟩ := At_app.mp ha
    have hp := hs.pos
    have hcs := hs.csp
    have hat := hs.at0 a1
    have hss : Sm Sq st := hs.mono (fun _ h => h.1)
    have e : q + ((st.length + r.length : Nat) : Int) = q + (st.length : Int) + r.length := by omega
    rw [e] at h3 h
    have hbe := @behind_ok row st hss q
    obtain ⟨af, af0, af1, haf⟩ := liveFrom_ok hm hr (q := q + st.length) (out := out) (by omega) a2 (by omega) (by omega) (by omega) h3 o0 o1
    obtain ⟨lv, lv0, lv1, hlv⟩ := liveAt_ok hm hss (q := q) (out := af) (by omega) a1 h0 (by omega) (by omega) af0 af1
    have tail : ∀ x : Int → Int, wp_clashFrom_141 row q P x := fun x => hbe (by omega) a1 h0 (by omega) (by omega) (ih n _ out x P K (by omega) (by omega) a2 (by omega) (by omega) (by omega) h3 o0 o1 hP h)
    have b87 : ∀ x : Int → Int, wp_clashFrom_87 (wp_clashFrom n) row many q af P x := by
      intro x
      refine ⟨fun hc => ?_, fun _ => tail x⟩
      rcases hs with ⟨v, ex, hv, he, rfl⟩ | rfl | ⟨t, a, b, B, C, ht, hA, hB, hb, hcc, rfl⟩ | ⟨t, a, b, B, ht, hA, hB, hb, rfl⟩
      · have : row q = v := a1.1
        unfold setC at hv; omega
      · have : row q = 111 := a1.1
        omega
      · have hl := len_if (t := t) (a := a) (b := b) (B := B) (C := C)
        rw [cs_if ht hA hB] at hn h40
        obtain ⟨r1, r2, r3, r4, r5, r6, r7, r8⟩ := At_if.mp a1
        have lb : Lst row many (q + 2 + a.length + b.length + B.length) := Or.inr ⟨by omega, Or.inl r6⟩
        refine body_ok hA hB h0 r3 r4 (by omega) (by omega) (by omega) (close_ok hm hb.1 _ _ (by omega) r5 (by omega) (by omega) (by omega) lb (body_ok hA hB h0 r3 r4 (by omega) (by omega) (by omega) ?_))
        refine clashFrom_of hm hb.2 (by omega) (by omega) r5 (by omega) (by omega) (by omega) lb af0 af1 (fun c1 => ⟨⟨by omega, by omega⟩, fun z => absurd r6 z, fun _ => ⟨⟨by omega, by omega⟩, ?_⟩⟩)
        exact clashFrom_of hm hcc.2 (by omega) (by omega) r7 (by omega) (by omega) (by omega) (Or.inr ⟨by omega, Or.inr r8⟩) af0 af1 (fun c2 => tail c2)
      · obtain ⟨r1, r2, r3, r4, r5, r6⟩ := At_wh.mp a1
        omega
    have b64 : ∀ x : Int → Int, wp_clashFrom_64 (wp_clashFrom n) row many q af P x := by
      intro x
      refine ⟨fun _ => b87 x, fun hc => ?_⟩
      rcases hs with ⟨v, ex, hv, he, rfl⟩ | rfl | ⟨t, a, b, B, C, ht, hA, hB, hb, hcc, rfl⟩ | ⟨t, a, b, B, ht, hA, hB, hb, rfl⟩
      · have : row q = v := a1.1
        unfold setC at hv; omega
      · have : row q = 111 := a1.1
        omega
      · obtain ⟨r1, r2, r3, r4, r5, r6, r7, r8⟩ := At_if.mp a1
        omega
      · have hl := len_wh (t := t) (a := a) (b := b) (B := B)
        rw [cs_wh ht hA hB] at hn h40
        obtain ⟨r1, r2, r3, r4, r5, r6⟩ := At_wh.mp a1
        have lb : Lst row many (q + 2 + a.length + b.length + B.length) := Or.inr ⟨by omega, Or.inr r6⟩
        exact body_ok hA hB h0 r3 r4 (by omega) (by omega) (by omega) (hlv _ (clashFrom_of hm hb.2 (by omega) (by omega) r5 (by omega) (by omega) (by omega) lb lv0 lv1 (fun c1 => b87 c1)))
    refine hP _ _ (isLast_no h0 (by omega) hm hat (u0 (hbe (by omega) a1 h0 (by omega) (by omega) (haf _ ⟨⟨by omega, by omega⟩, hlv _ (clashAll_ok (fun d => isIn_c (fun x y => t1 ⟨⟨by omega, by omega⟩, clashSet_ok (by omega) (by omega) (fun d2 => b64 d2)⟩) (fun _ => t0 (b64 d))))⟩))))
theorem clashIn_ok {slot slotLong row c : Int → Int} {many s : Int} (hS : SW slot slotLong) (s0 : 0 ≤ s) (s5 : s ≤ 5) {K : (Int → Int) → Int → (Int → Int) → Prop} (hK : ∀ r (l : List Int) c', WF r l.length l → K r l.length c') : wp_clashIn slot slotLong row many c s K := by
  refine takesW hS s0 s5 (fun r l hw => ?_)
  have hl := hw.len
  refine wl2_rule (fun (i : Int) (_ : Int → Int) => 0 ≤ i) (fun (i : Int) _ => (6 - i).toNat) ?_ (Int.le_refl 0)
  rintro P i d hi ih
  exact ⟨fun _ => clashFrom_of (by omega) (KW_all (by omega) hw.1) (by have := hw.2.2.2.1; omega) hw.2.2.2.1 hw.2.1 (by omega) (by omega) (by omega) (Or.inl (by omega)) (by omega) (by omega) (fun c' => hK r l c' hw), fun h => ⟨⟨by omega, by omega⟩, ⟨by omega, by omega⟩, ih _ _ (by omega) (by omega)⟩⟩
theorem ziand1 (x : Int) : ziand x 1 = 0 ∨ ziand x 1 = 1 := by
  unfold ziand
  have h1 : (zI x &&& zI 1).toBitVec = (zI x).toBitVec &&& 1#32 := rfl
  have h2 : ((zI x).toBitVec &&& 1#32).toNat ≤ 1 := by
    rw [BitVec.toNat_and]; exact Nat.and_le_right
  have h3 : (zI x &&& zI 1).toInt = (((zI x).toBitVec &&& 1#32).toNat : Int) := by
    show (zI x &&& zI 1).toBitVec.toInt = _
    rw [h1]
    exact BitVec.toInt_eq_toNat_of_lt (by omega)
  omega
theorem zdm {x y : Int} (h0 : 0 ≤ x) (h1 : x < 2147483648) (y0 : 0 < y) (y1 : y < 2147483648) : zidiv x y = x / y ∧ zirem x y = x % y := by
  have gx : rng x := ⟨by omega, h1⟩
  have gy : rng y := ⟨by omega, y1⟩
  have hq0 : 0 ≤ x / y := Int.ediv_nonneg h0 (by omega)
  have hq1 : x / y ≤ x := Int.ediv_le_self _ h0
  have e1 : zI x / zI y = zI (x / y) := by
    apply Int32.toInt_inj.mp
    rw [Int32.toInt_div_of_ne_right _ _ (fun q => ?_), zI_toInt gx, zI_toInt gy, zI_toInt ⟨by omega, by omega⟩, Int.tdiv_eq_ediv_of_nonneg h0]
    have := congrArg Int32.toInt q
    rw [zI_toInt gy] at this
    have z : (-1 : Int32).toInt = -1 := by decide
    omega
  have e2 : x - x / y * y = x % y := by rw [Int.emod_def, Int.mul_comm y]
  have hm0 : 0 ≤ x % y := Int.emod_nonneg _ (by omega)
  have hm1 : x % y < y := Int.emod_lt_of_pos _ y0
  refine ⟨?_, ?_⟩
  · unfold zidiv
    rw [e1, zI_toInt ⟨by omega, by omega⟩]
  · unfold zirem
    rw [e1, zI_imul, zI_isub, e2, zI_toInt ⟨by omega, by omega⟩]
/-- bit v of a set -/
def bt (s v : Int) : Int := ziand (zishr s v) 1
theorem bt01 (s v : Int) : bt s v = 0 ∨ bt s v = 1 := ziand1 _
theorem deals_ok {c d : Int → Int} {s k : Int} (k0 : 0 ≤ k) (k6 : k ≤ 6) {K : Int → (Int → Int) → Prop} (hK : ∀ r d', (r = 0 ∨ r = 1) → K r d') : wp_deals c d s k K := by
  refine wl2_rule (fun (a v : Int) => 0 ≤ a ∧ 0 ≤ v ∧ ((v = 0 ∧ a ≤ 1) ∨ (v = 1 ∧ a ≤ 6) ∨ (v = 2 ∧ a ≤ 36) ∨ (v = 3 ∧ a ≤ 216) ∨ (v = 4 ∧ a ≤ 1296) ∨ (v = 5 ∧ a ≤ 7776) ∨ (v = 6 ∧ a ≤ 46656)) ∧ (a = 0 ∨ k ≠ 0 ∨ ∀ j : Int, 0 ≤ j → j < v → bt s j = 0)) (fun (_ v : Int) => (6 - v).toNat) ?_ ⟨by omega, by omega, by omega, Or.inr (Or.inr (fun j h0 h1 => absurd h1 (by omega)))⟩
  rintro P a v ⟨a0, v0, hv, hb⟩ ih
  refine ⟨fun hv6 => ?_, fun hlt => ⟨fun hz => ?_, fun hz => ?_⟩⟩
  · -- the dealings one by one
    have a1 : a ≤ 46656 := by omega
    refine wl2_rule (fun (w : Int) (_ : Int → Int) => 0 ≤ w) (fun (w : Int) _ => (a - w).toNat) ?_ (Int.le_refl 0)
    rintro P2 w d2 w0 ih2
    refine ⟨fun _ => hK 0 _ (Or.inl rfl), fun hlt => ?_⟩
    have hbz : k ≠ 0 ∨ ∀ j : Int, 0 ≤ j → j < 6 → bt s j = 0 := by
      rcases hb with h | h | h
      · omega
      · exact Or.inl h
      · exact Or.inr (fun j j0 j1 => h j j0 (by omega))
    refine wl3_rule (fun (_ : Int) (i : Int) (_ : Int → Int) => -1 ≤ i ∧ i ≤ 5) (fun (_ : Int) (i : Int) _ => (i + 1).toNat) ?_ ⟨by omega, by omega⟩
    rintro P3 x i d3 ⟨i0, i1⟩ ih3
    refine ⟨fun hneg => ?_, fun hpos => ⟨⟨by omega, by omega⟩, fun hbit => ?_, fun _ => ⟨⟨by omega, by omega⟩, ih3 _ _ _ ⟨by omega, by omega⟩ (by omega)⟩⟩⟩
    · refine wl2_rule (fun (g v : Int) => (g = 0 ∨ g = 1) ∧ 0 ≤ v) (fun (_ v : Int) => (6 - v).toNat) ?_ ⟨Or.inr rfl, Int.le_refl 0⟩
      rintro P4 g v ⟨hg, hv0⟩ ih4
      refine ⟨fun _ => ⟨fun _ => ⟨⟨by omega, by omega⟩, ih2 _ _ (by omega) (by omega)⟩, fun _ => hK 1 _ (Or.inr rfl)⟩, fun hlt4 => ?_⟩
      refine wl2_rule (fun (g u : Int) => (g = 0 ∨ g = 1) ∧ 0 ≤ u) (fun (_ u : Int) => (v - u).toNat) ?_ ⟨hg, Int.le_refl 0⟩
      rintro P5 g u ⟨hg, hu0⟩ ih5
      exact ⟨fun _ => ⟨⟨by omega, by omega⟩, ih4 _ _ ⟨hg, by omega⟩ (by omega)⟩, fun hlt5 => ⟨fun _ => ⟨⟨by omega, by omega⟩, ih5 _ _ ⟨Or.inl rfl, by omega⟩ (by omega)⟩, fun _ => ⟨⟨by omega, by omega⟩, fun _ => ⟨⟨by omega, by omega⟩, ih5 _ _ ⟨Or.inr rfl, by omega⟩ (by omega)⟩, fun _ => ⟨⟨by omega, by omega⟩, ⟨by omega, by omega⟩, fun _ => ⟨⟨by omega, by omega⟩, ih5 _ _ ⟨Or.inr rfl, by omega⟩ (by omega)⟩, fun _ => ⟨⟨by omega, by omega⟩, fun _ => ⟨⟨by omega, by omega⟩, ih5 _ _ ⟨Or.inl rfl, by omega⟩ (by omega)⟩, fun _ => ⟨⟨by omega, by omega⟩, ih5 _ _ ⟨Or.inr rfl, by omega⟩ (by omega)⟩⟩⟩⟩⟩⟩
    · have hk : k ≠ 0 := by
        rcases hbz with h | h
        · exact h
        · exact absurd (h i hpos (by omega)) hbit
      exact ⟨hk, ⟨by omega, by omega⟩, fun _ _ => ⟨hk, ⟨by omega, by omega⟩, ih3 _ _ _ ⟨by omega, by omega⟩ (by omega)⟩⟩
  · have hbz : bt s v = 0 := (bt01 s v).resolve_right hz
    rw [Int.mul_one]
    refine ⟨⟨by omega, by omega⟩, ⟨by omega, by omega⟩, ih _ _ ⟨a0, by omega, by omega, ?_⟩ (by omega)⟩
    rcases hb with h | h | h
    · exact Or.inl h
    · exact Or.inr (Or.inl h)
    · refine Or.inr (Or.inr (fun j j0 j1 => ?_))
      by_cases hj : j = v
      · rw [hj]; exact hbz
      · exact h j j0 (by omega)
  · have hk : k = 0 ∨ k = 1 ∨ k = 2 ∨ k = 3 ∨ k = 4 ∨ k = 5 ∨ k = 6 := by omega
    have hm : 0 ≤ a * k ∧ a * k ≤ 6 * a := by rcases hk with rfl | rfl | rfl | rfl | rfl | rfl | rfl <;> omega
    have hz0 : a * k = 0 ∨ k ≠ 0 := by rcases hk with rfl | h <;> omega
    refine ⟨⟨by omega, by omega⟩, ⟨by omega, by omega⟩, ih _ _ ⟨hm.1, by omega, by omega, ?_⟩ (by omega)⟩
    rcases hz0 with h | h
    · exact Or.inl h
    · exact Or.inr (Or.inl h)
/-- the dealing of v to v, as a word of six -/
def wd (s : Int) : Nat → Int
  | 0 => 0
  | v + 1 => if bt s v = 0 then wd s v else 6 * wd s v + v
def al (s : Int) : Nat → Int
  | 0 => 1
  | v + 1 => if bt s v = 0 then al s v else al s v * 6
theorem wd_lt (s : Int) : ∀ v : Nat, v ≤ 6 → 0 ≤ wd s v ∧ wd s v < al s v := by
  intro v
  induction v with
  | zero => intro _; exact ⟨by show (0 : Int) ≤ 0; decide, by show (0 : Int) < 1; decide⟩
  | succ v ih =>
    intro hv
    have := ih (by omega)
    unfold wd al
    by_cases h : bt s v = 0
    · rw [if_pos h, if_pos h]; exact this
    · rw [if_neg h, if_neg h]; omega
theorem al_le (s : Int) : ∀ v : Nat, 1 ≤ al s v ∧ al s v ≤ 6 ^ v := by
  intro v
  induction v with
  | zero => exact ⟨by show (1 : Int) ≤ 1; decide, by show (1 : Int) ≤ 6 ^ 0; decide⟩
  | succ v ih =>
    unfold al
    rw [Int.pow_succ]
    by_cases h : bt s v = 0
    · rw [if_pos h]; omega
    · rw [if_neg h]; omega
theorem deals6 {c d : Int → Int} {s : Int} {K : Int → (Int → Int) → Prop} (hK : ∀ d', K 1 d') : wp_deals c d s 6 K := by
  have hal6 : al s 6 ≤ 46656 := by have := (al_le s 6).2; simpa using this
  refine wl2_rule (fun (a v : Int) => 0 ≤ v ∧ v ≤ 6 ∧ a = al s v.toNat) (fun (_ v : Int) => (6 - v).toNat) ?_ ⟨by omega, by omega, rfl⟩
  rintro P a v ⟨v0, v6, ea⟩ ih
  have hle := al_le s v.toNat
  have hpw : (6 : Int) ^ v.toNat ≤ 46656 := by
    have : v.toNat = 0 ∨ v.toNat = 1 ∨ v.toNat = 2 ∨ v.toNat = 3 ∨ v.toNat = 4 ∨ v.toNat = 5 ∨ v.toNat = 6 := by omega
    rcases this with h | h | h | h | h | h | h <;> rw [h] <;> decide
  have ev : ((v.toNat : Nat) : Int) = v := by omega
  refine ⟨fun hv6 => ?_, fun hlt => ⟨fun hz => ?_, fun hz => ?_⟩⟩
  · have hv : v = 6 := by omega
    subst hv
    have hwd := wd_lt s 6 (by omega)
    have ea' : a = al s 6 := ea
    refine wl2_rule (fun (w : Int) (_ : Int → Int) => 0 ≤ w ∧ w ≤ wd s 6) (fun (w : Int) _ => (a - w).toNat) ?_ ⟨by omega, by omega⟩
    rintro P2 w d2 ⟨w0, w1⟩ ih2
    refine ⟨fun h => by omega, fun hlt => ?_⟩
    by_cases hw : w = wd s 6
    · -- here every one has its own
      subst hw
      refine wl3_rule (fun (x : Int) (i : Int) (d3 : Int → Int) => -1 ≤ i ∧ i ≤ 5 ∧ x = wd s (i + 1).toNat ∧ ∀ j : Int, i < j → j ≤ 5 → d3 j = (if bt s j = 0 then -1 else j)) (fun (_ : Int) (i : Int) _ => (i + 1).toNat) ?_ ⟨by omega, by omega, rfl, fun j j0 j1 => absurd j0 (by omega)⟩
      rintro P3 x i d3 ⟨i0, i1, ex, hd⟩ ih3
      have hxb := wd_lt s (i + 1).toNat (by omega)
      have hxl := al_le s (i + 1).toNat
      have hxp : (6 : Int) ^ (i + 1).toNat ≤ 46656 := by
        have : (i + 1).toNat = 0 ∨ (i + 1).toNat = 1 ∨ (i + 1).toNat = 2 ∨ (i + 1).toNat = 3 ∨ (i + 1).toNat = 4 ∨ (i + 1).toNat = 5 ∨ (i + 1).toNat = 6 := by omega
        rcases this with h | h | h | h | h | h | h <;> rw [h] <;> decide
      refine ⟨fun hneg => ?_, fun hpos => ⟨⟨by omega, by omega⟩, fun hbit => ?_, fun hbit => ?_⟩⟩
      · have hi : i = -1 := by omega
        subst hi
        refine wl2_rule (fun (g v : Int) => g = 1 ∧ 0 ≤ v) (fun (_ v : Int) => (6 - v).toNat) ?_ ⟨rfl, Int.le_refl 0⟩
        rintro P4 g v ⟨rfl, hv0⟩ ih4
        refine ⟨fun _ => ⟨fun q => absurd q (by decide), fun _ => hK _⟩, fun hlt4 => ?_⟩
        refine wl2_rule (fun (g u : Int) => g = 1 ∧ 0 ≤ u) (fun (_ u : Int) => (v - u).toNat) ?_ ⟨rfl, Int.le_refl 0⟩
        rintro P5 g u ⟨rfl, hu0⟩ ih5
        refine ⟨fun _ => ⟨⟨by omega, by omega⟩, ih4 _ _ ⟨rfl, by omega⟩ (by omega)⟩, fun hlt5 => ⟨fun q => absurd q (by decide), fun _ => ⟨⟨by omega, by omega⟩, fun _ => ⟨⟨by omega, by omega⟩, ih5 _ _ ⟨rfl, by omega⟩ (by omega)⟩, fun hne => ⟨⟨by omega, by omega⟩, ⟨by omega, by omega⟩, fun _ => ⟨⟨by omega, by omega⟩, ih5 _ _ ⟨rfl, by omega⟩ (by omega)⟩, fun heq => ?_⟩⟩⟩⟩
        exfalso
        have h1 := hd v (by omega) (by omega)
        have h2 := hd u (by omega) (by omega)
        by_cases c1 : bt s v = 0
        · rw [if_pos c1] at h1; exact hne h1
        · rw [if_neg c1] at h1
          by_cases c2 : bt s u = 0
          · rw [if_pos c2] at h2; omega
          · rw [if_neg c2] at h2; omega
      · have hb : ¬ bt s i = 0 := hbit
        have e1 : x = 6 * wd s i.toNat + i := by
          rw [ex, show (i + 1).toNat = i.toNat + 1 by omega]
          show (if bt s (i.toNat : Int) = 0 then _ else _) = _
          rw [show ((i.toNat : Nat) : Int) = i by omega, if_neg hb]
        have hm := zdm (x := x) (y := 6) (by omega) (by omega) (by omega) (by omega)
        refine ⟨by decide, ⟨by omega, by omega⟩, fun f hf => ⟨by decide, ⟨by omega, by omega⟩, ih3 _ _ _ ⟨by omega, by omega, ?_, fun j j0 j1 => ?_⟩ (by omega)⟩⟩
        · rw [hm.1, show (i - 1 + 1).toNat = i.toNat by omega]; omega
        · rw [hf]
          by_cases hj : j = i
          · rw [hj, show uZ (uZ d3 i (-1)) i (zirem x 6) i = zirem x 6 from if_pos rfl, if_neg hb, hm.2]; omega
          · rw [show uZ (uZ d3 i (-1)) i (zirem x 6) j = uZ d3 i (-1) j from if_neg hj, show uZ d3 i (-1) j = d3 j from if_neg hj]
            exact hd j (by omega) j1
      · have hb : bt s i = 0 := hbit
        refine ⟨⟨by omega, by omega⟩, ih3 _ _ _ ⟨by omega, by omega, ?_, fun j j0 j1 => ?_⟩ (by omega)⟩
        · rw [ex, show (i + 1).toNat = i.toNat + 1 by omega, show (i - 1 + 1).toNat = i.toNat by omega]
          show (if bt s (i.toNat : Int) = 0 then _ else _) = _
          rw [show ((i.toNat : Nat) : Int) = i by omega, if_pos hb]
        · by_cases hj : j = i
          · rw [hj, show uZ d3 i (-1) i = -1 from if_pos rfl, if_pos hb]
          · rw [show uZ d3 i (-1) j = d3 j from if_neg hj]
            exact hd j (by omega) j1
    · refine wl3_rule (fun (_ : Int) (i : Int) (_ : Int → Int) => -1 ≤ i ∧ i ≤ 5) (fun (_ : Int) (i : Int) _ => (i + 1).toNat) ?_ ⟨by omega, by omega⟩
      rintro P3 x i d3 ⟨i0, i1⟩ ih3
      refine ⟨fun hneg => ?_, fun hpos => ⟨⟨by omega, by omega⟩, fun hbit => ⟨by decide, ⟨by omega, by omega⟩, fun _ _ => ⟨by decide, ⟨by omega, by omega⟩, ih3 _ _ _ ⟨by omega, by omega⟩ (by omega)⟩⟩, fun _ => ⟨⟨by omega, by omega⟩, ih3 _ _ _ ⟨by omega, by omega⟩ (by omega)⟩⟩⟩
      refine wl2_rule (fun (g v : Int) => (g = 0 ∨ g = 1) ∧ 0 ≤ v) (fun (_ v : Int) => (6 - v).toNat) ?_ ⟨Or.inr rfl, Int.le_refl 0⟩
      rintro P4 g v ⟨hg, hv0⟩ ih4
      refine ⟨fun _ => ⟨fun _ => ⟨⟨by omega, by omega⟩, ih2 _ _ ⟨by omega, by omega⟩ (by omega)⟩, fun _ => hK _⟩, fun hlt4 => ?_⟩
      refine wl2_rule (fun (g u : Int) => (g = 0 ∨ g = 1) ∧ 0 ≤ u) (fun (_ u : Int) => (v - u).toNat) ?_ ⟨hg, Int.le_refl 0⟩
      rintro P5 g u ⟨hg, hu0⟩ ih5
      exact ⟨fun _ => ⟨⟨by omega, by omega⟩, ih4 _ _ ⟨hg, by omega⟩ (by omega)⟩, fun hlt5 => ⟨fun _ => ⟨⟨by omega, by omega⟩, ih5 _ _ ⟨Or.inl rfl, by omega⟩ (by omega)⟩, fun _ => ⟨⟨by omega, by omega⟩, fun _ => ⟨⟨by omega, by omega⟩, ih5 _ _ ⟨Or.inr rfl, by omega⟩ (by omega)⟩, fun _ => ⟨⟨by omega, by omega⟩, ⟨by omega, by omega⟩, fun _ => ⟨⟨by omega, by omega⟩, ih5 _ _ ⟨Or.inr rfl, by omega⟩ (by omega)⟩, fun _ => ⟨⟨by omega, by omega⟩, fun _ => ⟨⟨by omega, by omega⟩, ih5 _ _ ⟨Or.inl rfl, by omega⟩ (by omega)⟩, fun _ => ⟨⟨by omega, by omega⟩, ih5 _ _ ⟨Or.inr rfl, by omega⟩ (by omega)⟩⟩⟩⟩⟩⟩
  · have hb : bt s v = 0 := (bt01 s v).resolve_right hz
    rw [Int.mul_one]
    refine ⟨⟨by omega, by omega⟩, ⟨by omega, by omega⟩, ih _ _ ⟨by omega, by omega, ?_⟩ (by omega)⟩
    rw [ea, show (v + 1).toNat = v.toNat + 1 by omega]
    show _ = (if bt s (v.toNat : Int) = 0 then _ else _)
    rw [ev, if_pos hb]
  · have hb : ¬ bt s v = 0 := by have : bt s v = 1 := hz; omega
    refine ⟨⟨by omega, by omega⟩, ⟨by omega, by omega⟩, ih _ _ ⟨by omega, by omega, ?_⟩ (by omega)⟩
    rw [ea, show (v + 1).toNat = v.toNat + 1 by omega]
    show _ = (if bt s (v.toNat : Int) = 0 then _ else _)
    rw [ev, if_neg hb]
theorem enough_ok {c d : Int → Int} {s : Int} {K : Int → (Int → Int) → Prop} (hK : ∀ k d', K k d') : wp_enough c d s K := by
  refine wl2_rule (fun (k : Int) (_ : Int → Int) => 0 ≤ k ∧ k ≤ 6) (fun (k : Int) _ => (6 - k).toNat) ?_ ⟨by omega, by omega⟩
  rintro P k d ⟨k0, k6⟩ ih
  by_cases hk : k = 6
  · subst hk
    exact deals6 (fun d' => u1 (hK _ _))
  · exact deals_ok k0 k6 (fun r d' _ => ⟨fun _ => hK _ _, fun _ => ⟨⟨by omega, by omega⟩, ih _ _ ⟨by omega, by omega⟩ (by omega)⟩⟩)
theorem timesOf_ok {row : Int → Int} {many s : Int} (hm : many ≤ 2400) {K : Int → Prop} (hK : ∀ r, K r) : wp_timesOf row many s K := by
  refine wl2_rule (fun (n i : Int) => 0 ≤ n ∧ n ≤ i) (fun (_ i : Int) => (many - i).toNat) ?_ ⟨by omega, by omega⟩
  rintro P n i ⟨n0, n1⟩ ih
  refine ⟨fun _ => hK _, fun hlt => ⟨⟨by omega, by omega⟩, ?_⟩⟩
  have b : ∀ z, wp_timesOf_61 s n i P z := fun z => ⟨fun _ => ⟨⟨by omega, by omega⟩, ⟨by omega, by omega⟩, ih _ _ ⟨by omega, by omega⟩ (by omega)⟩, fun _ => ⟨fun _ => ⟨⟨by omega, by omega⟩, ⟨by omega, by omega⟩, ih _ _ ⟨by omega, by omega⟩ (by omega)⟩, fun _ => ⟨⟨by omega, by omega⟩, ⟨by omega, by omega⟩, ih _ _ ⟨by omega, by omega⟩ (by omega)⟩⟩⟩
  exact isIn_c (fun x y => t1 ⟨⟨by omega, by omega⟩, b _⟩) (fun _ => t0 (isIn_c (fun x y => t1 ⟨⟨by omega, by omega⟩, b _⟩) (fun _ => t0 (b _))))
theorem spills_ok {row c d : Int → Int} {many s k : Int} (hm : many ≤ 2400) (k0 : 0 ≤ k) (k6 : k ≤ 6) {K : Int → (Int → Int) → Prop} (hK : ∀ r d', K r d') : wp_spills row many c d s k K := by
  refine wl3_rule (fun (_ : Int) (i : Int) (_ : Int → Int) => 0 ≤ i) (fun (_ : Int) (i : Int) _ => (64 - i).toNat) ?_ (Int.le_refl 0)
  rintro P b i d hi ih
  refine ⟨fun _ => hK _ _, fun hlt => ?_⟩
  have next : ∀ (b : Int) (d : Int → Int), rng (i + 1) ∧ P b (i + 1) d := fun b d => ⟨⟨by omega, by omega⟩, ih _ _ _ (by omega) (by omega)⟩
  have b40 : wp_spills_40 c s k d b i P := deals_ok k0 k6 (fun r d' _ => ⟨fun _ => next _ _, fun _ => next _ _⟩)
  exact ⟨fun _ => next _ _, fun _ => ⟨fun _ => b40, fun _ => timesOf_ok hm (fun r1 => timesOf_ok hm (fun r2 => ⟨fun _ => next _ _, fun _ => b40⟩))⟩⟩
theorem inRow_ok {row : Int → Int} {many : Int} (h0 : 0 ≤ many) (hm : many ≤ 2400) {K : Int → Prop} (hK : ∀ r, K r) : wp_inRow row many K := by
  obtain ⟨v, _, _, hv⟩ := reads_ev (row := row) (p := 0) (q := many) (by omega) hm
  refine hv _ (wl2_rule (fun (_ i : Int) => 0 ≤ i) (fun (_ i : Int) => (6 - i).toNat) ?_ (Int.le_refl 0))
  rintro P s i hi ih
  exact ⟨fun _ => hK _, fun hlt => sets_ok (by omega) hm hi (by omega) (fun r _ => ⟨fun _ => ⟨⟨by omega, by omega⟩, ih _ _ (by omega) (by omega)⟩, fun _ => ⟨⟨by omega, by omega⟩, ih _ _ (by omega) (by omega)⟩⟩)⟩
theorem registers_ok {slot slotLong row c d : Int → Int} {many x0 x1 : Int} (hS : SW slot slotLong) {K : Int → (Int → Int) → Int → (Int → Int) → (Int → Int) → Prop} (hK : ∀ r a b c d, K r a b c d) : wp_registers slot slotLong row many c d x0 x1 K := by
  have main : 0 ≤ x0 → x0 ≤ 5 → (x1 = 0 ∨ (10 ≤ x1 ∧ x1 ≤ 15) ∨ (20 ≤ x1 ∧ x1 ≤ 26)) → wp_registers_35 K slot slotLong row many c d x0 x1 := by
    intro s0 s5 hx
    refine clashIn_ok hS s0 s5 (fun r l c' hw => ?_)
    have hl := hw.len
    exact inRow_ok (by omega) (by omega) (fun s => ⟨fun _ => enough_ok (fun k d' => ⟨fun _ => ⟨⟨by omega, by omega⟩, hK _ _ _ _ _⟩, fun _ => hK _ _ _ _ _⟩), fun _ => ⟨⟨by omega, by omega⟩, spills_ok (by omega) (by omega) (by omega) (fun r d' => hK _ _ _ _ _)⟩⟩)
  exact isSlot_c (fun s0 s5 => t1 ⟨fun h => main s0 s5 (Or.inl h), fun _ => isIn_c (fun a b => u1 (main s0 s5 (by omega))) (fun _ => u0 (isIn_c (fun a b => u1 (main s0 s5 (by omega))) (fun _ => u0 (hK _ _ _ _ _))))⟩) (fun _ => t0 (hK _ _ _ _ _))
theorem clash_ok {slot slotLong row c : Int → Int} {many x0 x1 x2 : Int} (hS : SW slot slotLong) {K : Int → (Int → Int) → Int → (Int → Int) → Prop} (hK : ∀ r a b c, K r a b c) : wp_clash slot slotLong row many c x0 x1 x2 K :=
  isSlot_c (fun s0 s5 => t1 (isIn_c (fun a0 a5 => t1 (isIn_c (fun b0 b5 => t1 ⟨fun _ => clashIn_ok hS s0 s5 (fun r l c' hw => ⟨⟨by omega, by omega⟩, hK _ _ _ _⟩), fun _ => hK _ _ _ _⟩) (fun _ => t0 (hK _ _ _ _)))) (fun _ => t0 (hK _ _ _ _)))) (fun _ => t0 (hK _ _ _ _))
theorem item_ok {rules x0 x1 : Int} {rule ruleRight ruleLong items itemMany : Int → Int} (hR : RWa rules rule ruleRight ruleLong) (hI : IW rules items itemMany) {K : Int → (Int → Int) → (Int → Int) → Prop} (hK : ∀ r a b, IW rules a b → K r a b) : wp_item rules items itemMany x0 x1 K := by
  have r0 := hR.1
  have r12 := hR.2.1
  have main : 0 ≤ x0 → x0 ≤ 5 → ((0 ≤ x1 ∧ x1 < rules) ∨ (20 ≤ x1 ∧ x1 ≤ 24)) → wp_item_32 K items itemMany x0 x1 := by
    intro p0 p5 hx
    obtain ⟨i0, i8, hit⟩ := hI x0 p0 p5
    refine ⟨⟨by omega, by omega⟩, fun hne => ⟨⟨by omega, by omega⟩, ⟨by omega, by omega⟩, ⟨by omega, by omega⟩, ⟨by omega, by omega⟩, ⟨by omega, by omega⟩, ⟨by omega, by omega⟩, hK _ _ _ (fun k k0 k5 => ?_)⟩, fun _ => hK _ _ _ hI⟩
    obtain ⟨j0, j8, hjt⟩ := hI k k0 k5
    by_cases hk : k = x0
    · subst hk
      rw [show uZ itemMany k (itemMany k + 1) k = itemMany k + 1 from if_pos rfl]
      refine ⟨by omega, by omega, fun i i0' i1' => ?_⟩
      by_cases hi : i = itemMany k
      · rw [hi, show uZ items (8 * k + itemMany k) x1 (8 * k + itemMany k) = x1 from if_pos rfl]; exact hx
      · rw [show uZ items (8 * k + itemMany k) x1 (8 * k + i) = items (8 * k + i) from if_neg (by omega)]; exact hjt i i0' (by omega)
    · rw [show uZ itemMany x0 (itemMany x0 + 1) k = itemMany k from if_neg hk]
      refine ⟨j0, j8, fun i i0' i1' => ?_⟩
      rw [show uZ items (8 * x0 + itemMany x0) x1 (8 * k + i) = items (8 * k + i) from if_neg (by omega)]; exact hjt i i0' i1'
  exact isPass_c (fun p0 p5 => t1 ⟨⟨by omega, by omega⟩, isIn_c (fun a b => u1 (main p0 p5 (by omega))) (fun _ => u0 (isIn_c (fun a b => t1 (main p0 p5 (by omega))) (fun _ => t0 (hK _ _ _ hI))))⟩) (fun _ => t0 (hK _ _ _ hI))
theorem clear_ok {rules x0 : Int} {items itemMany : Int → Int} (hI : IW rules items itemMany) {K : Int → (Int → Int) → Prop} (hK : ∀ b, IW rules items b → K (if 0 ≤ x0 ∧ x0 ≤ 5 then 1 else 0) b) : wp_clear itemMany x0 K := by
  refine isPass_c (fun p0 p5 => u1 ⟨⟨by omega, by omega⟩, ?_⟩) (fun h => u0 ?_)
  · have := hK (uZ itemMany x0 0) (fun k k0 k5 => ?_)
    · rwa [if_pos ⟨p0, p5⟩] at this
    · obtain ⟨j0, j8, hjt⟩ := hI k k0 k5
      by_cases hk : k = x0
      · rw [show uZ itemMany x0 0 k = 0 from if_pos hk]
        exact ⟨by omega, by omega, fun i a b => absurd b (by omega)⟩
      · rw [show uZ itemMany x0 0 k = itemMany k from if_neg hk]
        exact ⟨j0, j8, hjt⟩
  · have := hK itemMany hI
    rwa [if_neg h] at this
theorem at_ok {slot slotLong : Int → Int} {x0 x1 : Int} (hS : SW slot slotLong) {K : Int → Prop} (hK : ∀ r, K r) : wp_at slot slotLong x0 x1 K := by
  refine isSlot_c (fun s0 s5 => t1 ?_) (fun _ => t0 (hK _))
  obtain ⟨l, h1, h2, h3, h4, h5⟩ := hS x0 s0 s5
  have hl := h1.len
  exact ⟨⟨by omega, by omega⟩, ⟨by omega, by omega⟩, isIn_c (fun a b => t1 ⟨⟨by omega, by omega⟩, hK _⟩) (fun _ => t0 (hK _))⟩
theorem fault_ok {a b x : Int} {K : Int → Prop} (hK : ∀ r, K r) : wp_fault a b x K := ⟨fun _ => ⟨fun _ => hK _, fun _ => hK _⟩, fun _ => hK _⟩
