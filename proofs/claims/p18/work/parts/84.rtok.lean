-- ===== the reference's TOKENS
def RT (ru kind value token : Int) : Prop :=
  (kind = 0 → token = 1) ∧ (kind = 1 → token = 0) ∧ (kind = 2 → token = 2) ∧
  (kind = 3 → (ru = 0 → (value < 6 → token = 320 + value) ∧ (6 ≤ value → token = 1)) ∧ (ru ≠ 0 → (23 ≤ value → token = 307 + value) ∧ (value < 23 → token = 1))) ∧
  (kind = 4 → token = 3) ∧ (kind = 5 → token = 4) ∧ (kind = 6 → token = 5) ∧ (kind = 7 → token = 6) ∧ (kind = 8 → token = 7) ∧ (kind = 9 → token = 8) ∧ (10 ≤ kind → token = kind)
theorem see_ev {t : Int → Int} {len x : Int} {K : Int → Prop} (h0 : 0 ≤ x) (h8 : len ≤ 800) (hK : K (seeI t len x)) : wp_see t len x K := by
  unfold wp_see
  unfold seeI at hK
  refine ⟨fun h => ?_, fun h => ⟨⟨h0, by omega⟩, ?_⟩⟩
  · rw [if_neg (by omega)] at hK; exact hK
  · rw [if_pos h] at hK; exact hK
theorem isIn_ev {x a b : Int} {K : Int → Prop} (hy : a ≤ x ∧ x ≤ b → K 1) (hn : ¬ (a ≤ x ∧ x ≤ b) → K 0) : wp_isIn x a b K := by
  unfold wp_isIn
  repeat' (first | intro _ | with_reducible apply And.intro)
  all_goals first | exact hy (by omega) | exact hn (by omega)
theorem rLetter_ev {x : Int} {K : Int → Prop} (hy : isLt x → K 1) (hn : ¬ isLt x → K 0) : wp_isLetter x K := by
  unfold wp_isLetter
  unfold isLt at hy hn
  refine isIn_ev (fun h => ⟨fun _ => hy (by omega), fun q => absurd q (by decide)⟩) (fun h => ⟨fun q => absurd rfl q, fun _ => ?_⟩)
  exact isIn_ev (fun h => ⟨fun q => absurd q (by decide), fun _ => hy (by omega)⟩) (fun h => ⟨fun _ => hn (by omega), fun q => absurd rfl q⟩)
theorem rDigit_ev {x : Int} {K : Int → Prop} (hy : isDg x → K 1) (hn : ¬ isDg x → K 0) : wp_isDigit x K := by
  unfold wp_isDigit
  unfold isDg at hy hn
  exact isIn_ev (fun h => ⟨Or.inr rfl, hy h⟩) (fun h => ⟨Or.inl rfl, hn h⟩)
theorem is_ev {t : Int → Int} {a b i : Int} {K : Int → Prop} (h0 : 0 ≤ a) (hab : a ≤ b) (hb : b ≤ 800) (hy : isW t a b i → K 1) (hn : ¬ isW t a b i → K 0) : wp_is t b a i K := by
  unfold wp_is
  have hl := litN_bd i
  have key : ∀ s, (s = 1 ∧ b - a = litN i) ∨ (s = 0 ∧ b - a ≠ litN i) → wp_is_21 K t a i s := by
    intro s hs
    unfold wp_is_21
    refine wl2_rule (fun s k => 0 ≤ k ∧ k ≤ litN i ∧ ((s = 1 ∧ b - a = litN i ∧ ∀ j, 0 ≤ j → j < k → t (a + j) = litC i j) ∨ (s = 0 ∧ ¬ isW t a b i))) (fun _ k => (litN i - k).toNat) ?_ ⟨by omega, by omega, ?_⟩
    · intro P s k ⟨k0, k1, k2⟩ ih
      unfold wp_is_24
      refine ⟨fun z => ?_, fun z => ⟨fun w => ?_, fun w => ?_⟩⟩
      · rcases k2 with ⟨rfl, q, g⟩ | ⟨rfl, g⟩
        · exact ⟨Or.inr rfl, hy ⟨q, fun j z1 z2 => g j z1 (by omega)⟩⟩
        · exact ⟨Or.inl rfl, hn g⟩
      · rcases k2 with ⟨rfl, q, g⟩ | ⟨rfl, g⟩
        · exact absurd w (by decide)
        · exact ⟨Or.inl rfl, hn g⟩
      · rcases k2 with ⟨rfl, q, g⟩ | ⟨rfl, g⟩
        · refine ⟨⟨by omega, by omega⟩, ⟨k0, z⟩, fun y => ⟨⟨by omega, by omega⟩, ih _ _ ⟨by omega, by omega, Or.inr ⟨rfl, fun y2 => y (y2.2 k k0 z)⟩⟩ (by omega)⟩, fun y => ⟨⟨by omega, by omega⟩, ih _ _ ⟨by omega, by omega, Or.inl ⟨rfl, q, fun j z1 z2 => ?_⟩⟩ (by omega)⟩⟩
          by_cases e : j = k
          · rw [e]; exact y
          · exact g j z1 (by omega)
        · exact absurd rfl w
    · rcases hs with ⟨rfl, q⟩ | ⟨rfl, q⟩
      · exact Or.inl ⟨rfl, q, fun j z1 z2 => absurd z2 (by omega)⟩
      · exact Or.inr ⟨rfl, fun z => q z.1⟩
  exact ⟨⟨by omega, by omega⟩, fun c => key 0 (Or.inr ⟨rfl, c⟩), fun c => key 1 (Or.inl ⟨rfl, c⟩)⟩
theorem word_ev {t : Int → Int} {a b ru : Int} {K : Int → Prop} (h0 : 0 ≤ a) (hab : a < b) (hb : b ≤ 800) (hl : isLt (t a))
    (hK : ∀ kind token, Wk t a b kind → RT ru kind (t a - 97) token → K token) : wp_word t b a ru K := by
  unfold wp_word
  have bd := hl
  unfold isLt at bd
  have tx : ∀ (i : Int) (K' : Int → Prop), (isW t a b i → K' 1) → (¬ isW t a b i → K' 0) → wp_is t b a i K' := fun i K' y1 y2 => is_ev h0 (by omega) hb y1 y2
  refine ⟨⟨h0, by omega⟩, ⟨by omega, by omega⟩, fun c => ?_, fun c => ?_⟩
  · refine tx 0 _ (fun w0 => ⟨fun z => absurd z (by decide), fun _ => hK 4 3 ⟨fun z => absurd z c, fun _ => ⟨fun _ => rfl, fun z => absurd w0 z⟩⟩ (by unfold RT; omega)⟩) (fun w0 => ⟨fun _ => ?_, fun z => absurd rfl z⟩)
    refine tx 1 _ (fun w1 => ⟨fun z => absurd z (by decide), fun _ => hK 5 4 ⟨fun z => absurd z c, fun _ => ⟨fun z => absurd z w0, fun _ => ⟨fun _ => rfl, fun z => absurd w1 z⟩⟩⟩ (by unfold RT; omega)⟩) (fun w1 => ⟨fun _ => ?_, fun z => absurd rfl z⟩)
    refine tx 2 _ (fun w2 => ⟨fun z => absurd z (by decide), fun _ => hK 6 5 ⟨fun z => absurd z c, fun _ => ⟨fun z => absurd z w0, fun _ => ⟨fun z => absurd z w1, fun _ => ⟨fun _ => rfl, fun z => absurd w2 z⟩⟩⟩⟩ (by unfold RT; omega)⟩) (fun w2 => ⟨fun _ => ?_, fun z => absurd rfl z⟩)
    refine tx 3 _ (fun w3 => ⟨fun z => absurd z (by decide), fun _ => hK 7 6 ⟨fun z => absurd z c, fun _ => ⟨fun z => absurd z w0, fun _ => ⟨fun z => absurd z w1, fun _ => ⟨fun z => absurd z w2, fun _ => ⟨fun _ => rfl, fun z => absurd w3 z⟩⟩⟩⟩⟩ (by unfold RT; omega)⟩) (fun w3 => ⟨fun _ => ?_, fun z => absurd rfl z⟩)
    refine tx 4 _ (fun w4 => ⟨fun z => absurd z (by decide), fun _ => hK 8 7 ⟨fun z => absurd z c, fun _ => ⟨fun z => absurd z w0, fun _ => ⟨fun z => absurd z w1, fun _ => ⟨fun z => absurd z w2, fun _ => ⟨fun z => absurd z w3, fun _ => ⟨fun _ => rfl, fun z => absurd w4 z⟩⟩⟩⟩⟩⟩ (by unfold RT; omega)⟩) (fun w4 => ⟨fun _ => hK 0 1 ⟨fun z => absurd z c, fun _ => ⟨fun z => absurd z w0, fun _ => ⟨fun z => absurd z w1, fun _ => ⟨fun z => absurd z w2, fun _ => ⟨fun z => absurd z w3, fun _ => ⟨fun z => absurd z w4, fun _ => rfl⟩⟩⟩⟩⟩⟩ (by unfold RT; omega), fun z => absurd rfl z⟩)
  · have w3 : (97 ≤ t a ∧ t a ≤ 122) → Wk t a b 3 := fun s => ⟨fun _ => ⟨fun _ => rfl, fun z => absurd s z⟩, fun z => absurd c z⟩
    have w0 : ¬ (97 ≤ t a ∧ t a ≤ 122) → Wk t a b 0 := fun s => ⟨fun _ => ⟨fun z => absurd z s, fun _ => rfl⟩, fun z => absurd c z⟩
    have bad : ((97 ≤ t a ∧ t a ≤ 122) → (ru = 0 → 6 ≤ t a - 97) ∧ (ru ≠ 0 → t a - 97 < 23)) → K 1 := by
      intro q
      by_cases s : 97 ≤ t a ∧ t a ≤ 122
      · exact hK 3 1 (w3 s) (by have := q s; unfold RT; omega)
      · exact hK 0 1 (w0 s) (by unfold RT; omega)
    have s52 : (ru = 0 → ¬ (97 ≤ t a ∧ t a ≤ 102)) → wp_word_52 K t a ru := by
      intro q
      unfold wp_word_52
      refine ⟨fun r => bad (fun s => ⟨fun _ => by have := q r; omega, fun z => absurd r z⟩), fun r => ?_⟩
      refine isIn_ev (fun s => ⟨fun z => absurd z (by decide), fun _ => ⟨⟨by omega, by omega⟩, hK 3 _ (w3 (by omega)) (by unfold RT; omega)⟩⟩) (fun s => ⟨fun _ => bad (fun z => ⟨fun y => absurd y r, fun _ => by omega⟩), fun z => absurd rfl z⟩)
    refine ⟨fun r => s52 (fun z => absurd z r), fun r => ?_⟩
    refine isIn_ev (fun s => ⟨fun z => absurd z (by decide), fun _ => ⟨⟨by omega, by omega⟩, hK 3 _ (w3 (by omega)) (by unfold RT; omega)⟩⟩) (fun s => ⟨fun _ => s52 (fun _ => s), fun z => absurd rfl z⟩)
theorem rnext_ok {t : Int → Int} {len a0 tk ta va ru : Int} {K : Int → Int → Int → Int → Prop} (h1 : 0 ≤ a0) (h2 : a0 ≤ len) (h8 : len ≤ 800) (hb : ∀ i, 0 ≤ i → i < 800 → 0 ≤ t i ∧ t i ≤ 255)
    (hK : ∀ kind vv next token place value, Tk t len ru 0 a0 kind vv place next → RT ru kind vv token → ((place < len ∧ ¬ isLt (t place) ∧ isDg (t place)) → value = vv) → (¬ (place < len ∧ ¬ isLt (t place) ∧ isDg (t place)) → value = va) → K next token place value) : wp_next0 t len a0 tk ta va ru K := by
  unfold wp_next0
  refine wl1_rule (fun p => a0 ≤ p ∧ p ≤ len ∧ (∀ i, a0 ≤ i → i < p → i < len ∧ bl (t i))) (fun p => (len - p).toNat) ?_ ⟨by omega, h2, fun i z1 z2 => absurd z2 (by omega)⟩
  intro P p ⟨o3, o4, o5⟩ ih
  unfold wp_next0_0
  have go : p < len → bl (t p) → rng (p + 1) ∧ P (p + 1) := fun c d => ⟨⟨by omega, by omega⟩, ih _ ⟨by omega, by omega, fun i z1 z2 => by
    by_cases q : i = p
    · rw [q]; exact ⟨c, d⟩
    · exact o5 i z1 (by omega)⟩ (by omega)⟩
  by_cases c : p < len
  · have es : seeI t len p = t p := if_pos c
    refine see_ev (by omega) h8 ?_
    rw [es]
    refine ⟨fun d => go c (Or.inl d), fun d => ?_⟩
    refine see_ev (by omega) h8 ?_
    rw [es]
    refine ⟨fun d2 => ?_, fun d2 => go c (Or.inr d2)⟩
    have hR : Run (fun i => i < len ∧ bl (t i)) a0 p := ⟨o3, o5, fun q => by rcases q.2 with z | z; exact d z; exact d2 z⟩
    refine see_ev (by omega) h8 ?_
    rw [es]
    have b0 := hb p (by omega) (by omega)
    refine ⟨fun _ => ?_, fun z => absurd z (by omega)⟩
    refine rLetter_ev (fun g => ⟨fun z => absurd z (by decide), fun _ => ?_⟩) (fun g => ⟨fun _ => ?_, fun z => absurd rfl z⟩)
    · refine wl2_rule (fun e q => q = p ∧ p ≤ e ∧ e ≤ len ∧ (∀ i, p ≤ i → i < e → i < len ∧ isLt (t i))) (fun e _ => (len - e).toNat) ?_ ⟨rfl, by omega, by omega, fun i z1 z2 => absurd z2 (by omega)⟩
      intro P2 e q ⟨q0, q1, q2, q3⟩ ih2
      subst q0
      unfold wp_next0_76
      refine see_ev (by omega) h8 ?_
      have out : ¬ (e < len ∧ isLt (t e)) → wp_word t e q ru (fun r105 => K e r105 q va) := by
        intro ne
        have lt : q < e := by
          by_cases z : q < e
          · exact z
          · exact absurd ⟨by omega, by rw [show e = q by omega]; exact g⟩ ne
        exact word_ev (by omega) lt (by omega) g (fun kind token w r => hK kind (t q - 97) e token q va ⟨hR, fun z => absurd c (by omega), fun _ _ => ⟨⟨q1, q3, ne⟩, w, rfl⟩, fun _ z => absurd g z, fun _ z => absurd g z⟩ r (fun z => absurd g z.2.1) (fun _ => rfl))
      by_cases ce : e < len
      · have ee : seeI t len e = t e := if_pos ce
        rw [ee]
        refine rLetter_ev (fun y => ⟨fun z => absurd z (by decide), fun _ => ⟨⟨by omega, by omega⟩, ih2 _ _ ⟨rfl, by omega, by omega, fun i z1 z2 => ?_⟩ (by omega)⟩⟩) (fun y => ⟨fun _ => out (fun z => y z.2), fun z => absurd rfl z⟩)
        by_cases w : i = e
        · rw [w]; exact ⟨ce, y⟩
        · exact q3 i z1 (by omega)
      · have ee : seeI t len e = -1 := if_neg ce
        rw [ee]
        refine rLetter_ev (fun y => by unfold isLt at y; omega) (fun y => ⟨fun _ => out (fun z => ce z.1), fun z => absurd rfl z⟩)
    · refine rDigit_ev (fun g2 => ⟨fun z => absurd z (by decide), fun _ => ?_⟩) (fun g2 => ⟨fun _ => ?_, fun z => absurd rfl z⟩)
      · refine wl3_rule (fun e q v => q = p ∧ p ≤ e ∧ e ≤ len ∧ (∀ i, p ≤ i → i < e → i < len ∧ isDg (t i)) ∧ v = dv t p (e - p).toNat) (fun e _ _ => (len - e).toNat) ?_ ⟨rfl, by omega, by omega, fun i z1 z2 => absurd z2 (by omega), by rw [show (p - p).toNat = 0 by omega]; rfl⟩
        intro P2 e q v ⟨q0, q1, q2, q3, q4⟩ ih2
        subst q0
        unfold wp_next0_126
        have bd := dv_bd (t := t) (a := q) (e - q).toNat (fun i z1 z2 => (q3 i z1 (by omega)).2)
        have out : ¬ (e < len ∧ isDg (t e)) → rng (e - q) ∧ (5 ≤ e - q → K e 1 q v) ∧ (e - q < 5 → K e 2 q v) := by
          intro ne
          refine ⟨⟨by omega, by omega⟩, fun z => ?_, fun z => ?_⟩
          · exact hK 0 v e 1 q v ⟨hR, fun z => absurd c (by omega), fun _ z => absurd z g, fun _ _ _ => ⟨⟨q1, q3, ne⟩, fun y => absurd y (by omega), fun _ => rfl, q4⟩, fun _ _ z => absurd g2 z⟩ (by unfold RT; omega) (fun _ => rfl) (fun z => absurd ⟨c, g, g2⟩ z)
          · exact hK 2 v e 2 q v ⟨hR, fun z => absurd c (by omega), fun _ z => absurd z g, fun _ _ _ => ⟨⟨q1, q3, ne⟩, fun _ => rfl, fun y => absurd y (by omega), q4⟩, fun _ _ z => absurd g2 z⟩ (by unfold RT; omega) (fun _ => rfl) (fun z => absurd ⟨c, g, g2⟩ z)
        refine see_ev (by omega) h8 ?_
        by_cases ce : e < len
        · have ee : seeI t len e = t e := if_pos ce
          rw [ee]
          refine rDigit_ev (fun y => ⟨fun z => absurd z (by decide), fun _ => ?_⟩) (fun y => ⟨fun _ => out (fun z => y z.2), fun z => absurd rfl z⟩)
          have nx : ∀ i, q ≤ i → i < e + 1 → i < len ∧ isDg (t i) := fun i z1 z2 => by
            by_cases w : i = e
            · rw [w]; exact ⟨ce, y⟩
            · exact q3 i z1 (by omega)
          refine ⟨⟨by omega, by omega⟩, fun z => ⟨⟨by omega, by omega⟩, ih2 _ _ _ ⟨rfl, by omega, by omega, nx, ?_⟩ (by omega)⟩, fun z => ?_⟩
          · rw [q4, show (e + 1 - q).toNat = (e - q).toNat + 1 by omega]
            show _ = if (e - q).toNat < 4 then _ else _
            rw [if_neg (by omega)]
          · refine see_ev (by omega) h8 ?_
            rw [ee]
            unfold isDg at y
            refine ⟨⟨by omega, by omega⟩, ⟨by omega, by omega⟩, ih2 _ _ _ ⟨rfl, by omega, by omega, nx, ?_⟩ (by omega)⟩
            rw [q4, show (e + 1 - q).toNat = (e - q).toNat + 1 by omega]
            show _ = if (e - q).toNat < 4 then 10 * dv t q (e - q).toNat + t (q + ((e - q).toNat : Nat)) - 48 else _
            rw [if_pos (by omega), show q + (((e - q).toNat : Nat) : Int) = e by omega]
        · have ee : seeI t len e = -1 := if_neg ce
          rw [ee]
          refine rDigit_ev (fun y => by unfold isDg at y; omega) (fun y => ⟨fun _ => out (fun z => ce z.1), fun z => absurd rfl z⟩)
      · have s306 : ∀ s, (isSg (t p) → s = t p) → (¬ isSg (t p) → s = 1) → wp_next0_306 K t len va ru p (t p) s := by
          intro s y1 y2
          have out : ¬ (ru ≠ 0 ∧ t p = 45 ∧ seeI t len (p + 1) = 62) → K (p + 1) s p va := by
            intro ne
            by_cases y : isSg (t p)
            · have e := y1 y
              refine hK (t p) 0 (p + 1) s p va ⟨hR, fun z => absurd c (by omega), fun _ z => absurd z g, fun _ _ z => absurd z g2, fun _ _ _ => ⟨fun z => absurd z ne, fun _ => ⟨fun _ => rfl, fun z => absurd y z, rfl, rfl⟩⟩⟩ ?_ (fun z => absurd z.2.2 g2) (fun _ => rfl)
              unfold isSg at y; unfold RT; omega
            · have e := y2 y
              refine hK 0 0 (p + 1) s p va ⟨hR, fun z => absurd c (by omega), fun _ z => absurd z g, fun _ _ z => absurd z g2, fun _ _ _ => ⟨fun z => absurd z ne, fun _ => ⟨fun z => absurd z y, fun _ => rfl, rfl, rfl⟩⟩⟩ ?_ (fun z => absurd z.2.2 g2) (fun _ => rfl)
              unfold RT; omega
          unfold wp_next0_306
          refine ⟨fun z => out (fun q => q.1 z), fun z => ⟨fun w => out (fun q => w q.2.1), fun w => ?_⟩⟩
          refine see_ev (by omega) h8 ⟨fun u => out (fun q => u q.2.2), fun u => ⟨⟨by omega, by omega⟩, ?_⟩⟩
          refine hK 9 0 (p + 1 + 1) 8 p va ⟨hR, fun z => absurd c (by omega), fun _ z => absurd z g, fun _ _ z => absurd z g2, fun _ _ _ => ⟨fun _ => ⟨rfl, by omega, rfl⟩, fun q => absurd ⟨z, w, u⟩ q⟩⟩ (by unfold RT; omega) (fun z => absurd z.2.2 g2) (fun _ => rfl)
        have s290 : isSg (t p) → wp_next0_290 K t len va ru p (t p) := by
          intro y
          unfold wp_next0_290 wp_next0_295
          exact ⟨fun z => absurd z (by decide), fun _ => s306 _ (fun _ => rfl) (fun z => absurd y z)⟩
        have s295 : ¬ isSg (t p) → wp_next0_295 K t len va ru p (t p) 0 := by
          intro y
          unfold wp_next0_295
          exact ⟨fun _ => s306 _ (fun z => absurd z y) (fun _ => rfl), fun z => absurd rfl z⟩
        unfold isSg at s290 s295
        refine ⟨⟨by omega, by omega⟩, ?_⟩
        repeat' (first | intro _ | with_reducible apply And.intro)
        all_goals first | exact s290 (by omega) | exact s295 (by omega)
  · have es : seeI t len p = -1 := if_neg c
    refine see_ev (by omega) h8 ?_
    rw [es]
    refine ⟨fun d => absurd d (by decide), fun _ => ?_⟩
    refine see_ev (by omega) h8 ?_
    rw [es]
    refine ⟨fun _ => ?_, fun d => absurd d (by decide)⟩
    refine see_ev (by omega) h8 ?_
    rw [es]
    refine ⟨fun d => absurd rfl d, fun _ => ?_⟩
    exact hK 1 0 p 0 p va ⟨⟨o3, o5, fun q => c q.1⟩, fun _ => ⟨rfl, rfl, rfl⟩, fun z => absurd z c, fun z => absurd z c, fun z => absurd z c⟩ (by unfold RT; omega) (fun z => absurd z.1 c) (fun _ => rfl)
theorem RT.uniq {ru k v a b : Int} (hk : 0 ≤ k) (h : RT ru k v a) (h' : RT ru k v b) : a = b := by
  unfold RT at h h'; omega
/-- kind and value of a TOKEN are in their ranges -/
theorem Tk.rgK {t : Int → Int} {len ru v0 p k v pl nx : Int} (h0 : 0 ≤ p) (h2 : p ≤ len) (h : Tk t len ru v0 p k v pl nx) : 0 ≤ k ∧ k ≤ 125 ∧ p ≤ pl ∧ pl ≤ len ∧ pl ≤ nx ∧ (k ≠ 1 → pl < nx) ∧ nx ≤ len ∧ (k = 1 → pl = len) ∧ (k = 2 → 0 ≤ v ∧ v ≤ 9999) ∧ (k = 3 → 0 ≤ v ∧ v ≤ 25) := by
  obtain ⟨⟨r1, r2, r3⟩, a1, a2, a3, a4⟩ := h
  have hpl : pl ≤ len := by
    by_cases q : p = pl
    · omega
    · have := (r2 (pl - 1) (by omega) (by omega)).1; omega
  by_cases c : len ≤ pl
  · have := a1 c; omega
  · have c : pl < len := by omega
    by_cases d : isLt (t pl)
    · obtain ⟨⟨b1, b2, b3⟩, w, e⟩ := a2 c d
      have lt : pl < nx := by
        by_cases q : pl < nx
        · exact q
        · have e2 : nx = pl := by omega
          rw [e2] at b3; exact absurd ⟨c, d⟩ b3
      have hn : nx ≤ len := by have := (b2 (nx - 1) (by omega) (by omega)).1; omega
      have hk : k = 0 ∨ (k = 3 ∧ 97 ≤ t pl ∧ t pl ≤ 122) ∨ k = 4 ∨ k = 5 ∨ k = 6 ∨ k = 7 ∨ k = 8 := by
        by_cases y : nx - pl = 1
        · by_cases y2 : 97 ≤ t pl ∧ t pl ≤ 122
          · exact Or.inr (Or.inl ⟨(w.1 y).1 y2, y2⟩)
          · exact Or.inl ((w.1 y).2 y2)
        · have w := w.2 y
          by_cases y0 : isW t pl nx 0
          · have := w.1 y0; omega
          · have w := w.2 y0
            by_cases y0 : isW t pl nx 1
            · have := w.1 y0; omega
            · have w := w.2 y0
              by_cases y0 : isW t pl nx 2
              · have := w.1 y0; omega
              · have w := w.2 y0
                by_cases y0 : isW t pl nx 3
                · have := w.1 y0; omega
                · have w := w.2 y0
                  by_cases y0 : isW t pl nx 4
                  · have := w.1 y0; omega
                  · have := w.2 y0; omega
      omega
    · by_cases d2 : isDg (t pl)
      · obtain ⟨⟨b1, b2, b3⟩, e1, e2, e⟩ := a3 c d d2
        have lt : pl < nx := by
          by_cases q : pl < nx
          · exact q
          · have e2 : nx = pl := by omega
            rw [e2] at b3; exact absurd ⟨c, d2⟩ b3
        have hn : nx ≤ len := by have := (b2 (nx - 1) (by omega) (by omega)).1; omega
        have bd := dv_bd (t := t) (a := pl) (nx - pl).toNat (fun i z1 z2 => (b2 i z1 (by omega)).2)
        by_cases q : nx - pl ≤ 4
        · have := e1 q; omega
        · have := e2 (by omega); omega
      · have g := a4 c d d2
        by_cases q : ru ≠ 0 ∧ t pl = 45 ∧ seeI t len (pl + 1) = 62
        · have a := g.1 q
          have : pl + 1 < len := by
            by_cases z : pl + 1 < len
            · exact z
            · have := q.2.2; unfold seeI at this; rw [if_neg z] at this; exact absurd this (by decide)
          omega
        · have a := g.2 q
          by_cases s : isSg (t pl)
          · have b := a.1 s; unfold isSg at s; omega
          · have b := a.2.1 s; omega
theorem Tk.v0 {t : Int → Int} {len ru v0 v1 p k v pl nx : Int} (h : Tk t len ru v0 p k v pl nx) : ∃ v', Tk t len ru v1 p k v' pl nx ∧ ((k = 2 ∨ k = 3) → v' = v) := by
  obtain ⟨k', v', pl', nx', h'⟩ := Tk.ex t len ru v1 p
  have e := h.1.uniq h'.1
  subst e
  by_cases c : len ≤ pl
  · have g := h.2.1 c; have g' := h'.2.1 c
    obtain ⟨rfl, rfl⟩ : k = k' ∧ nx = nx' := ⟨by omega, by omega⟩
    exact ⟨v', h', fun q => by omega⟩
  · have c : pl < len := by omega
    by_cases d : isLt (t pl)
    · have g := h.2.2.1 c d; have g' := h'.2.2.1 c d
      have e := g.1.uniq g'.1
      subst e
      have e := g.2.1.uniq g'.2.1
      subst e
      exact ⟨v', h', fun _ => by rw [g.2.2, g'.2.2]⟩
    · by_cases d2 : isDg (t pl)
      · have g := h.2.2.2.1 c d d2; have g' := h'.2.2.2.1 c d d2
        have e := g.1.uniq g'.1
        subst e
        have : k = k' := by
          by_cases q : nx - pl ≤ 4
          · rw [g.2.1 q, g'.2.1 q]
          · rw [g.2.2.1 (by omega), g'.2.2.1 (by omega)]
        subst this
        exact ⟨v', h', fun _ => by rw [g.2.2.2, g'.2.2.2]⟩
      · have g := h.2.2.2.2 c d d2; have g' := h'.2.2.2.2 c d d2
        by_cases q : ru ≠ 0 ∧ t pl = 45 ∧ seeI t len (pl + 1) = 62
        · have a := g.1 q; have a' := g'.1 q
          obtain ⟨rfl, rfl⟩ : k = k' ∧ nx = nx' := ⟨by omega, by omega⟩
          exact ⟨v', h', fun q => by omega⟩
        · have a := g.2 q; have a' := g'.2 q
          by_cases s : isSg (t pl)
          · have b := a.1 s; have b' := a'.1 s
            obtain ⟨rfl, rfl⟩ : k = k' ∧ nx = nx' := ⟨by omega, by omega⟩
            refine ⟨v', h', fun q => ?_⟩
            unfold isSg at s; omega
          · have b := a.2.1 s; have b' := a'.2.1 s
            obtain ⟨rfl, rfl⟩ : k = k' ∧ nx = nx' := ⟨by omega, by omega⟩
            exact ⟨v', h', fun q => by omega⟩
/-- the reference's next TOKEN, given the class's -/
theorem next0_at {t t2 : Int → Int} {len a0 tk ta va ru v0 k v pl nx : Int} (h1 : 0 ≤ a0) (h2 : a0 ≤ len) (h8 : len ≤ 800) (hb : ∀ i, 0 ≤ i → i < 800 → 0 ≤ t i ∧ t i ≤ 255) (hT : Tk t len ru v0 a0 k v pl nx) :
    ∃ token value, RT ru k v token ∧ (k = 2 → value = v) ∧ ((0 ≤ va ∧ va ≤ 9999) → 0 ≤ value ∧ value ≤ 9999) ∧ ∀ K : Int → Int → Int → Int → Prop, K nx token pl value → wp_next0 t len a0 tk ta va ru K := by
  obtain ⟨v', hT', hv⟩ := hT.v0 (v1 := 0)
  have hg := hT'.rgK h1 h2
  obtain ⟨token, hRT⟩ : ∃ token, RT ru k v' token := by
    unfold RT
    by_cases q : k = 3
    · by_cases r : ru = 0
      · by_cases z : v' < 6
        · exact ⟨320 + v', by omega⟩
        · exact ⟨1, by omega⟩
      · by_cases z : v' < 23
        · exact ⟨1, by omega⟩
        · exact ⟨307 + v', by omega⟩
    · by_cases z : 10 ≤ k
      · exact ⟨k, by omega⟩
      · by_cases z0 : k = 0
        · exact ⟨1, by omega⟩
        · by_cases z1 : k = 1
          · exact ⟨0, by omega⟩
          · by_cases z2 : k = 2
            · exact ⟨2, by omega⟩
            · exact ⟨k - 1, by omega⟩
  have hRT2 : RT ru k v token := by
    by_cases q : k = 3
    · rw [← hv (Or.inr q)]; exact hRT
    · unfold RT at hRT ⊢; omega
  by_cases q : pl < len ∧ ¬ isLt (t pl) ∧ isDg (t pl)
  · have g := hT'.2.2.2.1 q.1 q.2.1 q.2.2
    have bd := dv_bd (t := t) (a := pl) (nx - pl).toNat (fun i z1 z2 => (g.1.2.1 i z1 (by have := hg.2.2.2.2.1; omega)).2)
    refine ⟨token, v', hRT2, fun z => hv (Or.inl z), fun _ => by rw [g.2.2.2]; omega, fun K hK => rnext_ok h1 h2 h8 hb (fun kind vv next tok place value T R V1 V2 => ?_)⟩
    obtain ⟨e1, e2, e3, e4⟩ := T.uniq hT'
    subst e1; subst e2; subst e3; subst e4
    rw [RT.uniq hg.1 R hRT, V1 q]; exact hK
  · refine ⟨token, va, hRT2, fun z => ?_, fun z => z, fun K hK => rnext_ok h1 h2 h8 hb (fun kind vv next tok place value T R V1 V2 => ?_)⟩
    · exfalso
      subst z
      by_cases c : len ≤ pl
      · exact absurd (hT'.2.1 c).1 (by decide)
      · by_cases d : isLt (t pl)
        · have hx := hg
          have w := (hT'.2.2.1 (by omega) d).2.1
          have hk : ∃ k, Wk t pl nx k ∧ k ≠ 2 := by
            by_cases y : nx - pl = 1
            · by_cases y2 : 97 ≤ t pl ∧ t pl ≤ 122
              · exact ⟨3, ⟨fun _ => ⟨fun _ => rfl, fun z => absurd y2 z⟩, fun z => absurd y z⟩, by decide⟩
              · exact ⟨0, ⟨fun _ => ⟨fun z => absurd z y2, fun _ => rfl⟩, fun z => absurd y z⟩, by decide⟩
            · obtain ⟨kk, hk⟩ := Wk.ex t pl nx
              refine ⟨kk, hk, fun z => ?_⟩
              subst z
              have w := hk.2 y
              by_cases y0 : isW t pl nx 0
              · exact absurd (w.1 y0) (by decide)
              · have w := w.2 y0
                by_cases y0 : isW t pl nx 1
                · exact absurd (w.1 y0) (by decide)
                · have w := w.2 y0
                  by_cases y0 : isW t pl nx 2
                  · exact absurd (w.1 y0) (by decide)
                  · have w := w.2 y0
                    by_cases y0 : isW t pl nx 3
                    · exact absurd (w.1 y0) (by decide)
                    · have w := w.2 y0
                      by_cases y0 : isW t pl nx 4
                      · exact absurd (w.1 y0) (by decide)
                      · exact absurd (w.2 y0) (by decide)
          obtain ⟨kk, hk, hne⟩ := hk
          exact hne (hk.uniq w)
        · by_cases d2 : isDg (t pl)
          · exact q ⟨by omega, d, d2⟩
          · have g := hT'.2.2.2.2 (by omega) d d2
            by_cases r : ru ≠ 0 ∧ t pl = 45 ∧ seeI t len (pl + 1) = 62
            · exact absurd (g.1 r).1 (by decide)
            · by_cases s : isSg (t pl)
              · have := (g.2 r).1 s; unfold isSg at s; omega
              · exact absurd ((g.2 r).2.1 s) (by decide)
    · obtain ⟨e1, e2, e3, e4⟩ := T.uniq hT'
      subst e1; subst e2; subst e3; subst e4
      rw [RT.uniq hg.1 R hRT, V2 q]; exact hK
