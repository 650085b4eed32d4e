-- ===== TOKENS: what the class's Tape.advance and the reference's next0 find at a place of the tape
def seeI (t : Int → Int) (len p : Int) : Int := if p < len then t p else -1
def bl (c : Int) : Prop := c = 32 ∨ c = 10
def isLt (c : Int) : Prop := (97 ≤ c ∧ c ≤ 122) ∨ (65 ≤ c ∧ c ≤ 90)
def isDg (c : Int) : Prop := 48 ≤ c ∧ c ≤ 57
def isSg (c : Int) : Prop := c = 43 ∨ c = 45 ∨ c = 42 ∨ c = 40 ∨ c = 41 ∨ c = 60 ∨ c = 61 ∨ c = 62 ∨ c = 59 ∨ c = 123 ∨ c = 125
def isW (t : Int → Int) (a b i : Int) : Prop := b - a = litN i ∧ ∀ k, 0 ≤ k → k < litN i → t (a + k) = litC i k
def dv (t : Int → Int) (a : Int) : Nat → Int
  | 0 => 0
  | k + 1 => if k < 4 then 10 * dv t a k + t (a + k) - 48 else dv t a k
def Run (f : Int → Prop) (a b : Int) : Prop := a ≤ b ∧ (∀ i, a ≤ i → i < b → f i) ∧ ¬ f b
theorem Run.uniq {f : Int → Prop} {a b b' : Int} (h : Run f a b) (h' : Run f a b') : b = b' := by
  rcases Int.lt_trichotomy b b' with q | q | q
  · exact absurd (h'.2.1 b h.1 q) h.2.2
  · exact q
  · exact absurd (h.2.1 b' h'.1 q) h'.2.2
def Wk (t : Int → Int) (a b kind : Int) : Prop :=
  (b - a = 1 → (97 ≤ t a ∧ t a ≤ 122 → kind = 3) ∧ (¬ (97 ≤ t a ∧ t a ≤ 122) → kind = 0)) ∧
  (b - a ≠ 1 → (isW t a b 0 → kind = 4) ∧ (¬ isW t a b 0 → (isW t a b 1 → kind = 5) ∧ (¬ isW t a b 1 → (isW t a b 2 → kind = 6) ∧ (¬ isW t a b 2 → (isW t a b 3 → kind = 7) ∧ (¬ isW t a b 3 → (isW t a b 4 → kind = 8) ∧ (¬ isW t a b 4 → kind = 0))))))
def Tk (t : Int → Int) (len ru v0 p kind value place next : Int) : Prop :=
  Run (fun i => i < len ∧ bl (t i)) p place ∧
  (len ≤ place → kind = 1 ∧ next = place ∧ value = v0) ∧
  (place < len → isLt (t place) → Run (fun i => i < len ∧ isLt (t i)) place next ∧ Wk t place next kind ∧ value = t place - 97) ∧
  (place < len → ¬ isLt (t place) → isDg (t place) → Run (fun i => i < len ∧ isDg (t i)) place next ∧ (next - place ≤ 4 → kind = 2) ∧ (4 < next - place → kind = 0) ∧ value = dv t place (next - place).toNat) ∧
  (place < len → ¬ isLt (t place) → ¬ isDg (t place) → ((ru ≠ 0 ∧ t place = 45 ∧ seeI t len (place + 1) = 62) → kind = 9 ∧ next = place + 2 ∧ value = v0) ∧ (¬ (ru ≠ 0 ∧ t place = 45 ∧ seeI t len (place + 1) = 62) → (isSg (t place) → kind = t place) ∧ (¬ isSg (t place) → kind = 0) ∧ next = place + 1 ∧ value = v0))
theorem Wk.uniq {t : Int → Int} {a b k k' : Int} (h : Wk t a b k) (h' : Wk t a b k') : k = k' := by
  by_cases c : b - a = 1
  · by_cases d : 97 ≤ t a ∧ t a ≤ 122
    · rw [(h.1 c).1 d, (h'.1 c).1 d]
    · rw [(h.1 c).2 d, (h'.1 c).2 d]
  · have g := h.2 c; have g' := h'.2 c
    by_cases c0 : isW t a b 0
    · rw [g.1 c0, g'.1 c0]
    · have g := g.2 c0; have g' := g'.2 c0
      by_cases c1 : isW t a b 1
      · rw [g.1 c1, g'.1 c1]
      · have g := g.2 c1; have g' := g'.2 c1
        by_cases c2 : isW t a b 2
        · rw [g.1 c2, g'.1 c2]
        · have g := g.2 c2; have g' := g'.2 c2
          by_cases c3 : isW t a b 3
          · rw [g.1 c3, g'.1 c3]
          · have g := g.2 c3; have g' := g'.2 c3
            by_cases c4 : isW t a b 4
            · rw [g.1 c4, g'.1 c4]
            · rw [g.2 c4, g'.2 c4]
theorem Tk.uniq {t : Int → Int} {len ru v0 p k v pl nx k' v' pl' nx' : Int} (h : Tk t len ru v0 p k v pl nx) (h' : Tk t len ru v0 p k' v' pl' nx') : k = k' ∧ v = v' ∧ pl = pl' ∧ nx = nx' := by
  have e := h.1.uniq h'.1
  subst e
  by_cases c : len ≤ pl
  · have g := h.2.1 c; have g' := h'.2.1 c
    exact ⟨by omega, by omega, rfl, by omega⟩
  · have c : pl < len := by omega
    by_cases d : isLt (t pl)
    · have g := h.2.2.1 c d; have g' := h'.2.2.1 c d
      have e := g.1.uniq g'.1
      subst e
      exact ⟨g.2.1.uniq g'.2.1, by rw [g.2.2, g'.2.2], rfl, rfl⟩
    · by_cases d2 : isDg (t pl)
      · have g := h.2.2.2.1 c d d2; have g' := h'.2.2.2.1 c d d2
        have e := g.1.uniq g'.1
        subst e
        refine ⟨?_, by rw [g.2.2.2, g'.2.2.2], rfl, rfl⟩
        by_cases q : nx - pl ≤ 4
        · rw [g.2.1 q, g'.2.1 q]
        · rw [g.2.2.1 (by omega), g'.2.2.1 (by omega)]
      · have g := h.2.2.2.2 c d d2; have g' := h'.2.2.2.2 c d d2
        by_cases q : ru ≠ 0 ∧ t pl = 45 ∧ seeI t len (pl + 1) = 62
        · have a := g.1 q; have a' := g'.1 q
          exact ⟨by omega, by omega, rfl, by omega⟩
        · have a := g.2 q; have a' := g'.2 q
          by_cases s : isSg (t pl)
          · have b := a.1 s; have b' := a'.1 s
            exact ⟨by omega, by omega, rfl, by omega⟩
          · have b := a.2.1 s; have b' := a'.2.1 s
            exact ⟨by omega, by omega, rfl, by omega⟩
theorem Run.ex {f : Int → Prop} {len : Int} (hf : ∀ i, f i → i < len) : ∀ (n : Nat) (a : Int), len - a ≤ n → ∃ b, Run f a b
  | 0, a, h => ⟨a, by omega, fun i z1 z2 => absurd z2 (by omega), fun q => by have := hf a q; omega⟩
  | n + 1, a, h => by
    by_cases c : f a
    · obtain ⟨b, b1, b2, b3⟩ := Run.ex hf n (a + 1) (by omega)
      refine ⟨b, by omega, fun i z1 z2 => ?_, b3⟩
      by_cases q : i = a
      · rw [q]; exact c
      · exact b2 i (by omega) z2
    · exact ⟨a, by omega, fun i z1 z2 => absurd z2 (by omega), c⟩
theorem Wk.ex (t : Int → Int) (a b : Int) : ∃ k, Wk t a b k := by
  by_cases c : b - a = 1
  · by_cases d : 97 ≤ t a ∧ t a ≤ 122
    · exact ⟨3, fun _ => ⟨fun _ => rfl, fun z => absurd d z⟩, fun z => absurd c z⟩
    · exact ⟨0, fun _ => ⟨fun z => absurd z d, fun _ => rfl⟩, fun z => absurd c z⟩
  · by_cases c0 : isW t a b 0
    · exact ⟨4, fun z => absurd z c, fun _ => ⟨fun _ => rfl, fun z => absurd c0 z⟩⟩
    · by_cases c1 : isW t a b 1
      · exact ⟨5, fun z => absurd z c, fun _ => ⟨fun z => absurd z c0, fun _ => ⟨fun _ => rfl, fun z => absurd c1 z⟩⟩⟩
      · by_cases c2 : isW t a b 2
        · exact ⟨6, fun z => absurd z c, fun _ => ⟨fun z => absurd z c0, fun _ => ⟨fun z => absurd z c1, fun _ => ⟨fun _ => rfl, fun z => absurd c2 z⟩⟩⟩⟩
        · by_cases c3 : isW t a b 3
          · exact ⟨7, fun z => absurd z c, fun _ => ⟨fun z => absurd z c0, fun _ => ⟨fun z => absurd z c1, fun _ => ⟨fun z => absurd z c2, fun _ => ⟨fun _ => rfl, fun z => absurd c3 z⟩⟩⟩⟩⟩
          · by_cases c4 : isW t a b 4
            · exact ⟨8, fun z => absurd z c, fun _ => ⟨fun z => absurd z c0, fun _ => ⟨fun z => absurd z c1, fun _ => ⟨fun z => absurd z c2, fun _ => ⟨fun z => absurd z c3, fun _ => ⟨fun _ => rfl, fun z => absurd c4 z⟩⟩⟩⟩⟩⟩
            · exact ⟨0, fun z => absurd z c, fun _ => ⟨fun z => absurd z c0, fun _ => ⟨fun z => absurd z c1, fun _ => ⟨fun z => absurd z c2, fun _ => ⟨fun z => absurd z c3, fun _ => ⟨fun z => absurd z c4, fun _ => rfl⟩⟩⟩⟩⟩⟩
theorem Tk.ex (t : Int → Int) (len ru v0 p : Int) : ∃ k v pl nx, Tk t len ru v0 p k v pl nx := by
  obtain ⟨pl, hp⟩ := Run.ex (f := fun i => i < len ∧ bl (t i)) (len := len) (fun i h => h.1) (len - p).toNat p (by omega)
  by_cases c : len ≤ pl
  · exact ⟨1, v0, pl, pl, hp, fun _ => ⟨rfl, rfl, rfl⟩, fun z => absurd z (by omega), fun z => absurd z (by omega), fun z => absurd z (by omega)⟩
  · by_cases d : isLt (t pl)
    · obtain ⟨nx, hn⟩ := Run.ex (f := fun i => i < len ∧ isLt (t i)) (len := len) (fun i h => h.1) (len - pl).toNat pl (by omega)
      obtain ⟨k, hk⟩ := Wk.ex t pl nx
      exact ⟨k, t pl - 97, pl, nx, hp, fun z => absurd z c, fun _ _ => ⟨hn, hk, rfl⟩, fun _ z => absurd d z, fun _ z => absurd d z⟩
    · by_cases d2 : isDg (t pl)
      · obtain ⟨nx, hn⟩ := Run.ex (f := fun i => i < len ∧ isDg (t i)) (len := len) (fun i h => h.1) (len - pl).toNat pl (by omega)
        by_cases q : nx - pl ≤ 4
        · exact ⟨2, dv t pl (nx - pl).toNat, pl, nx, hp, fun z => absurd z c, fun _ z => absurd z d, fun _ _ _ => ⟨hn, fun _ => rfl, fun z => absurd z (by omega), rfl⟩, fun _ _ z => absurd d2 z⟩
        · exact ⟨0, dv t pl (nx - pl).toNat, pl, nx, hp, fun z => absurd z c, fun _ z => absurd z d, fun _ _ _ => ⟨hn, fun z => absurd z q, fun _ => rfl, rfl⟩, fun _ _ z => absurd d2 z⟩
      · by_cases q : ru ≠ 0 ∧ t pl = 45 ∧ seeI t len (pl + 1) = 62
        · exact ⟨9, v0, pl, pl + 2, hp, fun z => absurd z c, fun _ z => absurd z d, fun _ _ z => absurd z d2, fun _ _ _ => ⟨fun _ => ⟨rfl, rfl, rfl⟩, fun z => absurd q z⟩⟩
        · by_cases s : isSg (t pl)
          · exact ⟨t pl, v0, pl, pl + 1, hp, fun z => absurd z c, fun _ z => absurd z d, fun _ _ z => absurd z d2, fun _ _ _ => ⟨fun z => absurd z q, fun _ => ⟨fun _ => rfl, fun z => absurd s z, rfl, rfl⟩⟩⟩
          · exact ⟨0, v0, pl, pl + 1, hp, fun z => absurd z c, fun _ z => absurd z d, fun _ _ z => absurd z d2, fun _ _ _ => ⟨fun z => absurd z q, fun _ => ⟨fun z => absurd z s, fun _ => rfl, rfl, rfl⟩⟩⟩
theorem litN_bd (i : Int) : 0 ≤ litN i ∧ litN i ≤ 5 := by
  unfold litN litL
  repeat' split
  all_goals decide
theorem dv_bd {t : Int → Int} {a : Int} : ∀ k : Nat, (∀ i, a ≤ i → i < a + k → isDg (t i)) → 0 ≤ dv t a k ∧ (k = 0 → dv t a k = 0) ∧ (k ≤ 1 → dv t a k ≤ 9) ∧ (k ≤ 2 → dv t a k ≤ 99) ∧ (k ≤ 3 → dv t a k ≤ 999) ∧ dv t a k ≤ 9999
  | 0, _ => by unfold dv; omega
  | k + 1, h => by
    have g := dv_bd k (fun i h1 h2 => h i h1 (by omega))
    have d := h (a + k) (by omega) (by omega)
    unfold isDg at d
    unfold dv
    split <;> omega
-- ===== the class's side
def Ot (σ τ : Sg) : Prop := τ.2 = σ.2 ∧ ∀ q j, (q ≠ 3 ∨ j < 2 ∨ 5 < j) → τ.1 q j = σ.1 q j
theorem pU_ne {σ : Sg} {q j a b : Nat} {v : Int} (h : a ≠ q ∨ b ≠ j) : (pU σ q j v).1 a b = σ.1 a b := by
  show (bif (Nat.beq a q && Nat.beq b j) then v else σ.1 a b) = _
  have : (Nat.beq a q && Nat.beq b j) = false := by
    rcases h with h | h
    · rw [show Nat.beq a q = false from Bool.eq_false_iff.mpr (fun z => h (Nat.eq_of_beq_eq_true z))]; rfl
    · rw [show Nat.beq b j = false from Bool.eq_false_iff.mpr (fun z => h (Nat.eq_of_beq_eq_true z))]; exact Bool.and_false _
  rw [this]; rfl
theorem pU_at {σ : Sg} {q j : Nat} {v : Int} : (pU σ q j v).1 q j = v := by
  show (bif (Nat.beq q q && Nat.beq j j) then v else σ.1 q j) = _
  rw [Nat.beq_refl, Nat.beq_refl]; rfl
theorem Ot.refl (σ : Sg) : Ot σ σ := ⟨rfl, fun _ _ _ => rfl⟩
theorem Ot.put {σ τ : Sg} (h : Ot σ τ) {j0 : Nat} (h1 : 2 ≤ j0) (h2 : j0 ≤ 5) {v : Int} : Ot σ (pU τ 3 j0 v) :=
  ⟨h.1, fun q j hq => (pU_ne (by omega)).trans (h.2 q j hq)⟩
theorem byteAt_ev {τ : Sg} {x : Int} {K : Int → Prop} (h0 : 0 ≤ x) (h8 : τ.1 3 1 ≤ 800) (hK : K (seeI (τ.2.1 4) (τ.1 3 1) x)) : wp5_T_byteAt τ x K := by
  unfold wp5_T_byteAt
  unfold seeI at hK
  refine ⟨fun h => absurd h (by omega), fun _ => ⟨fun h => ?_, fun h => ⟨⟨h0, by omega⟩, ?_⟩⟩⟩
  · rw [if_neg (by omega)] at hK; exact hK
  · rw [if_pos h] at hK; exact hK
theorem isSmall_ev {x : Int} {K : Int → Prop} (hy : 97 ≤ x ∧ x ≤ 122 → K 1) (hn : ¬ (97 ≤ x ∧ x ≤ 122) → K 0) : wp5_T_isSmallLetter x K := by
  unfold wp5_T_isSmallLetter
  repeat' (first | intro _ | with_reducible apply And.intro)
  all_goals first | exact hy (by omega) | exact hn (by omega)
theorem isLetter_ev {x : Int} {K : Int → Prop} (hy : isLt x → K 1) (hn : ¬ isLt x → K 0) : wp5_T_isLetter x K := by
  unfold wp5_T_isLetter
  unfold isLt at hy hn
  refine isSmall_ev (fun h => ⟨fun _ => hy (by omega), fun q => absurd q (by decide)⟩) (fun h => ⟨fun q => absurd rfl q, fun _ => ?_⟩)
  repeat' (first | intro _ | with_reducible apply And.intro)
  all_goals first | exact hy (by omega) | exact hn (by omega)
theorem isDigit_ev {x : Int} {K : Int → Prop} (hy : isDg x → K 1) (hn : ¬ isDg x → K 0) : wp5_T_isDigit x K := by
  unfold wp5_T_isDigit
  unfold isDg at hy hn
  repeat' (first | intro _ | with_reducible apply And.intro)
  all_goals first | exact hy (by omega) | exact hn (by omega)
theorem isSign_ev {x : Int} {K : Int → Prop} (hy : isSg x → K 1) (hn : ¬ isSg x → K 0) : wp5_T_isSign x K := by
  unfold isSg at hy hn
  have b : ∀ s s', (s = 0 ∨ s = 1) → (s' = 0 ∨ s' = 1) → (s = 1 → isSg x) → (s' = 1 → isSg x) → (s = 0 → s' = 0 → ¬ (x = 43 ∨ x = 45 ∨ x = 42 ∨ x = 40 ∨ x = 41 ∨ x = 60 ∨ x = 61 ∨ x = 62)) → wp5_T_isSign_59 K x s s' := by
    intro s s' h1 h2 h3 h4 h5
    unfold isSg at h3 h4
    unfold wp5_T_isSign_59
    repeat' (first | intro _ | with_reducible apply And.intro)
    all_goals first | exact hy (by omega) | exact hn (by omega)
  have a : ∀ s, (s = 0 ∨ s = 1) → (s = 1 → isSg x) → (s = 0 → ¬ (x = 43 ∨ x = 45 ∨ x = 42 ∨ x = 40 ∨ x = 41)) → wp5_T_isSign_35 K x s := by
    intro s h1 h3 h5
    unfold wp5_T_isSign_35 wp5_T_isSign_54
    repeat' (first | intro _ | with_reducible apply And.intro)
    all_goals exact b _ _ h1 (by omega) h3 (fun _ => by unfold isSg; omega) (fun _ _ => by omega)
  unfold wp5_T_isSign wp5_T_isSign_30
  repeat' (first | intro _ | with_reducible apply And.intro)
  all_goals exact a _ (by omega) (fun _ => by unfold isSg; omega) (fun _ => by omega)
theorem takeSign_ev {τ : Sg} {ru : Int} {K : Sg → Prop} {t : Int → Int} {len a : Int} (e1 : τ.2.1 4 = t) (e2 : τ.1 3 1 = len) (e3 : τ.1 3 4 = a) (h0 : 0 ≤ a) (ha : a ≤ len) (h8 : len ≤ 800) (hb : ∀ i, 0 ≤ i → i < 800 → 0 ≤ t i ∧ t i ≤ 255)
    (hK : ∀ kind next, (len ≤ a → kind = 1 ∧ next = a) → (a < len → ((ru ≠ 0 ∧ t a = 45 ∧ seeI t len (a + 1) = 62) → kind = 9 ∧ next = a + 2) ∧ (¬ (ru ≠ 0 ∧ t a = 45 ∧ seeI t len (a + 1) = 62) → (isSg (t a) → kind = t a) ∧ (¬ isSg (t a) → kind = 0) ∧ next = a + 1)) → ∀ τ', Ot τ τ' → τ'.1 3 2 = kind → τ'.1 3 3 = τ.1 3 3 → τ'.1 3 4 = a → τ'.1 3 5 = next → K τ') :
    wp5_T_takeSign τ (seeI t len a) ru K := by
  have s75 : a < len → ¬ (ru ≠ 0 ∧ t a = 45 ∧ seeI t len (a + 1) = 62) → wp5_T_takeSign_75 K τ (seeI t len a) := by
    intro c q
    have es : seeI t len a = t a := if_pos c
    rw [es]
    unfold wp5_T_takeSign_75
    refine isSign_ev (fun s => ⟨fun z => absurd z (by decide), fun _ => ?_⟩) (fun s => ⟨fun _ => ?_, fun z => absurd rfl z⟩)
    · exact hK (t a) (a + 1) (fun z => absurd c (by omega)) (fun _ => ⟨fun z => absurd z q, fun _ => ⟨fun _ => rfl, fun z => absurd s z, rfl⟩⟩) _ (((Ot.refl τ).put (by decide) (by decide)).put (by decide) (by decide)) rfl rfl e3 (by show τ.1 3 4 + 1 = _; rw [e3])
    · exact hK 0 (a + 1) (fun z => absurd c (by omega)) (fun _ => ⟨fun z => absurd z q, fun _ => ⟨fun z => absurd z s, fun _ => rfl, rfl⟩⟩) _ (((Ot.refl τ).put (by decide) (by decide)).put (by decide) (by decide)) rfl rfl e3 (by show τ.1 3 4 + 1 = _; rw [e3])
  unfold wp5_T_takeSign
  rw [e3]
  refine ⟨⟨by omega, by omega⟩, fun c => ?_, fun c => ?_⟩
  · have c1 : a < len := by
      unfold seeI at c; split at c
      · assumption
      · exact absurd rfl c
    have es : seeI t len a = t a := if_pos c1
    refine ⟨fun z => s75 c1 (fun q => q.1 z), fun z => ⟨fun y => s75 c1 (fun q => y (es.trans q.2.1)), fun y => ?_⟩⟩
    refine byteAt_ev (by omega) (by show τ.1 3 1 ≤ 800; omega) ?_
    have ev : seeI ((pU τ 3 5 (a + 1)).2.1 4) ((pU τ 3 5 (a + 1)).1 3 1) (a + 1) = seeI t len (a + 1) := by
      show seeI (τ.2.1 4) (τ.1 3 1) (a + 1) = _
      rw [e1, e2]
    rw [ev]
    refine ⟨fun w => s75 c1 (fun q => w q.2.2), fun w => ⟨⟨by omega, by omega⟩, ?_⟩⟩
    exact hK 9 (a + 2) (fun q => absurd c1 (by omega)) (fun _ => ⟨fun _ => ⟨rfl, rfl⟩, fun q => absurd ⟨z, es.symm.trans y, w⟩ q⟩) _ ((((Ot.refl τ).put (by decide) (by decide)).put (by decide) (by decide)).put (by decide) (by decide)) rfl rfl e3 rfl
  · have c1 : len ≤ a := by
      unfold seeI at c; split at c
      · have := hb a h0 (by omega); omega
      · omega
    exact hK 1 a (fun _ => ⟨rfl, rfl⟩) (fun q => absurd q (by omega)) _ ((((Ot.refl τ).put (by decide) (by decide)).put (by decide) (by decide)).put (by decide) (by decide)) rfl rfl e3 rfl
theorem takeDigits_ev {τ : Sg} {K : Sg → Prop} {t : Int → Int} {len a : Int} (e1 : τ.2.1 4 = t) (e2 : τ.1 3 1 = len) (e3 : τ.1 3 4 = a) (h0 : 0 ≤ a) (ha : a ≤ len) (h8 : len ≤ 800)
    (hK : ∀ next, Run (fun i => i < len ∧ isDg (t i)) a next → ∀ τ', Ot τ τ' → (next - a ≤ 4 → τ'.1 3 2 = 2) → (4 < next - a → τ'.1 3 2 = 0) → τ'.1 3 3 = dv t a (next - a).toNat → τ'.1 3 4 = a → τ'.1 3 5 = next → K τ') :
    wp5_T_takeDigits τ K := by
  unfold wp5_T_takeDigits
  rw [e3]
  have ex : ∀ p v, Ot τ v → v.1 3 4 = a → v.1 3 5 = p → a ≤ p → p ≤ len → (∀ i, a ≤ i → i < p → i < len ∧ isDg (t i)) → v.1 3 3 = dv t a (p - a).toNat → ¬ (p < len ∧ isDg (t p)) → wp5_T_takeDigits_87 K v := by
    intro p v o o1 o2 o3 o4 o5 o6 o7
    unfold wp5_T_takeDigits_87
    rw [o1, o2]
    refine ⟨⟨by omega, by omega⟩, fun q => ?_, fun q => ?_⟩
    · exact hK p ⟨o3, o5, o7⟩ _ (o.put (by decide) (by decide)) (fun z => absurd z (by omega)) (fun _ => rfl) o6 o1 o2
    · exact hK p ⟨o3, o5, o7⟩ _ (o.put (by decide) (by decide)) (fun _ => rfl) (fun z => absurd z (by omega)) o6 o1 o2
  refine wl2_rule (fun p v => Ot τ v ∧ v.1 3 4 = a ∧ v.1 3 5 = p ∧ a ≤ p ∧ p ≤ len ∧ (∀ i, a ≤ i → i < p → i < len ∧ isDg (t i)) ∧ v.1 3 3 = dv t a (p - a).toNat) (fun p _ => (len - p).toNat) ?_ ⟨((Ot.refl τ).put (by decide) (by decide)).put (by decide) (by decide), e3, rfl, by omega, ha, fun i z1 z2 => absurd z2 (by omega), by rw [show (a - a).toNat = 0 by omega]; rfl⟩
  intro P p v ⟨o, o1, o2, o3, o4, o5, o6⟩ ih
  have l1 : v.1 3 1 = len := (o.2 3 1 (by omega)).trans e2
  have l2 : v.2.1 4 = t := by rw [o.1]; exact e1
  unfold wp5_T_takeDigits_18
  rw [l1, o1]
  refine ⟨fun c => ex p v o o1 o2 o3 o4 o5 o6 (fun q => by omega), fun c => ?_⟩
  have es : seeI (v.2.1 4) (v.1 3 1) p = t p := by rw [l1, l2]; exact if_pos c
  refine byteAt_ev (by omega) (by omega) ?_
  rw [es]
  refine isDigit_ev (fun d => ⟨fun z => absurd z (by decide), fun _ => ⟨⟨by omega, by omega⟩, fun z => ?_, fun z => ?_⟩⟩) (fun d => ⟨fun _ => ex p v o o1 o2 o3 o4 o5 o6 (fun q => d q.2), fun z => absurd rfl z⟩)
  · refine ⟨⟨by omega, by omega⟩, ih _ _ ⟨(o.put (by decide) (by decide)).put (by decide) (by decide), o1, rfl, by omega, by omega, fun i z1 z2 => ?_, ?_⟩ (by omega)⟩
    · by_cases q : i = p
      · rw [q]; exact ⟨c, d⟩
      · exact o5 i z1 (by omega)
    · show v.1 3 3 = _
      rw [o6, show (p + 1 - a).toNat = (p - a).toNat + 1 by omega]
      show _ = if (p - a).toNat < 4 then _ else _
      rw [if_neg (by omega)]
  · refine byteAt_ev (by omega) (by omega) ?_
    rw [es, o6]
    have bd := dv_bd (t := t) (a := a) (p - a).toNat (fun i z1 z2 => (o5 i z1 (by omega)).2)
    unfold isDg at d
    refine ⟨⟨by omega, by omega⟩, ⟨by omega, by omega⟩, ih _ _ ⟨(o.put (by decide) (by decide)).put (by decide) (by decide), o1, rfl, by omega, by omega, fun i z1 z2 => ?_, ?_⟩ (by omega)⟩
    · by_cases q : i = p
      · rw [q]; exact ⟨c, d⟩
      · exact o5 i z1 (by omega)
    · show dv t a (p - a).toNat * 10 + t p - 48 = _
      rw [show (p + 1 - a).toNat = (p - a).toNat + 1 by omega]
      show _ = if (p - a).toNat < 4 then 10 * dv t a (p - a).toNat + t (a + ((p - a).toNat : Nat)) - 48 else _
      rw [if_pos (by omega), show a + (((p - a).toNat : Nat) : Int) = p by omega, Int.mul_comm]
theorem isText_ev {τ : Sg} {i : Int} {K : Int → Prop} {t : Int → Int} {len a b : Int} (e1 : τ.2.1 4 = t) (e2 : τ.1 3 1 = len) (e3 : τ.1 3 4 = a) (e4 : τ.1 3 5 = b) (h0 : 0 ≤ a) (hab : a ≤ b) (hb : b ≤ len) (h8 : len ≤ 800) (hy : isW t a b i → K 1) (hn : ¬ isW t a b i → K 0) : wp5_T_isText τ i K := by
  unfold wp5_T_isText
  rw [e3, e4]
  have hl := litN_bd i
  refine ⟨⟨by omega, by omega⟩, fun c => ?_, fun c => hn (fun q => c q.1.symm)⟩
  refine wl1_rule (fun k => 0 ≤ k ∧ k ≤ litN i ∧ ∀ j, 0 ≤ j → j < k → t (a + j) = litC i j) (fun k => (litN i - k).toNat) ?_ ⟨by omega, by omega, fun j z1 z2 => absurd z2 (by omega)⟩
  intro P k ⟨k0, k1, k2⟩ ih
  unfold wp5_T_isText_20
  rw [e3]
  refine ⟨fun z => hy ⟨c.symm, fun j z1 z2 => k2 j z1 (by omega)⟩, fun z => ⟨⟨by omega, by omega⟩, ?_⟩⟩
  refine byteAt_ev (by omega) (by omega) ?_
  have es : seeI (τ.2.1 4) (τ.1 3 1) (a + k) = t (a + k) := by rw [e1, e2]; exact if_pos (by omega)
  rw [es]
  refine ⟨⟨k0, z⟩, fun w => ⟨⟨by omega, by omega⟩, ih _ ⟨by omega, by omega, fun j z1 z2 => ?_⟩ (by omega)⟩, fun w => hn (fun q => w (q.2 k k0 z))⟩
  by_cases q : j = k
  · rw [q]; exact w
  · exact k2 j z1 (by omega)
theorem takeLetters_ev {τ : Sg} {K : Sg → Prop} {t : Int → Int} {len a : Int} (e1 : τ.2.1 4 = t) (e2 : τ.1 3 1 = len) (e3 : τ.1 3 4 = a) (h0 : 0 ≤ a) (ha : a < len) (h8 : len ≤ 800) (hl : isLt (t a))
    (hK : ∀ next kind, Run (fun i => i < len ∧ isLt (t i)) a next → Wk t a next kind → ∀ τ', Ot τ τ' → τ'.1 3 2 = kind → τ'.1 3 3 = t a - 97 → τ'.1 3 4 = a → τ'.1 3 5 = next → K τ') :
    wp5_T_takeLetters τ K := by
  unfold wp5_T_takeLetters
  rw [e3]
  have ex : ∀ p v, Ot τ v → v.1 3 4 = a → v.1 3 5 = p → a ≤ p → p ≤ len → (∀ i, a ≤ i → i < p → i < len ∧ isLt (t i)) → ¬ (p < len ∧ isLt (t p)) → wp5_T_takeLetters_45 K v := by
    intro p v o o1 o2 o3 o4 o5 o7
    have l1 : v.1 3 1 = len := (o.2 3 1 (by omega)).trans e2
    have l2 : v.2.1 4 = t := by rw [o.1]; exact e1
    have es : seeI (v.2.1 4) (v.1 3 1) a = t a := by rw [l1, l2]; exact if_pos ha
    have hR : Run (fun i => i < len ∧ isLt (t i)) a p := ⟨o3, o5, o7⟩
    unfold wp5_T_takeLetters_45
    rw [o1, o2]
    refine byteAt_ev (by omega) (by omega) ?_
    rw [es]
    have bd := hl
    unfold isLt at bd
    have fin : ∀ kind, Wk t a p kind → K (pU (pU v 3 3 (t a - 97)) 3 2 kind) := fun kind hw => hK p kind hR hw _ ((o.put (by decide) (by decide)).put (by decide) (by decide)) rfl rfl o1 o2
    have tx : ∀ (i : Int) (K' : Int → Prop), (isW t a p i → K' 1) → (¬ isW t a p i → K' 0) → wp5_T_isText (pU v 3 3 (t a - 97)) i K' := fun i K' y1 y2 => isText_ev (τ := pU v 3 3 (t a - 97)) l2 l1 o1 o2 h0 o3 o4 h8 y1 y2
    refine ⟨⟨by omega, by omega⟩, ⟨by omega, by omega⟩, fun c => ?_, fun c => ?_⟩
    · refine tx 0 _ (fun w0 => ⟨fun z => absurd z (by decide), fun _ => fin 4 ⟨fun z => absurd z c, fun _ => ⟨fun _ => rfl, fun z => absurd w0 z⟩⟩⟩) (fun w0 => ⟨fun _ => ?_, fun z => absurd rfl z⟩)
      refine tx 1 _ (fun w1 => ⟨fun z => absurd z (by decide), fun _ => fin 5 ⟨fun z => absurd z c, fun _ => ⟨fun z => absurd z w0, fun _ => ⟨fun _ => rfl, fun z => absurd w1 z⟩⟩⟩⟩) (fun w1 => ⟨fun _ => ?_, fun z => absurd rfl z⟩)
      refine tx 2 _ (fun w2 => ⟨fun z => absurd z (by decide), fun _ => fin 6 ⟨fun z => absurd z c, fun _ => ⟨fun z => absurd z w0, fun _ => ⟨fun z => absurd z w1, fun _ => ⟨fun _ => rfl, fun z => absurd w2 z⟩⟩⟩⟩⟩) (fun w2 => ⟨fun _ => ?_, fun z => absurd rfl z⟩)
      refine tx 3 _ (fun w3 => ⟨fun z => absurd z (by decide), fun _ => fin 7 ⟨fun z => absurd z c, fun _ => ⟨fun z => absurd z w0, fun _ => ⟨fun z => absurd z w1, fun _ => ⟨fun z => absurd z w2, fun _ => ⟨fun _ => rfl, fun z => absurd w3 z⟩⟩⟩⟩⟩⟩) (fun w3 => ⟨fun _ => ?_, fun z => absurd rfl z⟩)
      refine tx 4 _ (fun w4 => ⟨fun z => absurd z (by decide), fun _ => fin 8 ⟨fun z => absurd z c, fun _ => ⟨fun z => absurd z w0, fun _ => ⟨fun z => absurd z w1, fun _ => ⟨fun z => absurd z w2, fun _ => ⟨fun z => absurd z w3, fun _ => ⟨fun _ => rfl, fun z => absurd w4 z⟩⟩⟩⟩⟩⟩⟩) (fun w4 => ⟨fun _ => fin 0 ⟨fun z => absurd z c, fun _ => ⟨fun z => absurd z w0, fun _ => ⟨fun z => absurd z w1, fun _ => ⟨fun z => absurd z w2, fun _ => ⟨fun z => absurd z w3, fun _ => ⟨fun z => absurd z w4, fun _ => rfl⟩⟩⟩⟩⟩⟩, fun z => absurd rfl z⟩)
    · refine byteAt_ev (by omega) (by show v.1 3 1 ≤ 800; omega) ?_
      have es2 : seeI ((pU v 3 3 (t a - 97)).2.1 4) ((pU v 3 3 (t a - 97)).1 3 1) a = t a := es
      rw [es2]
      refine isSmall_ev (fun s => ⟨fun z => absurd z (by decide), fun _ => fin 3 ⟨fun _ => ⟨fun _ => rfl, fun z => absurd s z⟩, fun z => absurd c z⟩⟩) (fun s => ⟨fun _ => fin 0 ⟨fun _ => ⟨fun z => absurd z s, fun _ => rfl⟩, fun z => absurd c z⟩, fun z => absurd rfl z⟩)
  refine wl2_rule (fun p v => Ot τ v ∧ v.1 3 4 = a ∧ v.1 3 5 = p ∧ a ≤ p ∧ p ≤ len ∧ (∀ i, a ≤ i → i < p → i < len ∧ isLt (t i))) (fun p _ => (len - p).toNat) ?_ ⟨(Ot.refl τ).put (by decide) (by decide), e3, rfl, by omega, by omega, fun i z1 z2 => absurd z2 (by omega)⟩
  intro P p v ⟨o, o1, o2, o3, o4, o5⟩ ih
  have l1 : v.1 3 1 = len := (o.2 3 1 (by omega)).trans e2
  have l2 : v.2.1 4 = t := by rw [o.1]; exact e1
  unfold wp5_T_takeLetters_13
  rw [l1]
  refine ⟨fun c => ex p v o o1 o2 o3 o4 o5 (fun q => by omega), fun c => ?_⟩
  have es : seeI (v.2.1 4) (v.1 3 1) p = t p := by rw [l1, l2]; exact if_pos c
  refine byteAt_ev (by omega) (by omega) ?_
  rw [es]
  refine isLetter_ev (fun d => ⟨fun z => absurd z (by decide), fun _ => ⟨⟨by omega, by omega⟩, ih _ _ ⟨o.put (by decide) (by decide), o1, rfl, by omega, by omega, fun i z1 z2 => ?_⟩ (by omega)⟩⟩) (fun d => ⟨fun _ => ex p v o o1 o2 o3 o4 o5 (fun q => d q.2), fun z => absurd rfl z⟩)
  by_cases q : i = p
  · rw [q]; exact ⟨c, d⟩
  · exact o5 i z1 (by omega)
theorem Ot.trans {a b c : Sg} (h : Ot a b) (h' : Ot b c) : Ot a c := ⟨h'.1.trans h.1, fun q j z => (h'.2 q j z).trans (h.2 q j z)⟩
theorem advance_ok {σ : Sg} {ru : Int} {K : Sg → Prop} (h1 : 0 ≤ σ.1 3 5) (h2 : σ.1 3 5 ≤ σ.1 3 1) (h8 : σ.1 3 1 ≤ 800) (hb : ∀ i, 0 ≤ i → i < 800 → 0 ≤ σ.2.1 4 i ∧ σ.2.1 4 i ≤ 255)
    (hK : ∀ τ, Ot σ τ → Tk (σ.2.1 4) (σ.1 3 1) ru (σ.1 3 3) (σ.1 3 5) (τ.1 3 2) (τ.1 3 3) (τ.1 3 4) (τ.1 3 5) → K τ) : wp5_T_advance σ ru K := by
  obtain ⟨t, et⟩ : ∃ t, t = σ.2.1 4 := ⟨_, rfl⟩
  obtain ⟨len, el⟩ : ∃ len, len = σ.1 3 1 := ⟨_, rfl⟩
  obtain ⟨a, ea⟩ : ∃ a, a = σ.1 3 5 := ⟨_, rfl⟩
  rw [← et, ← el, ← ea] at hK
  rw [← et] at hb
  rw [← el] at h2 h8
  rw [← ea] at h1 h2
  unfold wp5_T_advance
  rw [← ea]
  have ex : ∀ p v, Ot σ v → v.1 3 3 = σ.1 3 3 → v.1 3 4 = p → a ≤ p → p ≤ len → (∀ i, a ≤ i → i < p → i < len ∧ bl (t i)) → ¬ (p < len ∧ bl (t p)) → wp5_T_advance_54 K ru v := by
    intro p v o o9 o1 o3 o4 o5 o7
    have l1 : v.1 3 1 = len := (o.2 3 1 (by omega)).trans el.symm
    have l2 : v.2.1 4 = t := by rw [o.1]; exact et.symm
    have hR : Run (fun i => i < len ∧ bl (t i)) a p := ⟨o3, o5, o7⟩
    unfold wp5_T_advance_54
    rw [o1]
    refine byteAt_ev (by omega) (by omega) ?_
    rw [l1, l2]
    by_cases c : p < len
    · have es : seeI t len p = t p := if_pos c
      refine isLetter_ev (fun d => ⟨fun z => absurd z (by decide), fun _ => ?_⟩) (fun d => ⟨fun _ => ?_, fun z => absurd rfl z⟩)
      · rw [es] at d
        refine takeLetters_ev l2 l1 o1 (by omega) c h8 d (fun nx kd r w τ' oo q1 q2 q3 q4 => hK τ' (o.trans oo) ?_)
        rw [q1, q2, q3, q4]
        exact ⟨hR, fun z => absurd c (by omega), fun _ _ => ⟨r, w, rfl⟩, fun _ z => absurd d z, fun _ z => absurd d z⟩
      · rw [es] at d
        refine isDigit_ev (fun g => ⟨fun z => absurd z (by decide), fun _ => ?_⟩) (fun g => ⟨fun _ => ?_, fun z => absurd rfl z⟩)
        · rw [es] at g
          refine takeDigits_ev l2 l1 o1 (by omega) o4 h8 (fun nx r τ' oo q1 q1' q2 q3 q4 => hK τ' (o.trans oo) ?_)
          rw [q2, q3, q4]
          exact ⟨hR, fun z => absurd c (by omega), fun _ z => absurd z d, fun _ _ _ => ⟨r, q1, q1', rfl⟩, fun _ _ z => absurd g z⟩
        · rw [es] at g
          refine takeSign_ev l2 l1 o1 (by omega) o4 h8 hb (fun kd nx k1 k2 τ' oo q1 q2 q3 q4 => hK τ' (o.trans oo) ?_)
          rw [q1, q2, q3, q4, o9]
          exact ⟨hR, fun z => absurd c (by omega), fun _ z => absurd z d, fun _ _ z => absurd z g, fun _ _ _ => ⟨fun y => ⟨((k2 c).1 y).1, ((k2 c).1 y).2, rfl⟩, fun y => ⟨((k2 c).2 y).1, ((k2 c).2 y).2.1, ((k2 c).2 y).2.2, rfl⟩⟩⟩
    · have es : seeI t len p = -1 := if_neg c
      refine isLetter_ev (fun d => by rw [es] at d; unfold isLt at d; omega) (fun d => ⟨fun _ => ?_, fun z => absurd rfl z⟩)
      refine isDigit_ev (fun d => by rw [es] at d; unfold isDg at d; omega) (fun d => ⟨fun _ => ?_, fun z => absurd rfl z⟩)
      refine takeSign_ev l2 l1 o1 (by omega) o4 h8 hb (fun kd nx k1 k2 τ' oo q1 q2 q3 q4 => hK τ' (o.trans oo) ?_)
      rw [q1, q2, q3, q4, o9]
      exact ⟨hR, fun z => ⟨(k1 z).1, (k1 z).2, rfl⟩, fun z => absurd z c, fun z => absurd z c, fun z => absurd z c⟩
  refine wl2_rule (fun p v => Ot σ v ∧ v.1 3 3 = σ.1 3 3 ∧ v.1 3 4 = p ∧ a ≤ p ∧ p ≤ len ∧ (∀ i, a ≤ i → i < p → i < len ∧ bl (t i))) (fun p _ => (len - p).toNat) ?_ ⟨(Ot.refl σ).put (by decide) (by decide), rfl, rfl, by omega, by omega, fun i z1 z2 => absurd z2 (by omega)⟩
  intro P p v ⟨o, o9, o1, o3, o4, o5⟩ ih
  have l1 : v.1 3 1 = len := (o.2 3 1 (by omega)).trans el.symm
  have l2 : v.2.1 4 = t := by rw [o.1]; exact et.symm
  unfold wp5_T_advance_13
  rw [l1]
  refine ⟨fun c => ex p v o o9 o1 o3 o4 o5 (fun q => by omega), fun c => ?_⟩
  have es : seeI (v.2.1 4) (v.1 3 1) p = t p := by rw [l1, l2]; exact if_pos c
  refine byteAt_ev (by omega) (by omega) ?_
  rw [es]
  have go : bl (t p) → rng (p + 1) ∧ P (p + 1) (pU v 3 4 (p + 1)) := fun d => ⟨⟨by omega, by omega⟩, ih _ _ ⟨o.put (by decide) (by decide), o9, rfl, by omega, by omega, fun i z1 z2 => by
    by_cases q : i = p
    · rw [q]; exact ⟨c, d⟩
    · exact o5 i z1 (by omega)⟩ (by omega)⟩
  refine ⟨fun d => go (Or.inl d), fun d => ?_⟩
  refine byteAt_ev (by omega) (by omega) ?_
  rw [es]
  exact ⟨fun d2 => ex p v o o9 o1 o3 o4 o5 (fun q => by rcases q.2 with z | z; exact d z; exact d2 z), fun d2 => go (Or.inr d2)⟩
/-- the state behind Tape.advance, and that it is the one -/
theorem Ot.ext {σ τ τ' : Sg} (h : Ot σ τ) (h' : Ot σ τ') (h2 : τ.1 3 2 = τ'.1 3 2) (h3 : τ.1 3 3 = τ'.1 3 3) (h4 : τ.1 3 4 = τ'.1 3 4) (h5 : τ.1 3 5 = τ'.1 3 5) : τ = τ' := by
  refine Prod.ext ?_ (h.1.trans h'.1.symm)
  funext q j
  by_cases c : q ≠ 3 ∨ j < 2 ∨ 5 < j
  · rw [h.2 q j c, h'.2 q j c]
  · obtain ⟨rfl, c2⟩ : q = 3 ∧ (j = 2 ∨ j = 3 ∨ j = 4 ∨ j = 5) := by omega
    rcases c2 with rfl | rfl | rfl | rfl
    · exact h2
    · exact h3
    · exact h4
    · exact h5
def tpS (σ : Sg) (k v pl nx : Int) : Sg := pU (pU (pU (pU σ 3 2 k) 3 3 v) 3 4 pl) 3 5 nx
theorem tpS_Ot (σ : Sg) (k v pl nx : Int) : Ot σ (tpS σ k v pl nx) := ((((Ot.refl σ).put (by decide) (by decide)).put (by decide) (by decide)).put (by decide) (by decide)).put (by decide) (by decide)
theorem advance_at {σ : Sg} {ru k v pl nx : Int} (h1 : 0 ≤ σ.1 3 5) (h2 : σ.1 3 5 ≤ σ.1 3 1) (h8 : σ.1 3 1 ≤ 800) (hb : ∀ i, 0 ≤ i → i < 800 → 0 ≤ σ.2.1 4 i ∧ σ.2.1 4 i ≤ 255) (hT : Tk (σ.2.1 4) (σ.1 3 1) ru (σ.1 3 3) (σ.1 3 5) k v pl nx) {K : Sg → Prop} (hK : K (tpS σ k v pl nx)) : wp5_T_advance σ ru K := by
  refine advance_ok h1 h2 h8 hb (fun τ o hT2 => ?_)
  obtain ⟨e1, e2, e3, e4⟩ := hT2.uniq hT
  have : τ = tpS σ k v pl nx := o.ext (tpS_Ot σ k v pl nx) e1 e2 e3 e4
  rw [this]; exact hK
