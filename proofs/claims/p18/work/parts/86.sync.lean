-- ===== class and reference in step: EXPRESSIONS
def cm (ru c : Int) : Int := if ru = 1 ∧ ((20 ≤ c ∧ c < 23) ∨ (30 ≤ c ∧ c < 33)) then (if c < 30 then c + 10 else -7) else c
def bitL (l b : Int) : Prop := ziand l (zishl 1 b) ≠ 0
def bitR (l b : Int) : Prop := ziand (zishr l b) 1 ≠ 0
theorem bit_or {l a b : Int} (hl : 0 ≤ l ∧ l ≤ 7) (ha : 0 ≤ a ∧ a < 3) (hb : 0 ≤ b ∧ b < 3) : (bitL (zior l (zishl 1 a)) b ↔ (b = a ∨ bitL l b)) ∧ (bitR (zior l (zishl 1 a)) b ↔ (b = a ∨ bitR l b)) ∧ 0 ≤ zior l (zishl 1 a) ∧ zior l (zishl 1 a) ≤ 7 := by
  obtain rfl | rfl | rfl | rfl | rfl | rfl | rfl | rfl : l = 0 ∨ l = 1 ∨ l = 2 ∨ l = 3 ∨ l = 4 ∨ l = 5 ∨ l = 6 ∨ l = 7 := by omega
  all_goals obtain rfl | rfl | rfl : a = 0 ∨ a = 1 ∨ a = 2 := by omega
  all_goals obtain rfl | rfl | rfl : b = 0 ∨ b = 1 ∨ b = 2 := by omega
  all_goals (unfold bitL bitR; decide)
theorem bit_or0 {l : Int} (hl : 0 ≤ l ∧ l ≤ 7) : zior l 0 = l := by
  obtain rfl | rfl | rfl | rfl | rfl | rfl | rfl | rfl : l = 0 ∨ l = 1 ∨ l = 2 ∨ l = 3 ∨ l = 4 ∨ l = 5 ∨ l = 6 ∨ l = 7 := by omega
  all_goals decide
theorem bit_same {l a : Int} (hl : 0 ≤ l ∧ l ≤ 7) (ha : 0 ≤ a ∧ a < 3) (h : bitL l a) : zior l (zishl 1 a) = l := by
  obtain rfl | rfl | rfl | rfl | rfl | rfl | rfl | rfl : l = 0 ∨ l = 1 ∨ l = 2 ∨ l = 3 ∨ l = 4 ∨ l = 5 ∨ l = 6 ∨ l = 7 := by omega
  all_goals obtain rfl | rfl | rfl : a = 0 ∨ a = 1 ∨ a = 2 := by omega
  all_goals first | decide | exact absurd h (by unfold bitL; decide)
theorem bit_0 (b : Int) (hb : 0 ≤ b ∧ b < 3) : ¬ bitL 0 b ∧ ¬ bitR 0 b := by
  obtain rfl | rfl | rfl : b = 0 ∨ b = 1 ∨ b = 2 := by omega
  all_goals (unfold bitL bitR; decide)
def Gl (t : Int → Int) (len : Int) : Prop := 0 ≤ len ∧ len ≤ 800 ∧ ∀ j, 0 ≤ j → j < 800 → 0 ≤ t j ∧ t j ≤ 255
def Tp (ru : Int) (t : Int → Int) (len : Int) (σ : Sg) (i a tk ta va : Int) : Prop :=
  (σ.1 2 1 = 0 ∧ σ.1 3 2 ≠ 1 ∧ σ.1 2 2 = -1) ∧ (σ.2.1 4 = t ∧ σ.1 3 1 = len) ∧ (0 ≤ i ∧ i ≤ σ.1 3 5 ∧ σ.1 3 5 ≤ len) ∧ (σ.1 2 4 < 12 ∧ ((ru = 0 ∧ σ.1 2 4 < 0) ∨ (ru = 1 ∧ 0 ≤ σ.1 2 4))) ∧ (∃ k v, Tk t len ru (σ.1 3 3) (σ.1 3 5) k v ta a ∧ RT ru k v tk ∧ (k = 2 → va = v)) ∧ 0 ≤ va ∧ va ≤ 9999
def Rw (ru off b0 : Int) (σ : Sg) (f : Int → Int) (m : Int) : Prop :=
  (0 ≤ σ.1 2 3 ∧ σ.1 2 3 < 35) ∧ (0 ≤ b0 ∧ 0 ≤ off + b0 ∧ off ≤ 40 ∧ b0 ≤ σ.1 2 10) ∧ m = off + σ.2.2.1 0 (σ.1 2 3) ∧ ∀ j, b0 ≤ j → j < σ.2.2.1 0 (σ.1 2 3) → f (off + j) = cm ru (σ.2.2.2 0 (σ.1 2 3) j)
def Ct (most : Int) (σ : Sg) (d c : Int) : Prop :=
  (d = σ.1 2 13 ∧ 0 ≤ d ∧ d ≤ 8) ∧ (c = σ.1 2 8 ∧ σ.1 2 9 = most ∧ 0 ≤ c ∧ c ≤ most ∧ most ≤ 300 ∧ σ.2.2.1 0 (σ.1 2 3) + (most - c) ≤ capI (σ.1 2 3)) ∧ (0 ≤ σ.1 2 10 ∧ σ.1 2 10 ≤ σ.1 2 11 ∧ σ.1 2 11 ≤ σ.2.2.1 0 (σ.1 2 3))
def Le (ru rt : Int) (σ : Sg) (l : Int) : Prop :=
  (ru = 0 ∧ σ.1 2 6 < 3 ∧ 0 ≤ l ∧ l ≤ 7) ∨ (ru = 1 ∧ (0 ≤ l ∧ l ≤ 7) ∧ ((rt = 0 ∧ σ.1 2 6 = 3 ∧ ∀ b, 0 ≤ b → b < 3 → (bitL l b ↔ ∃ j, 0 ≤ j ∧ j < σ.2.2.1 0 (σ.1 2 3) ∧ σ.2.2.2 0 (σ.1 2 3) j = 20 + b)) ∨ (rt = 1 ∧ σ.1 2 6 = 4 ∧ ∀ b, 0 ≤ b → b < 3 → (bitL l b ↔ bitR (σ.2.2.1 1 (σ.1 2 4)) b))))
def Sy (s ru rt most off b0 : Int) (t : Int → Int) (len : Int) (σ : Sg) (i : Int) (f : Int → Int) (m a tk ta va d c l : Int) : Prop :=
  σ.1 2 5 = s ∧ Tp ru t len σ i a tk ta va ∧ Rw ru off b0 σ f m ∧ Ct most σ d c ∧ Le ru rt σ l
/-- what an EXPRESSION leaves as it was -/
def Fr (d b0 : Int) (σ σ' : Sg) : Prop :=
  (∀ a b, ((a ≠ 2 ∧ a ≠ 3) ∨ (a = 2 ∧ (b = 3 ∨ b = 4 ∨ b = 6 ∨ b = 7 ∨ b = 9 ∨ b = 12)) ∨ (a = 3 ∧ b < 2)) → σ'.1 a b = σ.1 a b) ∧
  (∀ a, a ≠ 5 → a ≠ 6 → a ≠ 7 → σ'.2.1 a = σ.2.1 a) ∧ (∀ j, j < d → σ'.2.1 5 j = σ.2.1 5 j ∧ σ'.2.1 6 j = σ.2.1 6 j ∧ σ'.2.1 7 j = σ.2.1 7 j) ∧
  (∀ n, n ≠ σ.1 2 3 → σ'.2.2.1 0 n = σ.2.2.1 0 n ∧ σ'.2.2.2 0 n = σ.2.2.2 0 n) ∧ (∀ c, c ≠ 0 → σ'.2.2.1 c = σ.2.2.1 c ∧ σ'.2.2.2 c = σ.2.2.2 c) ∧
  (∀ j, j < b0 → σ'.2.2.2 0 (σ.1 2 3) j = σ.2.2.2 0 (σ.1 2 3) j) ∧ σ.2.2.1 0 (σ.1 2 3) ≤ σ'.2.2.1 0 (σ.1 2 3)
theorem Fr.refl (d b0 : Int) (σ : Sg) : Fr d b0 σ σ := ⟨fun _ _ _ => rfl, fun _ _ _ _ => rfl, fun _ _ => ⟨rfl, rfl, rfl⟩, fun _ _ => ⟨rfl, rfl⟩, fun _ _ => ⟨rfl, rfl⟩, fun _ _ => rfl, Int.le_refl _⟩
theorem Fr.row {d b0 : Int} {σ σ' : Sg} (h : Fr d b0 σ σ') : σ'.1 2 3 = σ.1 2 3 := h.1 2 3 (by omega)
theorem Fr.trans {d d' b0 : Int} {σ σ' σ'' : Sg} (hd : d ≤ d') (h : Fr d b0 σ σ') (h' : Fr d' b0 σ' σ'') : Fr d b0 σ σ'' := by
  have e := h.row
  refine ⟨fun a b z => (h'.1 a b z).trans (h.1 a b z), fun a z1 z2 z3 => (h'.2.1 a z1 z2 z3).trans (h.2.1 a z1 z2 z3), fun j z => ?_, fun n z => ?_, fun c z => ?_, fun j z => ?_, ?_⟩
  · have q := h.2.2.1 j z; have q' := h'.2.2.1 j (by omega)
    exact ⟨q'.1.trans q.1, q'.2.1.trans q.2.1, q'.2.2.trans q.2.2⟩
  · have q := h.2.2.2.1 n z; have q' := h'.2.2.2.1 n (by rw [e]; exact z)
    exact ⟨q'.1.trans q.1, q'.2.trans q.2⟩
  · have q := h.2.2.2.2.1 c z; have q' := h'.2.2.2.2.1 c z
    exact ⟨q'.1.trans q.1, q'.2.trans q.2⟩
  · have q := h.2.2.2.2.2.1 j z; have q' := h'.2.2.2.2.2.1 j z
    rw [e] at q'
    exact q'.trans q
  · have q := h.2.2.2.2.2.2; have q' := h'.2.2.2.2.2.2
    rw [e] at q'
    exact Int.le_trans q q'
/-- ranges that stay -/
def RgS (σ : Sg) : Prop := (0 ≤ σ.1 2 13 ∧ σ.1 2 13 ≤ 8) ∧ (0 ≤ σ.1 2 8 ∧ σ.1 2 8 ≤ 300) ∧ 0 ≤ σ.2.2.1 0 (σ.1 2 3) ∧ σ.2.2.1 0 (σ.1 2 3) ≤ capI (σ.1 2 3)
/-- the class at its loop's head with a FAULT, the reference's -/
def Ft (t : Int → Int) (len : Int) (σ : Sg) (w wa : Int) : Prop := σ.1 2 1 = w ∧ σ.1 2 2 = wa ∧ 1 ≤ w ∧ w ≤ 3 ∧ 0 ≤ wa ∧ wa ≤ len ∧ σ.2.1 4 = t ∧ σ.1 3 1 = len ∧ RgS σ
theorem Tp.hd {ru len i a tk ta va : Int} {t : Int → Int} {σ : Sg} (g : Gl t len) (h : Tp ru t len σ i a tk ta va) : ∃ k v, Hd ru t len σ i k v ta a ∧ RT ru k v tk ∧ (k = 2 → va = v) ∧ (0 ≤ k ∧ k ≤ 125 ∧ σ.1 3 5 ≤ ta ∧ ta ≤ len ∧ ta ≤ a ∧ (k ≠ 1 → ta < a) ∧ a ≤ len ∧ (k = 1 → ta = len) ∧ (k = 2 → 0 ≤ v ∧ v ≤ 9999) ∧ (k = 3 → 0 ≤ v ∧ v ≤ 25)) := by
  obtain ⟨h1, h2, h3, h4, ⟨k, v, hT, hR, hv⟩, h5⟩ := h
  exact ⟨k, v, ⟨⟨h1.1, h1.2.1⟩, ⟨h2.1, h2.2, g.2.1, g.2.2⟩, h3, h4, hT⟩, hR, hv, hT.rgK (by omega) h3.2.2⟩
/-- behind a TOKEN: the next one, loaded by the reference -/
theorem Tp.next {ru len i a tk ta va k v : Int} {t : Int → Int} {σ σ1 : Sg} (g : Gl t len) (H : Hd ru t len σ i k v ta a) (hva : 0 ≤ va ∧ va ≤ 9999) (hk : k ≠ 1) (ha : ta < a ∧ a ≤ len ∧ σ.1 3 5 ≤ ta) (f1 : σ1.1 2 1 = 0) (f2 : σ1.1 3 2 = k) (f3 : σ1.2.1 4 = t) (f4 : σ1.1 3 1 = len) (f5 : σ1.1 3 5 = a) (f6 : σ1.1 2 4 = σ.1 2 4) (f7 : σ1.1 2 2 = -1) :
    ∃ a' tk' ta' va', Tp ru t len σ1 (i + 1) a' tk' ta' va' ∧ ∀ P : Int → Int → Int → Int → Prop, P a' tk' ta' va' → wp_next0 t len a tk ta va ru P := by
  obtain ⟨_, _, h3, h4, hT⟩ := H
  obtain ⟨k', v', pl', nx', hT'⟩ := Tk.ex t len ru (σ1.1 3 3) a
  obtain ⟨tk', va', hR', hv', hb', ev⟩ := next0_at (t2 := t) (tk := tk) (ta := ta) (va := va) (by omega) ha.2.1 g.2.1 g.2.2 hT'
  exact ⟨nx', tk', pl', va', ⟨⟨f1, by rw [f2]; exact hk, f7⟩, ⟨f3, f4⟩, ⟨by omega, by omega, by omega⟩, by rw [f6]; exact h4, ⟨k', v', by rw [f5]; exact hT', hR', hv'⟩, (hb' hva).1, (hb' hva).2⟩, ev⟩
theorem cm_lt {ru c : Int} (h : c < 20) : cm ru c = c := by unfold cm; rw [if_neg (by omega)]
/-- what the letters are when one more thing stands behind the row -/
theorem Le.addN {ru rt l x : Int} {σ σ' : Sg} (e3 : σ'.1 2 3 = σ.1 2 3) (e4 : σ'.1 2 4 = σ.1 2 4) (e6 : σ'.1 2 6 = σ.1 2 6) (eY : σ'.2.2.1 1 = σ.2.2.1 1) (h0 : 0 ≤ σ.2.2.1 0 (σ.1 2 3)) (el : σ'.2.2.1 0 (σ.1 2 3) = σ.2.2.1 0 (σ.1 2 3) + 1) (ec : ∀ j, 0 ≤ j → j < σ.2.2.1 0 (σ.1 2 3) + 1 → ∃ j2, 0 ≤ j2 ∧ j2 < σ.2.2.1 0 (σ.1 2 3) ∧ σ'.2.2.2 0 (σ.1 2 3) j = σ.2.2.2 0 (σ.1 2 3) j2 ∨ σ'.2.2.2 0 (σ.1 2 3) j = x) (ec2 : ∀ j2, 0 ≤ j2 → j2 < σ.2.2.1 0 (σ.1 2 3) → ∃ j, 0 ≤ j ∧ j < σ.2.2.1 0 (σ.1 2 3) + 1 ∧ σ'.2.2.2 0 (σ.1 2 3) j = σ.2.2.2 0 (σ.1 2 3) j2) (hx : x < 20 ∨ 22 < x ∨ rt = 1) (h : Le ru rt σ l) : Le ru rt σ' l := by
  unfold Le at h ⊢
  rw [e3, e4, e6, eY, el]
  rcases h with h | ⟨h1, h2, ⟨r, p, h3⟩ | ⟨r, p, h3⟩⟩
  · exact Or.inl h
  · refine Or.inr ⟨h1, h2, Or.inl ⟨r, p, fun b b0 b3 => (h3 b b0 b3).trans ⟨fun ⟨j, j0, j1, j2⟩ => ?_, fun ⟨j, j0, j1, j2⟩ => ?_⟩⟩⟩
    · obtain ⟨j', q0, q1, q2⟩ := ec2 j j0 j1
      exact ⟨j', q0, q1, q2.trans j2⟩
    · obtain ⟨j', q⟩ := ec j j0 j1
      rcases q with ⟨q0, q1, q2⟩ | q
      · exact ⟨j', q0, q1, q2.symm.trans j2⟩
      · exfalso
        have := q.symm.trans j2
        omega
  · exact Or.inr ⟨h1, h2, Or.inr ⟨r, p, h3⟩⟩
theorem Le.addL {ru rt l b : Int} {σ σ' : Sg} (e3 : σ'.1 2 3 = σ.1 2 3) (e6 : σ'.1 2 6 = σ.1 2 6) (h0 : 0 ≤ σ.2.2.1 0 (σ.1 2 3)) (el : σ'.2.2.1 0 (σ.1 2 3) = σ.2.2.1 0 (σ.1 2 3) + 1) (ec : ∀ j, σ'.2.2.2 0 (σ.1 2 3) j = if j = σ.2.2.1 0 (σ.1 2 3) then 20 + b else σ.2.2.2 0 (σ.1 2 3) j) (hr : rt = 0) (hu : ru = 1) (hb : 0 ≤ b ∧ b < 3) (h : Le ru rt σ l) : Le ru rt σ' (zior l (zishl 1 b)) := by
  unfold Le at h ⊢
  rw [e3, e6, el]
  rcases h with h | ⟨h1, h2, ⟨r, p, h3⟩ | ⟨r, p, h3⟩⟩
  · omega
  · refine Or.inr ⟨h1, (bit_or h2 hb hb).2.2, Or.inl ⟨r, p, fun b' b0 b3 => ((bit_or h2 hb ⟨b0, b3⟩).1).trans ⟨fun q => ?_, fun ⟨j, j0, j1, j2⟩ => ?_⟩⟩⟩
    · rcases q with q | q
      · exact ⟨σ.2.2.1 0 (σ.1 2 3), h0, by omega, by rw [ec, if_pos rfl, q]⟩
      · obtain ⟨j, j0, j1, j2⟩ := (h3 b' b0 b3).mp q
        exact ⟨j, j0, by omega, by rw [ec, if_neg (by omega)]; exact j2⟩
    · rw [ec] at j2
      by_cases q : j = σ.2.2.1 0 (σ.1 2 3)
      · rw [if_pos q] at j2
        exact Or.inl (by omega)
      · rw [if_neg q] at j2
        exact Or.inr ((h3 b' b0 b3).mpr ⟨j, j0, by omega, j2⟩)
  · omega
theorem Sy.rg {s ru rt most off b0 len i m a tk ta va d c l : Int} {t f : Int → Int} {σ : Sg} (S : Sy s ru rt most off b0 t len σ i f m a tk ta va d c l) : RgS σ := by
  obtain ⟨hs, hT, ⟨hq, hb, hm, hf⟩, ⟨hd, hcc, hp⟩, hLe⟩ := S
  exact ⟨by omega, by omega, by omega, by omega⟩
theorem Le.l7 {ru rt l : Int} {σ : Sg} (h : Le ru rt σ l) : 0 ≤ l ∧ l ≤ 7 := by
  rcases h with h | ⟨_, h, _⟩
  · exact h.2.2
  · exact h
theorem wr1 {f : Int → Int} {m z : Int} : Wr f m [z] (uZ f m z) (m + 1) := ⟨by simp, ⟨if_pos rfl, trivial⟩, fun j hj => if_neg (by omega)⟩
theorem wrI {f0 f : Int → Int} {m0 m h : Int} {e : List Int} (hw : Wr f0 m0 e f m) : Wr f0 m0 (h :: e) (insF f m0 m h) (m + 1) := by
  obtain ⟨h1, h2, h3⟩ := hw
  refine ⟨by rw [h1]; simp only [List.length_cons]; omega, ⟨if_pos rfl, ?_⟩, fun j hj => ?_⟩
  · have key : ∀ (l : List Int) (p : Int), m0 ≤ p → p + l.length ≤ m → At f p l → At (insF f m0 m h) (p + 1) l := by
      intro l
      induction l with
      | nil => intro p _ _ _; trivial
      | cons x l ih =>
        intro p q1 q2 q3
        simp only [List.length_cons] at q2
        refine ⟨?_, ih (p + 1) (by omega) (by omega) q3.2⟩
        unfold insF
        rw [if_neg (by omega), if_pos (by omega), show p + 1 - 1 = p by omega]
        exact q3.1
    exact key e m0 (by omega) (by omega) h2
  · unfold insF
    rw [if_neg (by omega), if_neg (by omega)]
    exact h3 j hj
theorem LBsame {rt l z : Int} (hl : 0 ≤ l ∧ l ≤ 7) (hz : z < 30) : LB rt l l [z] := ⟨hl.1, hl.2, fun k _ _ h => Or.inl h, fun _ x hx x0 _ => by rw [List.mem_singleton.mp hx] at x0; omega⟩
theorem RT.ops {ru k v tk : Int} (h : RT ru k v tk) (ht : tk ≠ 42 ∧ tk ≠ 43 ∧ tk ≠ 45) : k ≠ 42 ∧ k ≠ 43 ∧ k ≠ 45 := by unfold RT at h; omega
