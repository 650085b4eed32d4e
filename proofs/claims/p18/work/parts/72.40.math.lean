/-- the list l lies in g from p on -/
def At (g : Int → Int) : Int → List Int → Prop
  | _, [] => True
  | p, c :: l => g p = c ∧ At g (p + 1) l
theorem At_app {g : Int → Int} : ∀ {a : List Int} {p : Int} {b : List Int}, At g p (a ++ b) ↔ At g p a ∧ At g (p + a.length) b := by
  intro a
  induction a with
  | nil => intro p b; simp [At]
  | cons c a ih =>
    intro p b
    have e : p + ((c :: a).length : Int) = p + 1 + (a.length : Int) := by simp only [List.length_cons]; omega
    rw [e]
    show (g p = c ∧ At g (p + 1) (a ++ b)) ↔ _
    rw [ih]
    exact ⟨fun h => ⟨⟨h.1, h.2.1⟩, h.2.2⟩, fun h => ⟨h.1.1, h.1.2, h.2⟩⟩
theorem At_congr {g g' : Int → Int} : ∀ {l : List Int} {p q : Int}, (∀ i : Int, 0 ≤ i → i < l.length → g' (q + i) = g (p + i)) → At g p l → At g' q l := by
  intro l
  induction l with
  | nil => intro p q _ _; trivial
  | cons c l ih =>
    intro p q h ha
    refine ⟨?_, ih (p := p + 1) (q := q + 1) (fun i h0 h1 => ?_) ha.2⟩
    · have := h 0 (by omega) (by simp only [List.length_cons]; omega)
      rw [show q + 0 = q by omega, show p + 0 = p by omega] at this
      rw [this]; exact ha.1
    · have := h (i + 1) (by omega) (by simp only [List.length_cons]; omega)
      rw [show q + 1 + i = q + (i + 1) by omega, show p + 1 + i = p + (i + 1) by omega]
      exact this
theorem At_same {g g' : Int → Int} {l : List Int} {p : Int} (h : ∀ i : Int, p ≤ i → i < p + l.length → g' i = g i) (ha : At g p l) : At g' p l := At_congr (fun i h0 h1 => h (p + i) (by omega) (by omega)) ha
theorem At_uZ {g : Int → Int} {l : List Int} {p i v : Int} (h : i < p ∨ p + l.length ≤ i) (ha : At g p l) : At (uZ g i v) p l := At_same (fun j h0 h1 => if_neg (by omega)) ha
theorem At_snoc {g : Int → Int} {l : List Int} {p c : Int} (ha : At g p l) : At (uZ g (p + l.length) c) p (l ++ [c]) := At_app.mpr ⟨At_uZ (Or.inr (by omega)) ha, if_pos rfl, trivial⟩
theorem At_mem {g : Int → Int} : ∀ {l : List Int} {p i : Int}, At g p l → p ≤ i → i < p + l.length → g i ∈ l := by
  intro l
  induction l with
  | nil => intro p i _ h1 h2; simp only [List.length_nil] at h2; omega
  | cons c l ih =>
    intro p i ha h1 h2
    by_cases h : i = p
    · rw [h, ha.1]; exact List.mem_cons_self
    · exact List.mem_cons_of_mem _ (ih ha.2 (by omega) (by simp only [List.length_cons] at h2; omega))
theorem At_uniq {g : Int → Int} : ∀ {l m : List Int} {p : Int}, At g p l → At g p m → l.length = m.length → l = m := by
  intro l
  induction l with
  | nil => intro m p _ _ h; exact (List.length_eq_zero_iff.mp h.symm).symm
  | cons c l ih =>
    intro m p ha hb h
    cases m with
    | nil => simp at h
    | cons d m => rw [← ha.1, ← hb.1, ih ha.2 hb.2 (by simpa using h)]
-- ===== expressions
def lfR (c : Int) : Prop := (0 ≤ c ∧ c ≤ 15) ∨ (20 ≤ c ∧ c ≤ 25)
def lfU (c : Int) : Prop := (0 ≤ c ∧ c ≤ 15) ∨ (30 ≤ c ∧ c ≤ 32)
def opC (c : Int) : Prop := 120 ≤ c ∧ c ≤ 122
def ExN (lf : Int → Prop) : Nat → List Int → Prop
  | 0, _ => False
  | k + 1, l => (∃ c, lf c ∧ l = [c]) ∨ ∃ (o : Int) (a b : List Int), opC o ∧ ExN lf k a ∧ ExN lf k b ∧ l = o :: (a ++ b)
def Ex (lf : Int → Prop) (l : List Int) : Prop := ∃ k, ExN lf k l
theorem ExN_up {lf : Int → Prop} : ∀ {k : Nat} {l : List Int}, ExN lf k l → ExN lf (k + 1) l := by
  intro k
  induction k with
  | zero => intro l h; exact absurd h id
  | succ k ih =>
    intro l h
    rcases h with h | ⟨o, a, b, h1, h2, h3, h4⟩
    · exact Or.inl h
    · exact Or.inr ⟨o, a, b, h1, ih h2, ih h3, h4⟩
theorem ExN_le {lf : Int → Prop} {k m : Nat} {l : List Int} (hk : k ≤ m) (h : ExN lf k l) : ExN lf m l := by
  induction hk with
  | refl => exact h
  | step _ ih => exact ExN_up ih
theorem Ex.leaf {lf : Int → Prop} {c : Int} (h : lf c) : Ex lf [c] := ⟨1, Or.inl ⟨c, h, rfl⟩⟩
theorem Ex.op {lf : Int → Prop} {o : Int} {a b : List Int} (h : opC o) (ha : Ex lf a) (hb : Ex lf b) : Ex lf (o :: (a ++ b)) := by
  obtain ⟨k, ha⟩ := ha
  obtain ⟨m, hb⟩ := hb
  exact ⟨max k m + 1, Or.inr ⟨o, a, b, h, ExN_le (Nat.le_max_left _ _) ha, ExN_le (Nat.le_max_right _ _) hb, rfl⟩⟩
theorem Ex.ind {lf : Int → Prop} {P : List Int → Prop} (h1 : ∀ c, lf c → P [c]) (h2 : ∀ (o : Int) (a b : List Int), opC o → Ex lf a → Ex lf b → P a → P b → P (o :: (a ++ b))) : ∀ {l : List Int}, Ex lf l → P l := by
  have key : ∀ (k : Nat) (l : List Int), ExN lf k l → P l := by
    intro k
    induction k with
    | zero => intro l h; exact absurd h id
    | succ k ih =>
      intro l h
      rcases h with ⟨c, h, rfl⟩ | ⟨o, a, b, g1, g2, g3, rfl⟩
      · exact h1 c h
      · exact h2 o a b g1 ⟨k, g2⟩ ⟨k, g3⟩ (ih a g2) (ih b g3)
  intro l h
  obtain ⟨k, h⟩ := h
  exact key k l h
theorem Ex.cases {lf : Int → Prop} {l : List Int} (h : Ex lf l) : (∃ c, lf c ∧ l = [c]) ∨ ∃ (o : Int) (a b : List Int), opC o ∧ Ex lf a ∧ Ex lf b ∧ l = o :: (a ++ b) := by
  obtain ⟨k, h⟩ := h
  cases k with
  | zero => exact absurd h id
  | succ k =>
    rcases h with h | ⟨o, a, b, h1, h2, h3, h4⟩
    · exact Or.inl h
    · exact Or.inr ⟨o, a, b, h1, ⟨k, h2⟩, ⟨k, h3⟩, h4⟩
theorem Ex.pos {lf : Int → Prop} {l : List Int} (h : Ex lf l) : 1 ≤ l.length := by
  rcases h.cases with ⟨c, _, rfl⟩ | ⟨o, a, b, _, _, _, rfl⟩ <;> simp
theorem Ex.all {lf : Int → Prop} {l : List Int} (h : Ex lf l) : ∀ c ∈ l, lf c ∨ opC c := by
  refine Ex.ind (P := fun l => ∀ c ∈ l, lf c ∨ opC c) ?_ ?_ h
  · intro c hc d hd
    rw [List.mem_singleton.mp hd]; exact Or.inl hc
  · intro o a b ho _ _ ha hb d hd
    rcases List.mem_cons.mp hd with h | h
    · rw [h]; exact Or.inr ho
    · rcases List.mem_append.mp h with h | h
      · exact ha d h
      · exact hb d h
-- ===== counts
def isS (c : Int) : Bool := decide ((100 ≤ c ∧ c ≤ 105) ∨ c = 110 ∨ c = 111 ∨ c = 112 ∨ c = 115)
def isP (c : Int) : Bool := decide ((0 ≤ c ∧ c ≤ 15) ∨ (20 ≤ c ∧ c ≤ 25) ∨ (120 ≤ c ∧ c ≤ 122))
def cs (l : List Int) : Nat := l.countP isS
def cp (l : List Int) : Nat := l.countP isP
theorem cs_app (a b : List Int) : cs (a ++ b) = cs a + cs b := List.countP_append
theorem cp_app (a b : List Int) : cp (a ++ b) = cp a + cp b := List.countP_append
theorem cs_nil : cs [] = 0 := rfl
theorem cp_nil : cp [] = 0 := rfl
theorem cs_yes {c : Int} {l : List Int} (h : (100 ≤ c ∧ c ≤ 105) ∨ c = 110 ∨ c = 111 ∨ c = 112 ∨ c = 115) : cs (c :: l) = cs l + 1 := by
  unfold cs; rw [List.countP_cons_of_pos (by exact decide_eq_true h)]
theorem cs_no {c : Int} {l : List Int} (h : ¬ ((100 ≤ c ∧ c ≤ 105) ∨ c = 110 ∨ c = 111 ∨ c = 112 ∨ c = 115)) : cs (c :: l) = cs l := by
  unfold cs; rw [List.countP_cons_of_neg (by unfold isS; rw [decide_eq_false h]; exact Bool.false_ne_true)]
theorem cp_yes {c : Int} {l : List Int} (h : (0 ≤ c ∧ c ≤ 15) ∨ (20 ≤ c ∧ c ≤ 25) ∨ (120 ≤ c ∧ c ≤ 122)) : cp (c :: l) = cp l + 1 := by
  unfold cp; rw [List.countP_cons_of_pos (by exact decide_eq_true h)]
theorem cp_no {c : Int} {l : List Int} (h : ¬ ((0 ≤ c ∧ c ≤ 15) ∨ (20 ≤ c ∧ c ≤ 25) ∨ (120 ≤ c ∧ c ≤ 122))) : cp (c :: l) = cp l := by
  unfold cp; rw [List.countP_cons_of_neg (by unfold isP; rw [decide_eq_false h]; exact Bool.false_ne_true)]
theorem Ex.csz {e : List Int} (h : Ex lfR e) : cs e = 0 := by
  refine Ex.ind (P := fun e => cs e = 0) ?_ ?_ h
  · intro c hc; rw [cs_no (by unfold lfR at hc; omega)]; rfl
  · intro o a b ho _ _ ha hb; rw [cs_no (by unfold opC at ho; omega), cs_app, ha, hb]
theorem Ex.cpz {e : List Int} (h : Ex lfR e) : cp e = e.length := by
  refine Ex.ind (P := fun e => cp e = e.length) ?_ ?_ h
  · intro c hc; rw [cp_yes (by unfold lfR at hc; omega)]; rfl
  · intro o a b ho _ _ ha hb; rw [cp_yes (by unfold opC at ho; omega), cp_app, ha, hb]; simp
-- ===== rows of statements
def setC (c : Int) : Prop := 100 ≤ c ∧ c ≤ 105
def testC (c : Int) : Prop := 130 ≤ c ∧ c ≤ 132
def Sm (S : List Int → Prop) (s : List Int) : Prop :=
  (∃ (v : Int) (e : List Int), (setC v ∨ v = 110) ∧ Ex lfR e ∧ s = v :: e) ∨ s = [111] ∨
  (∃ (t : Int) (a b B C : List Int), testC t ∧ Ex lfR a ∧ Ex lfR b ∧ S B ∧ S C ∧ s = 112 :: t :: (a ++ (b ++ (B ++ (113 :: (C ++ [114])))))) ∨
  (∃ (t : Int) (a b B : List Int), testC t ∧ Ex lfR a ∧ Ex lfR b ∧ S B ∧ s = 115 :: t :: (a ++ (b ++ (B ++ [114]))))
def SqN : Nat → List Int → Prop
  | 0, _ => False
  | k + 1, l => l = [] ∨ ∃ s r : List Int, Sm (SqN k) s ∧ SqN k r ∧ l = s ++ r
def Sq (l : List Int) : Prop := ∃ k, SqN k l
theorem Sm.mono {S T : List Int → Prop} (h : ∀ l, S l → T l) {s : List Int} (hs : Sm S s) : Sm T s := by
  rcases hs with h1 | h1 | ⟨t, a, b, B, C, h1, h2, h3, h4, h5, h6⟩ | ⟨t, a, b, B, h1, h2, h3, h4, h5⟩
  · exact Or.inl h1
  · exact Or.inr (Or.inl h1)
  · exact Or.inr (Or.inr (Or.inl ⟨t, a, b, B, C, h1, h2, h3, h _ h4, h _ h5, h6⟩))
  · exact Or.inr (Or.inr (Or.inr ⟨t, a, b, B, h1, h2, h3, h _ h4, h5⟩))
theorem SqN_up : ∀ {k : Nat} {l : List Int}, SqN k l → SqN (k + 1) l := by
  intro k
  induction k with
  | zero => intro l h; exact absurd h id
  | succ k ih =>
    intro l h
    rcases h with h | ⟨s, r, h1, h2, h3⟩
    · exact Or.inl h
    · exact Or.inr ⟨s, r, h1.mono (fun _ => ih), ih h2, h3⟩
theorem SqN_le {k m : Nat} {l : List Int} (hk : k ≤ m) (h : SqN k l) : SqN m l := by
  induction hk with
  | refl => exact h
  | step _ ih => exact SqN_up ih
theorem Sq.nil : Sq [] := ⟨1, Or.inl rfl⟩
/-- finitely many sub-rows have one bound -/
theorem Sm.bound {s : List Int} (h : Sm Sq s) : ∃ k, ∀ m, k ≤ m → Sm (SqN m) s := by
  rcases h with h1 | h1 | ⟨t, a, b, B, C, h1, h2, h3, ⟨k, h4⟩, ⟨k', h5⟩, h6⟩ | ⟨t, a, b, B, h1, h2, h3, ⟨k, h4⟩, h5⟩
  · exact ⟨0, fun m _ => Or.inl h1⟩
  · exact ⟨0, fun m _ => Or.inr (Or.inl h1)⟩
  · exact ⟨max k k', fun m hm => Or.inr (Or.inr (Or.inl ⟨t, a, b, B, C, h1, h2, h3, SqN_le (Nat.le_trans (Nat.le_max_left _ _) hm) h4, SqN_le (Nat.le_trans (Nat.le_max_right _ _) hm) h5, h6⟩))⟩
  · exact ⟨k, fun m hm => Or.inr (Or.inr (Or.inr ⟨t, a, b, B, h1, h2, h3, SqN_le hm h4, h5⟩))⟩
theorem Sq.cons {s r : List Int} (hs : Sm Sq s) (hr : Sq r) : Sq (s ++ r) := by
  obtain ⟨k, hs⟩ := hs.bound
  obtain ⟨m, hr⟩ := hr
  exact ⟨max k m + 1, Or.inr ⟨s, r, hs _ (Nat.le_max_left _ _), SqN_le (Nat.le_max_right _ _) hr, rfl⟩⟩
theorem Sq.ind {P : List Int → Prop} (h0 : P []) (h1 : ∀ s r : List Int, Sm (fun B => Sq B ∧ P B) s → Sq r → P r → P (s ++ r)) : ∀ {l : List Int}, Sq l → P l := by
  have key : ∀ (k : Nat) (l : List Int), SqN k l → P l := by
    intro k
    induction k with
    | zero => intro l h; exact absurd h id
    | succ k ih =>
      intro l h
      rcases h with rfl | ⟨s, r, g1, g2, rfl⟩
      · exact h0
      · exact h1 s r (g1.mono (fun B hB => ⟨⟨k, hB⟩, ih B hB⟩)) ⟨k, g2⟩ (ih r g2)
  intro l h
  obtain ⟨k, h⟩ := h
  exact key k l h
theorem Sq.cases {l : List Int} (h : Sq l) : l = [] ∨ ∃ s r, Sm Sq s ∧ Sq r ∧ l = s ++ r := by
  obtain ⟨k, h⟩ := h
  cases k with
  | zero => exact absurd h id
  | succ k =>
    rcases h with h | ⟨s, r, g1, g2, g3⟩
    · exact Or.inl h
    · exact Or.inr ⟨s, r, g1.mono (fun B hB => ⟨k, hB⟩), ⟨k, g2⟩, g3⟩
theorem Sq.app {l r : List Int} (hl : Sq l) (hr : Sq r) : Sq (l ++ r) := by
  refine Sq.ind (P := fun l => Sq (l ++ r)) hr ?_ hl
  intro s q hs _ hq
  rw [List.append_assoc]
  exact Sq.cons (hs.mono (fun _ h => h.1)) hq
theorem Sq.one {s : List Int} (hs : Sm Sq s) : Sq s := by
  have := Sq.cons hs Sq.nil
  rwa [List.append_nil] at this
theorem Sm.pos {S : List Int → Prop} {s : List Int} (h : Sm S s) : 1 ≤ s.length := by
  rcases h with ⟨v, e, _, _, rfl⟩ | rfl | ⟨t, a, b, B, C, _, _, _, _, _, rfl⟩ | ⟨t, a, b, B, _, _, _, _, rfl⟩ <;> simp
theorem Sm.csp {S : List Int → Prop} {s : List Int} (h : Sm S s) : 1 ≤ cs s := by
  rcases h with ⟨v, e, h, _, rfl⟩ | rfl | ⟨t, a, b, B, C, _, _, _, _, _, rfl⟩ | ⟨t, a, b, B, _, _, _, _, rfl⟩
  · rw [cs_yes (by unfold setC at h; omega)]; omega
  · rw [cs_yes (by omega)]; omega
  · rw [cs_yes (by omega)]; omega
  · rw [cs_yes (by omega)]; omega
/-- a row's length by its counts -/
theorem Sq.len {l : List Int} (h : Sq l) : l.length ≤ 4 * cs l + cp l := by
  refine Sq.ind (P := fun l => l.length ≤ 4 * cs l + cp l) (Nat.le_refl _) ?_ h
  intro s r hs _ hr
  rw [cs_app, cp_app, List.length_append]
  have : s.length ≤ 4 * cs s + cp s := by
    rcases hs with ⟨v, e, h, he, rfl⟩ | rfl | ⟨t, a, b, B, C, ht, ha, hb, hB, hC, rfl⟩ | ⟨t, a, b, B, ht, ha, hb, hB, rfl⟩
    · rw [cs_yes (by unfold setC at h; omega), cp_no (by unfold setC at h; omega), he.csz, he.cpz, List.length_cons]; omega
    · decide
    · unfold testC at ht
      rw [cs_yes (by omega), cs_no (by omega), cp_no (by omega), cp_no (by omega)]
      simp only [cs_app, cp_app, List.length_append, List.length_cons, List.length_nil]
      rw [cs_no (c := 113) (by omega), cp_no (c := 113) (by omega)]
      simp only [cs_app, cp_app]
      rw [cs_no (c := 114) (by omega), cp_no (c := 114) (by omega)]
      have := ha.cpz; have := hb.cpz; have := hB.2; have := hC.2; have := cs_nil; have := cp_nil
      omega
    · unfold testC at ht
      rw [cs_yes (by omega), cs_no (by omega), cp_no (by omega), cp_no (by omega)]
      simp only [cs_app, cp_app, List.length_append, List.length_cons, List.length_nil]
      rw [cs_no (c := 114) (by omega), cp_no (c := 114) (by omega)]
      have := ha.cpz; have := hb.cpz; have := hB.2; have := cs_nil; have := cp_nil
      omega
  omega
