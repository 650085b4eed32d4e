-- ===== matching: a pattern against an expression
/-- the cells of k expressions -/
def tk : Nat → List Int → List Int
  | 0, _ => []
  | _ + 1, [] => []
  | k + 1, c :: r => c :: tk (if 120 ≤ c ∧ c ≤ 122 then k + 2 else k) r
theorem tk_ex : ∀ {e : List Int}, Ex lfR e → ∀ (k : Nat) (r : List Int), tk (k + 1) (e ++ r) = e ++ tk k r := by
  intro e he
  refine Ex.ind (P := fun e => ∀ (k : Nat) (r : List Int), tk (k + 1) (e ++ r) = e ++ tk k r) ?_ ?_ he
  · intro c hc k r
    show c :: tk (if 120 ≤ c ∧ c ≤ 122 then k + 2 else k) r = _
    rw [if_neg (by unfold lfR at hc; omega)]; rfl
  · intro o a b ho _ _ ia ib k r
    show o :: tk (if 120 ≤ o ∧ o ≤ 122 then k + 2 else k) ((a ++ b) ++ r) = _
    rw [if_pos (show 120 ≤ o ∧ o ≤ 122 from ho), List.append_assoc, ia, ib]
    simp
theorem tk_0 {r : List Int} : tk 0 r = [] := by cases r <;> rfl
theorem tk_1 {e r : List Int} (he : Ex lfR e) : tk 1 (e ++ r) = e := by
  have := tk_ex he 0 r
  rw [this, tk_0, List.append_nil]
abbrev Env : Type := Int → List Int
def upE (g : Env) (k : Int) (e : List Int) : Env := fun j => if j = k then e else g j
def mL : List Int → Env → List Int → Option Env
  | [], g, _ => some g
  | c :: X, g, r =>
    if 30 ≤ c ∧ c ≤ 32 then
      (if g (c - 30) = [] then mL X (upE g (c - 30) (tk 1 r)) (r.drop (tk 1 r).length)
       else if g (c - 30) = tk 1 r then mL X g (r.drop (tk 1 r).length) else none)
    else (if r.head? = some c then mL X g r.tail else none)
/-- one letter -/
def bnd (g : Env) (k : Int) (e : List Int) : Option Env := if g k = [] then some (upE g k e) else if g k = e then some g else none
theorem mL_let {c : Int} {X : List Int} {g : Env} {e r : List Int} (hc : 30 ≤ c ∧ c ≤ 32) (he : Ex lfR e) : mL (c :: X) g (e ++ r) = (bnd g (c - 30) e).bind (fun g' => mL X g' r) := by
  show (if 30 ≤ c ∧ c ≤ 32 then _ else _) = _
  rw [if_pos hc, tk_1 he, List.drop_left]
  unfold bnd
  split
  · rfl
  · split
    · rfl
    · rfl
theorem mL_cell {c d : Int} {X : List Int} {g : Env} {r : List Int} (hc : ¬ (30 ≤ c ∧ c ≤ 32)) : mL (c :: X) g (d :: r) = if d = c then mL X g r else none := by
  show (if 30 ≤ c ∧ c ≤ 32 then _ else (if (d :: r).head? = some c then mL X g (d :: r).tail else none)) = _
  rw [if_neg hc]
  by_cases h : d = c
  · rw [if_pos h, if_pos (by rw [h]; rfl)]; rfl
  · rw [if_neg h, if_neg (show ¬ ((d :: r).head? = some c) from fun q => h (Option.some.inj q))]
theorem mL_app : ∀ {X : List Int}, Ex lfU X → ∀ (Z : List Int) (g : Env) (e r : List Int), Ex lfR e → mL (X ++ Z) g (e ++ r) = (mL X g e).bind (fun g' => mL Z g' r) := by
  intro X hX
  refine Ex.ind (P := fun X => ∀ (Z : List Int) (g : Env) (e r : List Int), Ex lfR e → mL (X ++ Z) g (e ++ r) = (mL X g e).bind (fun g' => mL Z g' r)) ?_ ?_ hX
  · intro c hc Z g e r he
    by_cases hl : 30 ≤ c ∧ c ≤ 32
    · have h1 := mL_let (X := Z) (g := g) (r := r) hl he
      have h2 := mL_let (X := []) (g := g) (r := []) hl he
      rw [List.append_nil] at h2
      show mL (c :: Z) g (e ++ r) = _
      rw [h1, h2]
      unfold bnd
      split
      · rfl
      · split <;> rfl
    · rcases he.cases with ⟨d, hd, rfl⟩ | ⟨o, a, b, ho, ha, hb, rfl⟩
      · show mL (c :: Z) g (d :: r) = (mL [c] g [d]).bind _
        rw [mL_cell hl, mL_cell hl]
        split <;> rfl
      · have hne : o ≠ c := by unfold lfU at hc; unfold opC at ho; omega
        show mL (c :: Z) g (o :: ((a ++ b) ++ r)) = (mL [c] g (o :: (a ++ b))).bind _
        rw [mL_cell hl, mL_cell hl, if_neg hne, if_neg hne]; rfl
  · intro o A B ho _ _ iA iB Z g e r he
    have hl : ¬ (30 ≤ o ∧ o ≤ 32) := by unfold opC at ho; omega
    rcases he.cases with ⟨d, hd, rfl⟩ | ⟨o', a, b, ho', ha, hb, rfl⟩
    · have hne : d ≠ o := by unfold lfR at hd; unfold opC at ho; omega
      show mL (o :: ((A ++ B) ++ Z)) g (d :: r) = (mL (o :: (A ++ B)) g [d]).bind _
      rw [mL_cell hl, mL_cell hl, if_neg hne, if_neg hne]; rfl
    · show mL (o :: ((A ++ B) ++ Z)) g (o' :: ((a ++ b) ++ r)) = (mL (o :: (A ++ B)) g (o' :: (a ++ b))).bind _
      rw [mL_cell hl, mL_cell hl]
      by_cases h : o' = o
      · rw [if_pos h, if_pos h, List.append_assoc, List.append_assoc, iA _ _ _ _ ha, iA _ _ _ _ ha]
        cases mL A g a with
        | none => rfl
        | some g' =>
          show mL (B ++ Z) g' (b ++ r) = (mL B g' b).bind _
          exact iB _ _ _ _ hb
      · rw [if_neg h, if_neg h]; rfl
-- ===== in the class
def cv (c : Int) : Int := if 30 ≤ c ∧ c ≤ 32 then c - 10 else c
/-- the rule's starts and ends are the parts of row m that g says -/
def EnvC (σ : Sg) (n m : Int) (g : Env) : Prop := ∀ k : Int, 0 ≤ k → k ≤ 2 → (g k = [] ∧ σ.2.2.2 2 n k = -1) ∨ (g k ≠ [] ∧ 0 ≤ σ.2.2.2 2 n k ∧ At (σ.2.2.2 0 m) (σ.2.2.2 2 n k) (g k) ∧ σ.2.2.2 3 n k = σ.2.2.2 2 n k + (g k).length ∧ σ.2.2.2 3 n k ≤ σ.2.2.1 0 m)
def ab (c : Nat) : Prop := c = 2 ∨ c = 3
section MC
variable {σ : Sg} {n m : Int} {l a b e : List Int}
theorem letterOf_k {c : Int} {K : Int → Prop} (h1 : 20 ≤ c ∧ c ≤ 22 → K (c - 20)) (h0 : ¬ (20 ≤ c ∧ c ≤ 22) → K (-1)) : wp5_U_letterOf c K :=
  ⟨fun z => h0 (by omega), fun z => ⟨fun z2 => h0 (by omega), fun z2 => ⟨rng_small (by omega) (by omega), h1 ⟨z, by omega⟩⟩⟩⟩
/-- two parts of a row, alike or not -/
theorem repeats_k {x y k : Int} {u w : List Int} {K : Int → Prop} (h : RowL σ m l) (x0 : 0 ≤ x) (y0 : 0 ≤ y) (hx : x + k ≤ l.length) (hy : y + k ≤ l.length) (hu : At (σ.2.2.2 0 m) x u) (hw : At (σ.2.2.2 0 m) y w) (lu : k = u.length) (lw : k = w.length) (h1 : u = w → K 1) (h0 : u ≠ w → K 0) : wp5_W_repeats σ m x y k K := by
  have bd := h.bd
  obtain ⟨g1, g2, g3, g4⟩ := h
  have cn := capI_pos m
  refine ⟨fun z => absurd z (by omega), fun _ => ⟨fun z => absurd z (by omega), fun _ => ⟨rng_small (by omega) (by omega), fun z => absurd z (by omega), fun _ => ⟨rng_small (by omega) (by omega), fun _ => ?_, fun z => absurd z (by omega)⟩⟩⟩⟩
  refine wl1_rule (fun (i : Int) => ∃ u1 u2 w2 : List Int, u = u1 ++ u2 ∧ w = u1 ++ w2 ∧ i = u1.length) (fun (i : Int) => (k - i).toNat) ?_ ⟨[], u, w, rfl, rfl, rfl⟩
  rintro P i ⟨u1, u2, w2, rfl, rfl, rfl⟩ ih
  rw [List.length_append] at lu lw
  refine ⟨fun z => h1 ?_, fun z => ⟨by omega, by omega, ?_⟩⟩
  · have e1 : u2 = [] := List.length_eq_zero_iff.mp (by omega)
    have e2 : w2 = [] := List.length_eq_zero_iff.mp (by omega)
    rw [e1, e2]
  · cases u2 with
    | nil => simp at lu; omega
    | cons c u2 =>
      cases w2 with
      | nil => simp at lw; omega
      | cons d w2 =>
        have ec : σ.2.2.2 0 m (x + u1.length) = c := (At_app.mp hu).2.1
        have ed : σ.2.2.2 0 m (y + u1.length) = d := (At_app.mp hw).2.1
        rw [ec, ed]
        refine ⟨fun q => ⟨rng_small (by omega) (by omega), ih _ ⟨u1 ++ [c], u2, w2, by simp, by rw [q]; simp, by simp only [List.length_append, List.length_cons, List.length_nil]; omega⟩ (by omega)⟩, fun q => h0 (fun z => ?_)⟩
        have := List.append_cancel_left z
        exact q (List.cons.inj this).1
end MC
