-- ===== ruleOf comes back, and leaves alone what others show
/-- cells of Proof -/
def c25 (a : Nat) : Prop := 25 ≤ a ∧ a ≤ 30
def f4 (c : Nat) : Prop := c = 4
theorem fq25F {σ : Sg} {k : Nat} {g : Int → Int} (h : 25 ≤ k ∧ k ≤ 30) : Fq c25 No f4 σ (pF σ k g) :=
  ⟨fun a z => ⟨rfl, by rw [pF_get, if_neg (fun e => z (by rw [e]; exact h))]⟩, fun _ _ => ⟨rfl, rfl⟩, fun _ _ => rfl, fun _ _ _ => rfl⟩
theorem fq25U {σ : Sg} {j : Nat} {v : Int} : Fq c25 No f4 σ (pU σ 25 j v) :=
  ⟨fun a z => ⟨funext (fun b => by rw [pU_get, if_neg (fun e => z (by rw [e.1]; exact ⟨by decide, by decide⟩))]), rfl⟩, fun _ _ => ⟨rfl, rfl⟩, fun _ _ => rfl, fun _ _ _ => rfl⟩
theorem pZ_22 {σ : Sg} {c c' : Nat} {n : Int} {g : Int → Int} (h : c' ≠ c) : (pZ σ c n g).2.2.2 c' = σ.2.2.2 c' := by
  show (bif Nat.beq c' c then uF (σ.2.2.2 c) n g else σ.2.2.2 c') = _
  rw [beqF h]; rfl
theorem fq25Z {σ : Sg} {n : Int} {g : Int → Int} : Fq c25 No f4 σ (pZ σ 4 n g) :=
  ⟨fun _ _ => ⟨rfl, rfl⟩, fun k _ => ⟨rfl, by rw [pZ_22 (by decide)]⟩, fun _ _ => rfl, fun c _ z => pZ_22 z⟩
/-- a side of a rule, as far as its cells' sizes go -/
def RowB (σ : Sg) (n : Int) : Prop := ∃ l, RowL σ n l ∧ l.length ≤ 40 ∧ ∀ c ∈ l, 0 ≤ c ∧ c ≤ 200
theorem RowB.fr {σ σ' : Sg} {n : Int} {Q : Nat → Prop} {C : Nat → Prop} (h : RowB σ n) (f : Fq Q No C σ σ') : RowB σ' n := by
  obtain ⟨l, h1, h2, h3⟩ := h
  exact ⟨l, h1.fr f (fun z => z), h2, h3⟩
theorem RowB.get {σ : Sg} {n : Int} (h : RowB σ n) : (0 ≤ n ∧ n < 35) ∧ (0 ≤ σ.2.2.1 0 n ∧ σ.2.2.1 0 n ≤ 40 ∧ σ.2.2.1 0 n ≤ capI n) ∧ ∀ p, 0 ≤ p → p < σ.2.2.1 0 n → 0 ≤ σ.2.2.2 0 n p ∧ σ.2.2.2 0 n p ≤ 200 := by
  obtain ⟨l, h1, h2, h3⟩ := h
  have e := h1.2.2.1
  have c := h1.2.2.2
  refine ⟨h1.1, ⟨by omega, by omega, by omega⟩, fun p p0 p1 => ?_⟩
  have := At_mem h1.2.1 p0 (by omega)
  exact h3 _ this
theorem RowB.cell {σ : Sg} {n p : Int} (h : RowB σ n) {K : Int → Prop} (k : ∀ c, (0 ≤ c ∧ c ≤ 200) ∨ c = -1 → K c) : wp5_W_cell σ n p K := by
  obtain ⟨g0, g1, g2⟩ := h.get
  unfold wp5_W_cell
  exact ⟨fun _ => k _ (Or.inr rfl), fun z => ⟨fun _ => k _ (Or.inr rfl), fun z2 => ⟨⟨by omega, by omega⟩, k _ (Or.inl (g2 p z z2))⟩⟩⟩
section F3
variable {σ : Sg} {n : Int}
theorem reckonP_any {K : Sg → Prop} (h : RowB σ n) (k : ∀ σ', Fq c25 No f4 σ σ' → σ'.1 = σ.1 → K σ') : wp5_W_reckonP σ n 0 (σ.2.2.1 0 n) K := by
  obtain ⟨g0, g1, g2⟩ := h.get
  unfold wp5_W_reckonP
  rw [show min (σ.2.2.1 0 n) (σ.2.2.1 0 n) = σ.2.2.1 0 n by omega]
  refine ⟨rng_small (by omega) (by omega), ?_⟩
  refine wl3_rule (fun (d p : Int) (s : Sg) => (0 ≤ d ∧ d ≤ 40) ∧ (-1 ≤ p ∧ p < σ.2.2.1 0 n) ∧ Fq c25 No f4 σ s ∧ s.1 = σ.1) (fun (_ p : Int) _ => (p + 1).toNat) ?_ ⟨by omega, by omega, Fq.refl, rfl⟩
  rintro P d p s ⟨hd, hp, f, e⟩ ih
  have hs := (h.fr f).get
  have el : s.2.2.1 0 n = σ.2.2.1 0 n := (f.2.1 n (fun z => z)).1
  have r1 : rng (p - 1) := rng_small (by omega) (by omega)
  have nx : ∀ d' s', 0 ≤ p → (0 ≤ d' ∧ d' ≤ 40) → Fq c25 No f4 s s' → s'.1 = s.1 → P d' (p - 1) s' := fun d' s' p0 hd' f' e' => ih _ _ _ ⟨hd', by omega, f.trans f', e'.trans e⟩ (by omega)
  refine ⟨fun z => k s f e, fun z => ⟨fun z2 => absurd z2 (by omega), fun p0 => ⟨⟨by omega, by omega⟩, isOperation_k (fun _ => t1 ⟨fun z2 => ⟨r1, nx _ _ p0 hd Fq.refl rfl⟩, fun z2 => ⟨fun z3 => absurd z3 (by omega), fun _ => ⟨⟨by omega, by omega⟩, ⟨by omega, by omega⟩, result_k ⟨rng_small (by omega) (by omega), r1, nx _ _ p0 ⟨by omega, by omega⟩ (fq25F ⟨by decide, by decide⟩) rfl⟩⟩⟩⟩) (fun _ => t0 ⟨fun z2 => ⟨r1, nx _ _ p0 hd Fq.refl rfl⟩, fun z2 => ?_⟩)⟩⟩⟩
  have b := hs.2.2 p p0 (by omega)
  have r2 : rng (d + 1) := rng_small (by omega) (by omega)
  exact ⟨rng_small (by omega) (by omega), fun z3 => ⟨fun z4 => ⟨⟨by omega, by omega⟩, r2, r1, nx _ _ p0 ⟨by omega, by omega⟩ (fq25F ⟨by decide, by decide⟩) rfl⟩, fun z4 => ⟨⟨by omega, by omega⟩, ⟨by omega, by omega⟩, r2, r1, nx _ _ p0 ⟨by omega, by omega⟩ (fq25F ⟨by decide, by decide⟩) rfl⟩⟩, fun z3 => ⟨⟨by omega, by omega⟩, r2, r1, nx _ _ p0 ⟨by omega, by omega⟩ (fq25F ⟨by decide, by decide⟩) rfl⟩⟩
theorem tryOne_any {K : Sg → Prop} {r x y z : Int} (h1 : RowB σ (11 + 2 * r)) (h2 : RowB σ (12 + 2 * r)) (hb : (0 ≤ x ∧ x ≤ 16) ∧ (0 ≤ y ∧ y ≤ 16) ∧ (0 ≤ z ∧ z ≤ 16)) (hw : 0 ≤ σ.1 25 1 ∧ σ.1 25 1 ≤ 10000) (k : ∀ σ', Fq c25 No f4 σ σ' → 0 ≤ σ'.1 25 1 → σ'.1 25 1 ≤ σ.1 25 1 + 1 → K σ') : wp5_B_tryOne σ r x y z K := by
  unfold wp5_B_tryOne wp5_B_valueOf
  have f0 : Fq c25 No f4 σ (pF (pF (pF σ 26 (uZ (σ.2.1 26) 0 x)) 26 (uZ (uZ (σ.2.1 26) 0 x) 1 y)) 26 (uZ (uZ (uZ (σ.2.1 26) 0 x) 1 y) 2 z)) := ((fq25F ⟨by decide, by decide⟩).trans (fq25F ⟨by decide, by decide⟩)).trans (fq25F ⟨by decide, by decide⟩)
  refine reckonP_any (h1.fr f0) (fun σ1 f1 e1 => ?_)
  refine reckonP_any ((h2.fr f0).fr f1) (fun σ2 f2 e2 => ?_)
  have e : σ2.1 = σ.1 := e2.trans e1
  have f := (f0.trans f1).trans f2
  dsimp only
  rw [e]
  have r1 : rng (σ.1 25 1 + 1) := rng_small (by omega) (by omega)
  refine ⟨fun _ => ⟨fun _ => ⟨r1, k _ (f.trans fq25U) ?_ ?_⟩, fun _ => ⟨rng_small (by omega) (by omega), r1, k _ ((f.trans fq25U).trans fq25U) ?_ ?_⟩⟩, fun _ => k _ f (by rw [e]; omega) (by rw [e]; omega)⟩
  · rw [pU_get, if_pos ⟨rfl, rfl⟩]; omega
  · rw [pU_get, if_pos ⟨rfl, rfl⟩]; omega
  · rw [pU_get, if_pos ⟨rfl, rfl⟩]; omega
  · rw [pU_get, if_pos ⟨rfl, rfl⟩]; omega
theorem tryAll_any {K : Sg → Prop} {r : Int} (hr : 0 ≤ r ∧ r < 12) (h1 : RowB σ (11 + 2 * r)) (h2 : RowB σ (12 + 2 * r)) (k : ∀ σ', Fq c25 No f4 σ σ' → K σ') : wp5_B_tryAll σ r K := by
  have f0 : Fq c25 No f4 σ (pU (pU σ 25 0 (-1)) 25 1 0) := fq25U.trans fq25U
  have main : ∀ a b c : Int, (a = 1 ∨ a = 16) → (b = 1 ∨ b = 16) → (c = 1 ∨ c = 16) → wp5_B_tryAll_54 K σ r a b c := by
    intro a b c ha hb hc
    unfold wp5_B_tryAll_54
    have w0 : (pU (pU σ 25 0 (-1)) 25 1 0).1 25 1 = 0 := by rw [pU_get, if_pos ⟨rfl, rfl⟩]
    refine wl2_rule (fun (x : Int) (s : Sg) => (0 ≤ x ∧ x ≤ 16) ∧ Fq c25 No f4 σ s ∧ 0 ≤ s.1 25 1 ∧ s.1 25 1 ≤ 400 * x) (fun (x : Int) _ => (16 - x).toNat) ?_ ⟨by omega, f0, by omega, by omega⟩
    rintro P x s ⟨hx, f, w1, w2⟩ ih
    refine ⟨fun _ => k s f, fun hlt => ?_⟩
    refine wl2_rule (fun (y : Int) (s : Sg) => (0 ≤ y ∧ y ≤ 16) ∧ Fq c25 No f4 σ s ∧ 0 ≤ s.1 25 1 ∧ s.1 25 1 ≤ 400 * x + 20 * y) (fun (y : Int) _ => (16 - y).toNat) ?_ ⟨by omega, f, by omega, by omega⟩
    rintro P2 y s ⟨hy, f, w1, w2⟩ ih2
    refine ⟨fun _ => ⟨rng_small (by omega) (by omega), ih _ _ ⟨by omega, f, by omega, by omega⟩ (by omega)⟩, fun hlt2 => ?_⟩
    refine wl2_rule (fun (z : Int) (s : Sg) => (0 ≤ z ∧ z ≤ 16) ∧ Fq c25 No f4 σ s ∧ 0 ≤ s.1 25 1 ∧ s.1 25 1 ≤ 400 * x + 20 * y + z) (fun (z : Int) _ => (16 - z).toNat) ?_ ⟨by omega, f, by omega, by omega⟩
    rintro P3 z s ⟨hz, f, w1, w2⟩ ih3
    refine ⟨fun _ => ⟨rng_small (by omega) (by omega), ih2 _ _ ⟨by omega, f, by omega, by omega⟩ (by omega)⟩, fun hlt3 => ?_⟩
    exact tryOne_any (h1.fr f) (h2.fr f) ⟨hx, hy, hz⟩ ⟨by omega, by omega⟩ (fun s' f' q0 q1 => ⟨rng_small (by omega) (by omega), ih3 _ _ ⟨by omega, f.trans f', q0, by omega⟩ (by omega)⟩)
  have hl : ∀ (j : Int) (K' : Int → Prop), (∀ v, (v = 0 ∨ v = 1) → K' v) → wp5_U_hasLetter (pU (pU σ 25 0 (-1)) 25 1 0) r j K' := by
    intro j K' hK
    unfold wp5_U_hasLetter
    exact ⟨fun _ => hK _ (Or.inl rfl), fun _ => ⟨fun _ => hK _ (Or.inl rfl), fun _ => ⟨fun _ => hK _ (Or.inl rfl), fun _ => hK _ (Or.inr rfl)⟩⟩⟩
  have c24 : ∀ a b : Int, (a = 1 ∨ a = 16) → (b = 1 ∨ b = 16) → wp5_B_tryAll_39 K σ r a b := fun a b ha hb => hl 2 _ (fun v hv => ⟨fun _ => main a b 1 ha hb (Or.inl rfl), fun _ => main a b 16 ha hb (Or.inr rfl)⟩)
  have c12 : ∀ a : Int, (a = 1 ∨ a = 16) → wp5_B_tryAll_24 K σ r a := fun a ha => hl 1 _ (fun v hv => ⟨fun _ => c24 a 1 ha (Or.inl rfl), fun _ => c24 a 16 ha (Or.inr rfl)⟩)
  exact hl 0 _ (fun v hv => ⟨fun _ => c12 1 (Or.inl rfl), fun _ => c12 16 (Or.inr rfl)⟩)
def sumL : List Int → Int
  | [] => 0
  | x :: t => x + sumL t
def posL (l : List Int) : Prop := ∀ x ∈ l, 0 ≤ x
theorem sumL_ge : ∀ {l : List Int}, posL l → 0 ≤ sumL l
  | [], _ => Int.le_refl 0
  | x :: t, h => by
    have h1 := h x List.mem_cons_self
    have h2 := sumL_ge (l := t) (fun y hy => h y (List.mem_cons_of_mem _ hy))
    show 0 ≤ x + sumL t
    omega
theorem mostTimes_any {K : Int → Sg → Prop} {j : Int} (hj : 0 ≤ j ∧ j ≤ 3) (h : RowB σ n) (k : ∀ v σ', Fq c25 No f4 σ σ' → K v σ') : wp5_B_mostTimes σ n j K := by
  obtain ⟨g0, g1, g2⟩ := h.get
  refine ⟨rng_small (by omega) (by omega), ?_⟩
  refine wl3_rule (fun (d p : Int) (s : Sg) => (-1 ≤ p ∧ p < σ.2.2.1 0 n) ∧ Fq c25 No f4 σ s ∧ ∃ st : List Int, d = st.length ∧ st.length ≤ 40 ∧ posL st ∧ sumL st ≤ σ.2.2.1 0 n - 1 - p ∧ At (s.2.1 27) 0 st.reverse) (fun (_ p : Int) _ => (p + 1).toNat) ?_ ⟨by omega, Fq.refl, [], rfl, by decide, fun x hx => absurd hx List.not_mem_nil, by show (0 : Int) ≤ _; omega, trivial⟩
  rintro P d p s ⟨hp, f, st, hd, h40, hpos, hsum, hat⟩ ih
  have r1 : rng (p - 1) := rng_small (by omega) (by omega)
  have sg := sumL_ge hpos
  have same : 0 ≤ p → P d (p - 1) s := fun p0 => ih _ _ _ ⟨by omega, f, st, hd, h40, hpos, by omega, hat⟩ (by omega)
  have op : 0 ≤ p → ∀ c, wp5_B_mostTimes_66 d p c s P := by
    intro p0 c
    refine ⟨fun _ => ⟨r1, same p0⟩, fun z => ⟨fun _ => ⟨r1, same p0⟩, fun z2 => ⟨⟨by omega, by omega⟩, ⟨by omega, by omega⟩, ?_⟩⟩⟩
    obtain ⟨x, y, t, rfl⟩ : ∃ x y t, st = x :: y :: t := by
      cases st with
      | nil => simp only [List.length_nil] at hd; omega
      | cons x st =>
        cases st with
        | nil => simp only [List.length_cons, List.length_nil] at hd; omega
        | cons y t => exact ⟨x, y, t, rfl⟩
    simp only [List.length_cons] at hd h40
    have hx := hpos x List.mem_cons_self
    have hy := hpos y (List.mem_cons_of_mem _ List.mem_cons_self)
    have ht : posL t := fun w hw => hpos w (List.mem_cons_of_mem _ (List.mem_cons_of_mem _ hw))
    have tg := sumL_ge ht
    have es : sumL (x :: y :: t) = x + (y + sumL t) := rfl
    have dd : d - 2 = t.length := by omega
    have dd1 : d - 1 = (t.length : Int) + 1 := by omega
    have key : ∀ v : Int, 0 ≤ v → v ≤ x + y → rng (d - 1) ∧ rng (p - 1) ∧ P (d - 1) (p - 1) (pF s 27 (uZ (s.2.1 27) (d - 2) v)) := by
      intro v v0 v1
      obtain ⟨_, _, q3⟩ := At_pop2 (v := v) hat
      refine ⟨rng_small (by omega) (by omega), r1, ih _ _ _ ⟨by omega, f.trans (fq25F ⟨by decide, by decide⟩), v :: t, by simp only [List.length_cons]; omega, by simp only [List.length_cons]; omega, fun w hw => ?_, ?_, ?_⟩ (by omega)⟩
      · rcases List.mem_cons.mp hw with q | q
        · rw [q]; exact v0
        · exact ht w q
      · show v + sumL t ≤ _
        omega
      · rw [pF_get, if_pos rfl, dd]; exact q3
    obtain ⟨p1, p2, _⟩ := At_pop2 (v := 0) hat
    rw [dd1, dd, p1, p2, ← dd1, ← dd]
    refine ⟨fun _ => key _ (by omega) (by omega), fun _ => ⟨rng_small (by omega) (by omega), key _ (by omega) (by omega)⟩⟩
  refine ⟨fun z => ⟨fun _ => k _ s f, fun _ => k _ s f⟩, fun p0 => (h.fr f).cell (fun c hc => isOperation_k (fun _ => u1 (op p0 c)) (fun _ => u0 ⟨fun _ => op p0 c, fun z => ⟨rng_small (by omega) (by omega), ?_⟩⟩))⟩
  have push : ∀ v : Int, (v = 0 ∨ v = 1) → (0 ≤ d ∧ d < 40) ∧ rng (d + 1) ∧ rng (p - 1) ∧ P (d + 1) (p - 1) (pF s 27 (uZ (s.2.1 27) d v)) := by
    intro v hv
    refine ⟨⟨by omega, z⟩, rng_small (by omega) (by omega), r1, ih _ _ _ ⟨by omega, f.trans (fq25F ⟨by decide, by decide⟩), v :: st, by simp only [List.length_cons]; omega, by simp only [List.length_cons]; omega, fun w hw => ?_, ?_, ?_⟩ (by omega)⟩
    · rcases List.mem_cons.mp hw with q | q
      · rw [q]; omega
      · exact hpos w q
    · show v + sumL st ≤ _
      omega
    · rw [pF_get, if_pos rfl, hd]; exact At_push hat
  exact ⟨fun _ => push 0 (Or.inl rfl), fun _ => push 1 (Or.inr rfl)⟩
theorem hasForm_any {K : Int → Sg → Prop} (h : RowB σ n) (k : ∀ v σ', (v = 0 ∨ v = 1) → Fq c25 No f4 σ σ' → K v σ') : wp5_B_hasForm σ n K := by
  refine wl2_rule (fun (i : Int) (s : Sg) => (0 ≤ i ∧ i ≤ 3) ∧ Fq c25 No f4 σ s) (fun (i : Int) _ => (3 - i).toNat) ?_ ⟨by omega, Fq.refl⟩
  rintro P i s ⟨hi, f⟩ ih
  exact ⟨fun _ => k 1 s (Or.inr rfl) f, fun hlt => mostTimes_any hi (h.fr f) (fun v s' f' => ⟨fun _ => ⟨rng_small (by omega) (by omega), ih _ _ ⟨by omega, f.trans f'⟩ (by omega)⟩, fun _ => k 0 s' (Or.inl rfl) (f.trans f')⟩)⟩
theorem beginForm_any {K : Sg → Prop} {d c : Int} (hd : 0 ≤ d ∧ d < 20) (k : ∀ σ', Fq c25 No f4 σ σ' → K σ') : wp5_B_beginForm σ d c K := by
  refine wl2_rule (fun (i : Int) (s : Sg) => (0 ≤ i ∧ i ≤ 512) ∧ Fq c25 No f4 σ s) (fun (i : Int) _ => (512 - i).toNat) ?_ ⟨by omega, Fq.refl⟩
  rintro P i s ⟨hi, f⟩ ih
  have fin : ∀ r m : Int, 0 ≤ m → wp5_B_beginForm_37 K d c r s m := fun r m m0 => ⟨fun _ => k s f, fun z => ⟨fun _ => ⟨⟨m0, z⟩, k _ (f.trans fq25Z)⟩, fun _ => ⟨⟨m0, z⟩, k _ (f.trans fq25Z)⟩⟩⟩
  refine ⟨fun _ => ?_, fun hlt => ⟨⟨hi.1, hlt⟩, rng_small (by omega) (by omega), ih _ _ ⟨by omega, f.trans fq25Z⟩ (by omega)⟩⟩
  have fl_ : ∀ r : Int, (r = -1 ∨ (0 ≤ r ∧ r ≤ 2)) → (r ≠ (-1) → wp5_B_beginForm_37 K d c r s (zishl 1 (3 * r))) ∧ (r = (-1) → wp5_B_beginForm_37 K d c r s 0) := by
    intro r hr
    refine ⟨fun z => fin _ _ ?_, fun _ => fin _ _ (Int.le_refl 0)⟩
    rcases hr with q | q
    · exact absurd q z
    · rcases (by omega : r = 0 ∨ r = 1 ∨ r = 2) with q | q | q <;> rw [q] <;> decide
  unfold wp5_U_letterOf
  exact ⟨fun _ => fl_ _ (Or.inl rfl), fun z => ⟨fun _ => fl_ _ (Or.inl rfl), fun z2 => ⟨rng_small (by omega) (by omega), fl_ _ (Or.inr ⟨by omega, by omega⟩)⟩⟩⟩
theorem addUp_any {K : Sg → Prop} {a b c : Int} (k : ∀ σ', Fq c25 No f4 σ σ' → K σ') : wp5_B_addUp σ a b c K := by
  refine wl2_rule (fun (i : Int) (s : Sg) => (0 ≤ i ∧ i ≤ 512) ∧ Fq c25 No f4 σ s) (fun (i : Int) _ => (512 - i).toNat) ?_ ⟨by omega, Fq.refl⟩
  rintro P i s ⟨hi, f⟩ ih
  exact ⟨fun _ => k s f, fun hlt => ⟨fun _ => k s f, fun _ => ⟨⟨hi.1, hlt⟩, result_k ⟨rng_small (by omega) (by omega), ih _ _ ⟨by omega, f.trans fq25Z⟩ (by omega)⟩⟩⟩⟩
theorem addMultiple_any {K : Sg → Prop} {a b c : Int} (ha : 0 ≤ a ∧ a < 512) (k : ∀ σ', Fq c25 No f4 σ σ' → K σ') : wp5_B_addMultiple σ a b c K := by
  refine wl2_rule (fun (i : Int) (s : Sg) => (0 ≤ i ∧ i ≤ 512) ∧ Fq c25 No f4 σ s) (fun (i : Int) _ => (512 - i).toNat) ?_ ⟨by omega, Fq.refl⟩
  rintro P i s ⟨hi, f⟩ ih
  exact ⟨fun _ => k s f, fun hlt => ⟨rng_small (by omega) (by omega), fun _ => k s f, fun hlt2 => ⟨⟨by omega, hlt2⟩, ⟨hi.1, hlt⟩, rng_small (by omega) (by omega), ih _ _ ⟨by omega, f.trans (fq25F ⟨by decide, by decide⟩)⟩ (by omega)⟩⟩⟩
theorem multiply_any {K : Sg → Prop} {a b : Int} (k : ∀ σ', Fq c25 No f4 σ σ' → K σ') : wp5_B_multiply σ a b K := by
  refine wl2_rule (fun (i : Int) (s : Sg) => (0 ≤ i ∧ i ≤ 512) ∧ Fq c25 No f4 σ s) (fun (i : Int) _ => (512 - i).toNat) ?_ ⟨by omega, Fq.refl⟩
  rintro P i s ⟨hi, f⟩ ih
  refine ⟨fun _ => ?_, fun hlt => ⟨⟨hi.1, hlt⟩, rng_small (by omega) (by omega), ih _ _ ⟨by omega, f.trans (fq25F ⟨by decide, by decide⟩)⟩ (by omega)⟩⟩
  refine wl2_rule (fun (i : Int) (s : Sg) => (0 ≤ i ∧ i ≤ 512) ∧ Fq c25 No f4 σ s) (fun (i : Int) _ => (512 - i).toNat) ?_ ⟨by omega, f⟩
  rintro P2 i s ⟨hi, f⟩ ih2
  refine ⟨fun _ => ⟨by decide, k _ (f.trans fq25Z)⟩, fun hlt => ⟨⟨hi.1, hlt⟩, fun _ => ⟨rng_small (by omega) (by omega), ih2 _ _ ⟨by omega, f⟩ (by omega)⟩, fun _ => addMultiple_any ⟨hi.1, hlt⟩ (fun s' f' => ⟨rng_small (by omega) (by omega), ih2 _ _ ⟨by omega, f.trans f'⟩ (by omega)⟩)⟩⟩
theorem multiplyOut_any {K : Sg → Prop} (h : RowB σ n) (k : ∀ σ', Fq c25 No f4 σ σ' → K σ') : wp5_B_multiplyOut σ n K := by
  obtain ⟨g0, g1, g2⟩ := h.get
  refine ⟨rng_small (by omega) (by omega), ?_⟩
  refine wl3_rule (fun (d p : Int) (s : Sg) => (0 ≤ d ∧ d ≤ 20) ∧ (-1 ≤ p ∧ p < σ.2.2.1 0 n) ∧ Fq c25 No f4 σ s) (fun (_ p : Int) _ => (p + 1).toNat) ?_ ⟨by omega, by omega, Fq.refl⟩
  rintro P d p s ⟨hd, hp, f⟩ ih
  have r1 : rng (p - 1) := rng_small (by omega) (by omega)
  have nx : 0 ≤ p → ∀ d' s', (0 ≤ d' ∧ d' ≤ 20) → Fq c25 No f4 s s' → P d' (p - 1) s' := fun p0 d' s' hd' f' => ih _ _ _ ⟨hd', by omega, f.trans f'⟩ (by omega)
  have op : 0 ≤ p → ∀ c, wp5_B_multiplyOut_52 d p c s P := by
    intro p0 c
    refine ⟨fun _ => ⟨r1, nx p0 _ _ hd Fq.refl⟩, fun z => ⟨fun _ => ⟨r1, nx p0 _ _ hd Fq.refl⟩, fun z2 => ⟨fun _ => ⟨⟨by omega, by omega⟩, ⟨by omega, by omega⟩, addUp_any (fun s' f' => ⟨rng_small (by omega) (by omega), r1, nx p0 _ _ ⟨by omega, by omega⟩ f'⟩)⟩, fun _ => ⟨⟨by omega, by omega⟩, ⟨by omega, by omega⟩, multiply_any (fun s' f' => ⟨rng_small (by omega) (by omega), r1, nx p0 _ _ ⟨by omega, by omega⟩ f'⟩)⟩⟩⟩⟩
  exact ⟨fun _ => k s f, fun p0 => (h.fr f).cell (fun c hc => isOperation_k (fun _ => u1 (op p0 c)) (fun _ => u0 ⟨fun _ => op p0 c, fun z => ⟨⟨hd.1, z⟩, beginForm_any ⟨hd.1, z⟩ (fun s' f' => ⟨rng_small (by omega) (by omega), r1, nx p0 _ _ ⟨by omega, by omega⟩ f'⟩)⟩⟩))⟩
theorem compareForms_any {K : Int → Sg → Prop} {r : Int} (h1 : RowB σ (11 + 2 * r)) (h2 : RowB σ (12 + 2 * r)) (k : ∀ v σ', Fq c25 No f4 σ σ' → K v σ') : wp5_B_compareForms σ r K := by
  refine hasForm_any h1 (fun v s hv f => ⟨fun _ => k _ s f, fun _ => hasForm_any (h2.fr f) (fun v2 s2 hv2 f2 => ⟨fun _ => multiplyOut_any ((h1.fr f).fr f2) (fun s3 f3 => ⟨by decide, ?_⟩), fun _ => k _ s2 (f.trans f2)⟩)⟩)
  have f4' : Fq c25 No f4 s3 (pF s3 28 (cpI (s3.2.2.2 4 0) (s3.2.1 28) 0 0 512)) := fq25F ⟨by decide, by decide⟩
  refine multiplyOut_any ((((h2.fr f).fr f2).fr f3).fr f4') (fun s5 f5 => ?_)
  have fa := (((f.trans f2).trans f3).trans f4').trans f5
  refine wl1_rule (fun (i : Int) => 0 ≤ i ∧ i ≤ 512) (fun (i : Int) => (512 - i).toNat) ?_ (by omega)
  rintro P i hi ih
  exact ⟨fun _ => k _ s5 fa, fun hlt => ⟨⟨hi.1, hlt⟩, fun _ => ⟨rng_small (by omega) (by omega), ih _ (by omega) (by omega)⟩, fun _ => k _ s5 fa⟩⟩
theorem RuC.b {r : Int} {X R : List Int} (hr : 0 ≤ r) (h : RuC σ r X R) : RowB σ (11 + 2 * r) ∧ RowB σ (12 + 2 * r) := by
  obtain ⟨a1, a2, a3, a4, a5⟩ := h
  have key : ∀ {Y : List Int}, Ex lfU Y → ∀ c ∈ Y.map cv, 0 ≤ c ∧ c ≤ 200 := by
    intro Y hY c hc
    obtain ⟨d, hd, rfl⟩ := List.mem_map.mp hc
    have := hY.all d hd
    unfold lfU opC at this
    unfold cv
    by_cases q : 30 ≤ d ∧ d ≤ 32
    · rw [if_pos q]; omega
    · rw [if_neg q]; omega
  have cap : ∀ {m : Int} {Y : List Int}, 11 ≤ m → RowL σ m Y → Y.length ≤ 40 := by
    intro m Y hm hY
    have c := hY.2.2.2
    unfold capI at c
    rw [if_neg (show ¬ m < 8 by omega), if_neg (show ¬ m < 11 by omega)] at c
    omega
  exact ⟨⟨_, a4, cap (by omega) a4, key a1⟩, ⟨_, a5, cap (by omega) a5, key a2⟩⟩
theorem ruleOf_k {LX RX : Int → List Int} {x0 x1 : Int} {K : Int → Sg → Prop} (hr : σ.1 0 1 ≤ 12) (hR : ∀ r, 0 ≤ r → r < σ.1 0 1 → RuC σ r (LX r) (RX r)) (k : ∀ v σ', Fq c25 No f4 σ σ' → K v σ') : wp5_S_ruleOf σ x0 x1 K := by
  refine ruleAt_k hr (fun h => ⟨fun z => absurd z (by omega), fun _ => ⟨⟨by omega, by omega⟩, ?_⟩⟩) (fun h => ⟨fun _ => k _ σ Fq.refl, fun z => absurd z (by decide)⟩)
  obtain ⟨b1, b2⟩ := (hR x0 h.1 h.2).b h.1
  exact ⟨fun _ => tryAll_any ⟨h.1, by omega⟩ b1 b2 (fun s f => ⟨fun _ => ⟨fun _ => k _ s f, fun _ => k _ s f⟩, fun _ => k _ s f, fun _ => k _ s f, fun _ => k _ s f, fun _ => k _ s f⟩), fun _ => compareForms_any b1 b2 k⟩
end F3
