-- ===== the relation of both sides
section SYX
variable {σ u : Sg} {I I' : Nat → Int} {F F' : Nat → Int → Int} {LX RX : Int → List Int} {Q : Nat → Prop} {R : Int → Prop} {C : Nat → Prop}
def RqX (σ : Sg) (I : Nat → Int) (F : Nat → Int → Int) : Prop := F 6 = σ.2.1 4 ∧ I 7 = σ.1 3 1 ∧ I 14 = σ.1 2 1 ∧ I 20 = σ.1 2 2 ∧ I 23 = σ.1 0 1 ∧ F 50 = σ.2.1 69
def BtX (σ : Sg) : Prop := ∀ j, 0 ≤ j → j < 800 → 0 ≤ σ.2.1 4 j ∧ σ.2.1 4 j ≤ 255
def Twn (σ : Sg) (I : Nat → Int) (F : Nat → Int → Int) (LX RX : Int → List Int) : Prop := RqX σ I F ∧ BtX σ ∧ (0 ≤ σ.1 3 1 ∧ σ.1 3 1 ≤ 800) ∧ RdOk σ ∧ SL σ (F 0) (F 1) ∧ RuX σ (F 24) (F 25) (F 26) LX RX ∧ (IW (σ.1 0 1) (F 49) (σ.2.1 69) ∧ IL σ (F 49)) ∧ (0 ≤ I 11 ∧ I 11 ≤ 9999)
def kpI (I I' : Nat → Int) : Prop := I' 7 = I 7 ∧ I' 11 = I 11 ∧ I' 14 = I 14 ∧ I' 20 = I 20 ∧ I' 23 = I 23
def kpF (F F' : Nat → Int → Int) : Prop := F' 6 = F 6 ∧ F' 24 = F 24 ∧ F' 25 = F 25 ∧ F' 26 = F 26 ∧ F' 49 = F 49 ∧ F' 50 = F 50
def okQ (Q C : Nat → Prop) : Prop := ¬ Q 0 ∧ ¬ Q 2 ∧ ¬ Q 3 ∧ ¬ Q 4 ∧ ¬ Q 69 ∧ ¬ C 1
theorem RowL.fe {n : Int} {l : List Int} (h : RowL σ n l) (e1 : u.2.2.1 0 n = σ.2.2.1 0 n) (e2 : u.2.2.2 0 n = σ.2.2.2 0 n) : RowL u n l := ⟨h.1, by rw [e2]; exact h.2.1, by rw [e1]; exact h.2.2.1, h.2.2.2⟩
theorem RuC.fe {n : Int} {X Y : List Int} (h : RuC σ n X Y) (e : ∀ m : Int, m = 11 + 2 * n ∨ m = 12 + 2 * n → u.2.2.1 0 m = σ.2.2.1 0 m ∧ u.2.2.2 0 m = σ.2.2.2 0 m) : RuC u n X Y := ⟨h.1, h.2.1, h.2.2.1, h.2.2.2.1.fe (e _ (Or.inl rfl)).1 (e _ (Or.inl rfl)).2, h.2.2.2.2.fe (e _ (Or.inr rfl)).1 (e _ (Or.inr rfl)).2⟩
theorem RuX.fe {a b c : Int → Int} (h : RuX σ a b c LX RX) (e0 : u.1 0 1 = σ.1 0 1) (e : ∀ n : Int, 11 ≤ n → n < 11 + 2 * σ.1 0 1 → u.2.2.1 0 n = σ.2.2.1 0 n ∧ u.2.2.2 0 n = σ.2.2.2 0 n) : RuX u a b c LX RX := by
  refine ⟨by rw [e0]; exact h.1, fun r r0 r1 => ?_⟩
  rw [e0] at r1
  obtain ⟨h1, h2⟩ := h.2 r r0 r1
  exact ⟨h1, h2.fe (fun m hm => e m (by omega) (by omega))⟩
theorem Twn.sw (h : Twn σ I F LX RX) : SW (F 0) (F 1) := fun s s0 s5 => by
  obtain ⟨l, h1, h2, h3, h4, h5, -, -⟩ := h.2.2.2.2.1 s s0 s5
  exact ⟨l, h1, h2, h3, h4, h5⟩
theorem Twn.rw (h : Twn σ I F LX RX) : RWa (I 23) (F 24) (F 25) (F 26) := by
  obtain ⟨⟨-, -, -, -, e5, -⟩, -, -, -, -, hr, -, -⟩ := h
  rw [e5]
  exact ⟨hr.1.1, hr.1.2, fun r r0 r1 => ⟨LX r, RX r, (hr.2 r r0 r1).1⟩⟩
theorem Twn.of (h : Twn σ I F LX RX) (f : Fq Q R C σ u) (hQ : okQ Q C) (hR : ∀ n : Int, 11 ≤ n → ¬ R n) (kI : kpI I I') (kF : kpF F F') (hS : SL u (F' 0) (F' 1)) : Twn u I' F' LX RX := by
  obtain ⟨⟨e1, e2, e3, e4, e5, e6⟩, hb, h3, hd, -, hr, ⟨hi, hl⟩, hv⟩ := h
  obtain ⟨i7, i11, i14, i20, i23⟩ := kI
  obtain ⟨f6, f24, f25, f26, f49, f50⟩ := kF
  obtain ⟨q0, q2, q3, q4, q69, c1⟩ := hQ
  have a0 := (f.1 0 q0).1
  have a2 := (f.1 2 q2).1
  have a3 := (f.1 3 q3).1
  have a4 := (f.1 4 q4).2
  have a69 := (f.1 69 q69).2
  have ac := f.2.2.2 1 (by decide) c1
  refine ⟨⟨by rw [f6, e1, a4], by rw [i7, e2, a3], by rw [i14, e3, a2], by rw [i20, e4, a2], by rw [i23, e5, a0], by rw [f50, e6, a69]⟩, by unfold BtX; rw [a4]; exact hb, by rw [a3]; exact h3, by unfold RdOk; rw [a2]; exact hd, hS, by rw [f24, f25, f26]; exact hr.fe (by rw [a0]) (fun n n11 _ => f.2.1 n (hR n n11)), ⟨by rw [f49, a0, a69]; exact hi, by rw [f49]; unfold IL; rw [a69, ac]; exact hl⟩, by rw [i11]; exact hv⟩
theorem Twn.keep (h : Twn σ I F LX RX) (f : Fq Q R C σ u) (hQ : okQ Q C) (hR : ∀ n : Int, (0 ≤ n ∧ n ≤ 5) ∨ 11 ≤ n → ¬ R n) (kI : kpI I I') (kF : kpF F F') (k0 : F' 0 = F 0) (k1 : F' 1 = F 1) : Twn u I' F' LX RX :=
  h.of f hQ (fun n q => hR n (Or.inr q)) kI kF (by rw [k0, k1]; exact (h.2.2.2.2.1).cg (fun s s0 s5 => f.2.1 s (hR s (Or.inl ⟨s0, s5⟩))))
theorem Twn.put {x : Int} {l : List Int} (h : Twn σ I F LX RX) (f : Fq Q R C σ u) (hQ : okQ Q C) (hR : ∀ n : Int, (0 ≤ n ∧ n ≤ 5) ∨ 11 ≤ n → n ≠ x → ¬ R n) (kI : kpI I I') (kF : kpF F F') (hx : 0 ≤ x ∧ x ≤ 5) (hl : Sq l) (c4 : cs l ≤ 40) (c3 : cp l ≤ 300) (hr : RowL u x l) (ha : At (F' 0) (520 * x) l) (ho : ∀ j : Int, j < 520 * x ∨ 520 * x + l.length ≤ j → F' 0 j = F 0 j) (h1 : F' 1 = uZ (F 1) x l.length) : Twn u I' F' LX RX := by
  refine h.of f hQ (fun n q => hR n (Or.inr q) (by omega)) kI kF (fun s s0 s5 => ?_)
  have ll := hl.len
  by_cases e : s = x
  · subst e
    exact ⟨l, hl, ha, by rw [h1, uZ_eq], c4, c3, hr.2.1, hr.2.2.1⟩
  · obtain ⟨m, m1, m2, m3, m4, m5, m6, m7⟩ := h.2.2.2.2.1 s s0 s5
    have lm := m1.len
    have fr := f.2.1 s (hR s (Or.inl ⟨s0, s5⟩) e)
    exact ⟨m, m1, At_congr (fun i j0 j1 => ho _ (by omega)) m2, by rw [h1, uZ_ne e]; exact m3, m4, m5, by rw [fr.2]; exact m6, by rw [fr.1]; exact m7⟩

theorem p_size {x0 x1 : Int} (h : Twn σ I F LX RX) : ∃ (PC : Int → Sg → Prop) (PR : Int → (Nat → Int) → (Nat → Int → Int) → Prop), wp5_S_size σ x0 x1 PC ∧ wp_size (F 0) (F 1) (F 2) (I 4) x0 x1 (fun r (c0 : (Int → Int)) (c1 : Int) => PR r (sI I 4 c1) (sF F 2 c0)) ∧ ∀ x u x' I' F', PC x u → PR x' I' F' → x = x' ∧ ∃ LX' RX', Twn u I' F' LX' RX' := by
  obtain ⟨r, hc, hm⟩ := size_both (x0 := x0) (x1 := x1) h.2.2.2.2.1 (row := F 2) (many := I 4)
  have e5 : I 23 = σ.1 0 1 := h.1.2.2.2.2.1
  refine ⟨(fun x u => x = r ∧ Fq c8 No No σ u), (fun x I' F' => x = r ∧ kpI I I' ∧ kpF F F' ∧ F' 0 = F 0 ∧ F' 1 = F 1), hc _ (fun σ' f => ⟨rfl, f⟩), hm _ (fun _ _ => ⟨rfl, ⟨rfl, rfl, rfl, rfl, rfl⟩, ⟨rfl, rfl, rfl, rfl, rfl, rfl⟩, rfl, rfl⟩), ?_⟩
  rintro x u x' I' F' ⟨a1, f⟩ ⟨b1, b2, b3, b4, b5⟩
  exact ⟨by rw [a1, b1], LX, RX, h.keep f ⟨fun q => by simp only [c8] at q; omega, fun q => by simp only [c8] at q; omega, fun q => by simp only [c8] at q; omega, fun q => by simp only [c8] at q; omega, fun q => by simp only [c8] at q; omega, fun q => q.elim⟩ (fun n hn q => q.elim) b2 b3 b4 b5⟩
theorem p_run {x0 x1 x2 x3 : Int} (h : Twn σ I F LX RX) (hx : rng x3) : ∃ (PC : Int → Sg → Prop) (PR : Int → (Nat → Int) → (Nat → Int → Int) → Prop), wp5_S_run σ x0 x1 x2 x3 PC ∧ wp_run (F 0) (F 1) (F 2) (I 4) (F 28) (F 29) (I 30) (I 31) (I 32) (I 33) x0 x1 x2 x3 (fun r (c0 : (Int → Int)) (c1 : Int) (c2 : (Int → Int)) (c3 : (Int → Int)) (c4 : Int) (c5 : Int) (c6 : Int) (c7 : Int) => PR r (sI (sI (sI (sI (sI I 4 c1) 30 c4) 31 c5) 32 c6) 33 c7) (sF (sF (sF F 2 c0) 28 c2) 29 c3)) ∧ ∀ x u x' I' F', PC x u → PR x' I' F' → x = x' ∧ ∃ LX' RX', Twn u I' F' LX' RX' := by
  obtain ⟨r, hc, hm⟩ := run_both (x0 := x0) (x1 := x1) (x2 := x2) (x3 := x3) h.2.2.2.2.1 hx (row := F 2) (h := F 28) (o := F 29) (many := I 4) (s := I 30) (e := I 31) (m := I 32) (c := I 33)
  have e5 : I 23 = σ.1 0 1 := h.1.2.2.2.2.1
  refine ⟨(fun x u => x = r ∧ Fq c8 No No σ u), (fun x I' F' => x = r ∧ kpI I I' ∧ kpF F F' ∧ F' 0 = F 0 ∧ F' 1 = F 1), hc _ (fun σ' f => ⟨rfl, f⟩), hm _ (fun _ _ _ _ _ _ _ _ => ⟨rfl, ⟨rfl, rfl, rfl, rfl, rfl⟩, ⟨rfl, rfl, rfl, rfl, rfl, rfl⟩, rfl, rfl⟩), ?_⟩
  rintro x u x' I' F' ⟨a1, f⟩ ⟨b1, b2, b3, b4, b5⟩
  exact ⟨by rw [a1, b1], LX, RX, h.keep f ⟨fun q => by simp only [c8] at q; omega, fun q => by simp only [c8] at q; omega, fun q => by simp only [c8] at q; omega, fun q => by simp only [c8] at q; omega, fun q => by simp only [c8] at q; omega, fun q => q.elim⟩ (fun n hn q => q.elim) b2 b3 b4 b5⟩
theorem p_judge {x0 x1 x2 : Int} (h : Twn σ I F LX RX) : ∃ (PC : Int → Sg → Prop) (PR : Int → (Nat → Int) → (Nat → Int → Int) → Prop), wp5_S_judge σ x0 x1 x2 PC ∧ wp_judge (F 0) (F 1) (F 2) (I 4) (F 28) (F 29) (I 30) (I 31) (I 32) (I 33) (F 34) (F 35) (F 36) (I 37) (I 38) (I 39) (I 40) x0 x1 x2 (fun r (c0 : (Int → Int)) (c1 : Int) (c2 : (Int → Int)) (c3 : (Int → Int)) (c4 : Int) (c5 : Int) (c6 : Int) (c7 : Int) (c8 : (Int → Int)) (c9 : (Int → Int)) (c10 : (Int → Int)) (c11 : Int) (c12 : Int) (c13 : Int) (c14 : Int) => PR r (sI (sI (sI (sI (sI (sI (sI (sI (sI I 4 c1) 30 c4) 31 c5) 32 c6) 33 c7) 37 c11) 38 c12) 39 c13) 40 c14) (sF (sF (sF (sF (sF (sF F 2 c0) 28 c2) 29 c3) 34 c8) 35 c9) 36 c10)) ∧ ∀ x u x' I' F', PC x u → PR x' I' F' → x = x' ∧ ∃ LX' RX', Twn u I' F' LX' RX' := by
  obtain ⟨r, hc, hm⟩ := judge_both (x0 := x0) (x1 := x1) (x2 := x2) h.2.2.2.2.1 (row := F 2) (h := F 28) (o := F 29) (kE := F 34) (kM := F 35) (kO := F 36) (many := I 4) (s := I 30) (e := I 31) (m := I 32) (c := I 33) (fp := I 37) (fpl := I 38) (pt := I 39) (aT := I 40)
  have e5 : I 23 = σ.1 0 1 := h.1.2.2.2.2.1
  refine ⟨(fun x u => x = r ∧ Fq cj No No σ u), (fun x I' F' => x = r ∧ kpI I I' ∧ kpF F F' ∧ F' 0 = F 0 ∧ F' 1 = F 1), hc _ (fun σ' f => ⟨rfl, f⟩), hm _ (fun _ _ _ _ _ _ _ _ _ _ _ _ _ _ _ => ⟨rfl, ⟨rfl, rfl, rfl, rfl, rfl⟩, ⟨rfl, rfl, rfl, rfl, rfl, rfl⟩, rfl, rfl⟩), ?_⟩
  rintro x u x' I' F' ⟨a1, f⟩ ⟨b1, b2, b3, b4, b5⟩
  exact ⟨by rw [a1, b1], LX, RX, h.keep f ⟨fun q => by simp only [cj] at q; omega, fun q => by simp only [cj] at q; omega, fun q => by simp only [cj] at q; omega, fun q => by simp only [cj] at q; omega, fun q => by simp only [cj] at q; omega, fun q => q.elim⟩ (fun n hn q => q.elim) b2 b3 b4 b5⟩
theorem p_places {x0 x1 : Int} (h : Twn σ I F LX RX) : ∃ (PC : Int → Sg → Prop) (PR : Int → (Nat → Int) → (Nat → Int → Int) → Prop), wp5_S_places σ x0 x1 PC ∧ wp_places (F 0) (F 1) (F 2) (I 4) (I 23) (F 24) (F 45) (I 46) x0 x1 (fun r (c0 : (Int → Int)) (c1 : Int) (c2 : (Int → Int)) (c3 : Int) => PR r (sI (sI I 4 c1) 46 c3) (sF (sF F 2 c0) 45 c2)) ∧ ∀ x u x' I' F', PC x u → PR x' I' F' → x = x' ∧ ∃ LX' RX', Twn u I' F' LX' RX' := by
  obtain ⟨r, hc, hm⟩ := places_both (x0 := x0) (x1 := x1) h.2.2.2.2.1 h.2.2.2.2.2.1 (row := F 2) (bound := F 45) (many := I 4) (pat := I 46)
  have e5 : I 23 = σ.1 0 1 := h.1.2.2.2.2.1
  refine ⟨(fun x u => x = r ∧ Fq No No ab σ u), (fun x I' F' => x = r ∧ kpI I I' ∧ kpF F F' ∧ F' 0 = F 0 ∧ F' 1 = F 1), hc _ (fun σ' f => ⟨rfl, f⟩), by rw [e5]; exact hm _ (fun _ _ _ _ => ⟨rfl, ⟨rfl, rfl, rfl, rfl, rfl⟩, ⟨rfl, rfl, rfl, rfl, rfl, rfl⟩, rfl, rfl⟩), ?_⟩
  rintro x u x' I' F' ⟨a1, f⟩ ⟨b1, b2, b3, b4, b5⟩
  exact ⟨by rw [a1, b1], LX, RX, h.keep f ⟨fun q => q.elim, fun q => q.elim, fun q => q.elim, fun q => q.elim, fun q => q.elim, fun q => by simp only [ab] at q; omega⟩ (fun n hn q => q.elim) b2 b3 b4 b5⟩
theorem p_at {x0 x1 : Int} (h : Twn σ I F LX RX) : ∃ r0 : Int, wp5_S_at σ x0 x1 (fun x => x = r0) ∧ wp_at (F 0) (F 1) x0 x1 (fun x => x = r0) := by
  obtain ⟨r, hc, hm⟩ := at_both (x0 := x0) (x1 := x1) h.2.2.2.2.1
  exact ⟨r, hc _ rfl, hm _ rfl⟩
theorem p_fault {x0 : Int} (h : Twn σ I F LX RX) : ∃ r0 : Int, wp5_S_fault σ x0 (fun x => x = r0) ∧ wp_fault (I 14) (I 20) x0 (fun x => x = r0) := by
  obtain ⟨r, hc, hm⟩ := fault_both (σ := σ) (x := x0)
  obtain ⟨⟨e1, e2, e3, e4, e5, e6⟩, -⟩ := h
  exact ⟨r, hc _ rfl, by rw [e3, e4]; exact hm _ rfl⟩
theorem p_registers {x0 x1 : Int} (h : Twn σ I F LX RX) : ∃ (PC : Int → Sg → Prop) (PR : Int → (Nat → Int) → (Nat → Int → Int) → Prop), wp5_S_registers σ x0 x1 PC ∧ wp_registers (F 0) (F 1) (F 2) (I 4) (F 54) (F 55) x0 x1 (fun r (c0 : (Int → Int)) (c1 : Int) (c2 : (Int → Int)) (c3 : (Int → Int)) => PR r (sI I 4 c1) (sF (sF (sF F 2 c0) 54 c2) 55 c3)) ∧ ∀ x u x' I' F', PC x u → PR x' I' F' → ∃ LX' RX', Twn u I' F' LX' RX' := by
  refine ⟨(fun _ u => Fq q84 No No σ u), (fun _ I' F' => kpI I I' ∧ kpF F F' ∧ F' 0 = F 0 ∧ F' 1 = F 1), registers_k h.2.2.2.2.1 (fun v σ' f => f), registers_ok h.sw (fun _ _ _ _ _ => ⟨⟨rfl, rfl, rfl, rfl, rfl⟩, ⟨rfl, rfl, rfl, rfl, rfl, rfl⟩, rfl, rfl⟩), ?_⟩
  rintro x u x' I' F' f ⟨b2, b3, b4, b5⟩
  exact ⟨LX, RX, h.keep f ⟨fun q => by simp only [q84] at q; omega, fun q => by simp only [q84] at q; omega, fun q => by simp only [q84] at q; omega, fun q => by simp only [q84] at q; omega, fun q => by simp only [q84] at q; omega, fun q => q.elim⟩ (fun n hn q => q.elim) b2 b3 b4 b5⟩
theorem p_clash {x0 x1 x2 : Int} (h : Twn σ I F LX RX) : ∃ (PC : Int → Sg → Prop) (PR : Int → (Nat → Int) → (Nat → Int → Int) → Prop), wp5_S_clash σ x0 x1 x2 PC ∧ wp_clash (F 0) (F 1) (F 2) (I 4) (F 54) x0 x1 x2 (fun r (c0 : (Int → Int)) (c1 : Int) (c2 : (Int → Int)) => PR r (sI I 4 c1) (sF (sF F 2 c0) 54 c2)) ∧ ∀ x u x' I' F', PC x u → PR x' I' F' → ∃ LX' RX', Twn u I' F' LX' RX' := by
  refine ⟨(fun _ u => Fq q84 No No σ u), (fun _ I' F' => kpI I I' ∧ kpF F F' ∧ F' 0 = F 0 ∧ F' 1 = F 1), clash_k h.2.2.2.2.1 (fun v σ' f => f), clash_ok h.sw (fun _ _ _ _ => ⟨⟨rfl, rfl, rfl, rfl, rfl⟩, ⟨rfl, rfl, rfl, rfl, rfl, rfl⟩, rfl, rfl⟩), ?_⟩
  rintro x u x' I' F' f ⟨b2, b3, b4, b5⟩
  exact ⟨LX, RX, h.keep f ⟨fun q => by simp only [q84] at q; omega, fun q => by simp only [q84] at q; omega, fun q => by simp only [q84] at q; omega, fun q => by simp only [q84] at q; omega, fun q => by simp only [q84] at q; omega, fun q => q.elim⟩ (fun n hn q => q.elim) b2 b3 b4 b5⟩
theorem p_blame {x0 x1 : Int} (h : Twn σ I F LX RX) : ∃ (PC : Int → Sg → Prop) (PR : Int → (Nat → Int) → (Nat → Int → Int) → Prop), wp5_S_blame σ x0 x1 PC ∧ wp_blame (F 0) (F 1) (F 2) (F 3) (I 4) (I 5) (F 24) (F 25) (F 26) (F 28) (F 29) (I 30) (I 31) (I 32) (I 33) (F 34) (F 35) (F 36) (I 37) (I 38) (I 39) (I 40) (F 45) (I 46) (F 47) (I 48) (F 49) (F 50) x0 x1 (fun r (c0 : (Int → Int)) (c1 : (Int → Int)) (c2 : Int) (c3 : Int) (c4 : (Int → Int)) (c5 : (Int → Int)) (c6 : Int) (c7 : Int) (c8 : Int) (c9 : Int) (c10 : (Int → Int)) (c11 : (Int → Int)) (c12 : (Int → Int)) (c13 : Int) (c14 : Int) (c15 : Int) (c16 : Int) (c17 : (Int → Int)) (c18 : Int) (c19 : (Int → Int)) (c20 : Int) => PR r (sI (sI (sI (sI (sI (sI (sI (sI (sI (sI (sI (sI I 4 c2) 5 c3) 30 c6) 31 c7) 32 c8) 33 c9) 37 c13) 38 c14) 39 c15) 40 c16) 46 c18) 48 c20) (sF (sF (sF (sF (sF (sF (sF (sF (sF F 2 c0) 3 c1) 28 c4) 29 c5) 34 c10) 35 c11) 36 c12) 45 c17) 47 c19)) ∧ ∀ x u x' I' F', PC x u → PR x' I' F' → x = x' ∧ ∃ LX' RX', Twn u I' F' LX' RX' := by
  obtain ⟨hP, hV⟩ := Pvk.of h.2.2.2.2.2.2.1.1 h.2.2.2.2.2.2.1.2 h.2.2.2.2.2.1
  rw [← h.1.2.2.2.2.2] at hV
  refine ⟨(fun x u => blO σ LX RX (pvF σ) x0 x1 x ∧ Fq q31 w6 ab σ u), (fun x I' F' => blO σ LX RX (pvF σ) x0 x1 x ∧ kpI I I' ∧ kpF F F' ∧ F' 0 = F 0 ∧ F' 1 = F 1), blame_k h.2.2.2.2.1 hP (fun r hr σ' f => ⟨hr, f⟩), blame_x h.2.2.2.2.1 (PV := pvF σ) (LX := LX) (RX := RX) hV (fun r hr _ _ _ _ _ _ _ _ _ _ _ _ _ _ _ _ _ _ _ _ _ => ⟨hr, ⟨rfl, rfl, rfl, rfl, rfl⟩, ⟨rfl, rfl, rfl, rfl, rfl, rfl⟩, rfl, rfl⟩), ?_⟩
  rintro x u x' I' F' ⟨a1, f⟩ ⟨b1, b2, b3, b4, b5⟩
  exact ⟨a1.uq b1, LX, RX, h.keep f ⟨fun q => by simp only [q31, cj, fl] at q; omega, fun q => by simp only [q31, cj, fl] at q; omega, fun q => by simp only [q31, cj, fl] at q; omega, fun q => by simp only [q31, cj, fl] at q; omega, fun q => by simp only [q31, cj, fl] at q; omega, fun q => by simp only [ab] at q; omega⟩ (fun n hn q => by simp only [w6] at q; omega) b2 b3 b4 b5⟩
theorem p_apply {x0 x1 x2 x3 : Int} (h : Twn σ I F LX RX) : ∃ (PC : Int → Sg → Prop) (PR : Int → (Nat → Int) → (Nat → Int → Int) → Prop), wp5_S_apply σ x0 x1 x2 x3 PC ∧ wp_apply (F 0) (F 1) (F 2) (F 3) (I 4) (I 5) (I 23) (F 24) (F 25) (F 26) (F 45) (I 46) x0 x1 x2 x3 (fun r (c0 : (Int → Int)) (c1 : (Int → Int)) (c2 : (Int → Int)) (c3 : (Int → Int)) (c4 : Int) (c5 : Int) (c6 : (Int → Int)) (c7 : Int) => PR r (sI (sI (sI I 4 c4) 5 c5) 46 c7) (sF (sF (sF (sF (sF F 0 c0) 1 c1) 2 c2) 3 c3) 45 c6)) ∧ ∀ x u x' I' F', PC x u → PR x' I' F' → x = x' ∧ ∃ LX' RX', Twn u I' F' LX' RX' := by
  have e5 : I 23 = σ.1 0 1 := h.1.2.2.2.2.1
  have e6 : F 50 = σ.2.1 69 := h.1.2.2.2.2.2
  refine ⟨(fun x u => (apO σ LX RX (σ.1 0 1) x0 x1 x2 x3 none ∧ x = 0 ∧ Fq No (one 8) ab σ u) ∨ ∃ l', apO σ LX RX (σ.1 0 1) x0 x1 x2 x3 (some l') ∧ x = 1 ∧ (0 ≤ x3 ∧ x3 ≤ 5) ∧ Sq l' ∧ cs l' ≤ 40 ∧ cp l' ≤ 300 ∧ RowL u x3 l' ∧ Fq No (w8 x3) ab σ u), (fun x I' F' => kpI I I' ∧ kpF F F' ∧ ((apO σ LX RX (σ.1 0 1) x0 x1 x2 x3 none ∧ x = 0 ∧ F' 0 = F 0 ∧ F' 1 = F 1) ∨ ∃ l', apO σ LX RX (σ.1 0 1) x0 x1 x2 x3 (some l') ∧ x = 1 ∧ At (F' 0) (520 * x3) l' ∧ (∀ j : Int, j < 520 * x3 ∨ 520 * x3 + l'.length ≤ j → F' 0 j = F 0 j) ∧ F' 1 = uZ (F 1) x3 l'.length)), apply_k h.2.2.2.2.1 h.2.2.2.2.2.1 (fun ho σ' f => Or.inl ⟨ho, rfl, f⟩) (fun l' ho hx q1 q2 q3 σ' hr f => Or.inr ⟨l', ho, rfl, hx, q1, q2, q3, hr, f⟩), by rw [e5]; exact apply_x h.2.2.2.2.1 h.2.2.2.2.2.1 (fun ho _ _ _ _ _ _ => ⟨⟨rfl, rfl, rfl, rfl, rfl⟩, ⟨rfl, rfl, rfl, rfl, rfl, rfl⟩, Or.inl ⟨ho, rfl, rfl, rfl⟩⟩) (fun l' ho hx q1 q2 q3 sl _ _ _ _ _ _ ha hj => ⟨⟨rfl, rfl, rfl, rfl, rfl⟩, ⟨rfl, rfl, rfl, rfl, rfl, rfl⟩, Or.inr ⟨l', ho, rfl, ha, hj, rfl⟩⟩), ?_⟩
  rintro x u x' I' F' (⟨a1, a2, f⟩ | ⟨l', a1, a2, hx, q1, q2, q3, hr, f⟩) ⟨b2, b3, (⟨b1, b4, b5, b6⟩ | ⟨m', b1, b4, b5, b6, b7⟩)⟩
  · exact ⟨by rw [a2, b4], LX, RX, h.keep f ⟨fun q => q.elim, fun q => q.elim, fun q => q.elim, fun q => q.elim, fun q => q.elim, fun q => by simp only [ab] at q; omega⟩ (fun n hn q => by simp only [one] at q; omega) b2 b3 b5 b6⟩
  · cases a1.uq b1
  · cases a1.uq b1
  · have e := Option.some.inj (a1.uq b1)
    subst e
    exact ⟨by rw [a2, b4], LX, RX, h.put f ⟨fun q => q.elim, fun q => q.elim, fun q => q.elim, fun q => q.elim, fun q => q.elim, fun q => by simp only [ab] at q; omega⟩ (fun n hn hne q => by simp only [w8] at q; omega) b2 b3 hx q1 q2 q3 hr b5 b6 b7⟩
theorem p_make {x0 x1 x2 : Int} (h : Twn σ I F LX RX) : ∃ (PC : Int → Sg → Prop) (PR : Int → (Nat → Int) → (Nat → Int → Int) → Prop), wp5_S_make σ x0 x1 x2 PC ∧ wp_make (F 0) (F 1) (F 2) (F 3) (I 4) (I 5) (F 24) (F 25) (F 26) (F 45) (I 46) (F 47) (I 48) (F 49) (F 50) x0 x1 x2 (fun r (c0 : (Int → Int)) (c1 : (Int → Int)) (c2 : (Int → Int)) (c3 : (Int → Int)) (c4 : Int) (c5 : Int) (c6 : (Int → Int)) (c7 : Int) (c8 : (Int → Int)) (c9 : Int) => PR r (sI (sI (sI (sI I 4 c4) 5 c5) 46 c7) 48 c9) (sF (sF (sF (sF (sF (sF F 0 c0) 1 c1) 2 c2) 3 c3) 45 c6) 47 c8)) ∧ ∀ x u x' I' F', PC x u → PR x' I' F' → x = x' ∧ ∃ LX' RX', Twn u I' F' LX' RX' := by
  have e5 : I 23 = σ.1 0 1 := h.1.2.2.2.2.1
  have e6 : F 50 = σ.2.1 69 := h.1.2.2.2.2.2
  refine ⟨(fun x u => (mkO σ LX RX x0 x1 x2 none ∧ x = -1 ∧ Fq (fl 71) mk9 ab σ u) ∨ ∃ l', mkO σ LX RX x0 x1 x2 (some l') ∧ x = (cs l' : Int) ∧ (0 ≤ x2 ∧ x2 ≤ 5) ∧ Sq l' ∧ cs l' ≤ 40 ∧ cp l' ≤ 300 ∧ RowL u x2 l' ∧ Fq (fl 71) (w9 x2) ab σ u), (fun x I' F' => kpI I I' ∧ kpF F F' ∧ ((mkO σ LX RX x0 x1 x2 none ∧ x = -1 ∧ F' 0 = F 0 ∧ F' 1 = F 1) ∨ ∃ l', mkO σ LX RX x0 x1 x2 (some l') ∧ x = (cs l' : Int) ∧ At (F' 0) (520 * x2) l' ∧ (∀ j : Int, j < 520 * x2 ∨ 520 * x2 + l'.length ≤ j → F' 0 j = F 0 j) ∧ F' 1 = uZ (F 1) x2 l'.length)), make_k h.2.2.2.2.1 h.2.2.2.2.2.1 h.2.2.2.2.2.2.1.1 h.2.2.2.2.2.2.1.2 (fun ho σ' f => Or.inl ⟨ho, rfl, f⟩) (fun l' ho hx q1 q2 q3 σ' hr f => Or.inr ⟨l', ho, rfl, hx, q1, q2, q3, hr, f⟩), by rw [e6]; exact make_x h.2.2.2.2.1 h.2.2.2.2.2.1 h.2.2.2.2.2.2.1.1 h.2.2.2.2.2.2.1.2 (fun ho _ _ _ _ _ _ _ _ => ⟨⟨rfl, rfl, rfl, rfl, rfl⟩, ⟨rfl, rfl, rfl, rfl, rfl, rfl⟩, Or.inl ⟨ho, rfl, rfl, rfl⟩⟩) (fun l' ho hx q1 q2 q3 sl _ _ _ _ _ _ _ _ ha hj => ⟨⟨rfl, rfl, rfl, rfl, rfl⟩, ⟨rfl, rfl, rfl, rfl, rfl, rfl⟩, Or.inr ⟨l', ho, rfl, ha, hj, rfl⟩⟩), ?_⟩
  rintro x u x' I' F' (⟨a1, a2, f⟩ | ⟨l', a1, a2, hx, q1, q2, q3, hr, f⟩) ⟨b2, b3, (⟨b1, b4, b5, b6⟩ | ⟨m', b1, b4, b5, b6, b7⟩)⟩
  · exact ⟨by rw [a2, b4], LX, RX, h.keep f ⟨fun q => by simp only [fl] at q; omega, fun q => by simp only [fl] at q; omega, fun q => by simp only [fl] at q; omega, fun q => by simp only [fl] at q; omega, fun q => by simp only [fl] at q; omega, fun q => by simp only [ab] at q; omega⟩ (fun n hn q => by simp only [mk9] at q; omega) b2 b3 b5 b6⟩
  · cases a1.uq b1
  · cases a1.uq b1
  · have e := Option.some.inj (a1.uq b1)
    subst e
    exact ⟨by rw [a2, b4], LX, RX, h.put f ⟨fun q => by simp only [fl] at q; omega, fun q => by simp only [fl] at q; omega, fun q => by simp only [fl] at q; omega, fun q => by simp only [fl] at q; omega, fun q => by simp only [fl] at q; omega, fun q => by simp only [ab] at q; omega⟩ (fun n hn hne q => by simp only [w9] at q; omega) b2 b3 hx q1 q2 q3 hr b5 b6 b7⟩
theorem p_cut {x0 x1 x2 : Int} (h : Twn σ I F LX RX) : ∃ (PC : Int → Sg → Prop) (PR : Int → (Nat → Int) → (Nat → Int → Int) → Prop), wp5_S_cut σ x0 x1 x2 PC ∧ wp_cut (F 0) (F 1) (F 2) (F 3) (I 4) (I 5) (F 24) (F 25) (F 26) (F 28) (F 29) (I 30) (I 31) (I 32) (I 33) (F 34) (F 35) (F 36) (I 37) (I 38) (I 39) (I 40) (F 45) (I 46) (F 47) (I 48) (F 49) (F 50) (F 51) (I 52) (F 53) x0 x1 x2 (fun r (c0 : (Int → Int)) (c1 : (Int → Int)) (c2 : (Int → Int)) (c3 : (Int → Int)) (c4 : Int) (c5 : Int) (c6 : (Int → Int)) (c7 : (Int → Int)) (c8 : Int) (c9 : Int) (c10 : Int) (c11 : Int) (c12 : (Int → Int)) (c13 : (Int → Int)) (c14 : (Int → Int)) (c15 : Int) (c16 : Int) (c17 : Int) (c18 : Int) (c19 : (Int → Int)) (c20 : Int) (c21 : (Int → Int)) (c22 : Int) (c23 : (Int → Int)) (c24 : Int) (c25 : (Int → Int)) => PR r (sI (sI (sI (sI (sI (sI (sI (sI (sI (sI (sI (sI (sI I 4 c4) 5 c5) 30 c8) 31 c9) 32 c10) 33 c11) 37 c15) 38 c16) 39 c17) 40 c18) 46 c20) 48 c22) 52 c24) (sF (sF (sF (sF (sF (sF (sF (sF (sF (sF (sF (sF (sF F 0 c0) 1 c1) 2 c2) 3 c3) 28 c6) 29 c7) 34 c12) 35 c13) 36 c14) 45 c19) 47 c21) 51 c23) 53 c25)) ∧ ∀ x u x' I' F', PC x u → PR x' I' F' → x = x' ∧ ∃ LX' RX', Twn u I' F' LX' RX' := by
  obtain ⟨hP, hV⟩ := Pvk.of h.2.2.2.2.2.2.1.1 h.2.2.2.2.2.2.1.2 h.2.2.2.2.2.1
  rw [← h.1.2.2.2.2.2] at hV
  have e5 : I 23 = σ.1 0 1 := h.1.2.2.2.2.1
  have e6 : F 50 = σ.2.1 69 := h.1.2.2.2.2.2
  refine ⟨(fun x u => (ctO σ LX RX (pvF σ) x0 x1 x2 none ∧ x = -1 ∧ Fq qj w67 ab σ u) ∨ ∃ l', ctO σ LX RX (pvF σ) x0 x1 x2 (some l') ∧ x = (cs l' : Int) ∧ (0 ≤ x2 ∧ x2 ≤ 5) ∧ Sq l' ∧ cs l' ≤ 40 ∧ cp l' ≤ 300 ∧ RowL u x2 l' ∧ Fq qj (w7 x2) ab σ u), (fun x I' F' => kpI I I' ∧ kpF F F' ∧ ((ctO σ LX RX (pvF σ) x0 x1 x2 none ∧ x = -1 ∧ F' 0 = F 0 ∧ F' 1 = F 1) ∨ ∃ l', ctO σ LX RX (pvF σ) x0 x1 x2 (some l') ∧ x = (cs l' : Int) ∧ At (F' 0) (520 * x2) l' ∧ (∀ j : Int, j < 520 * x2 ∨ 520 * x2 + l'.length ≤ j → F' 0 j = F 0 j) ∧ F' 1 = uZ (F 1) x2 l'.length)), cut_k h.2.2.2.2.1 hP (fun ho σ' f => Or.inl ⟨ho, rfl, f⟩) (fun l' ho hx q1 q2 q3 σ' hr f => Or.inr ⟨l', ho, rfl, hx, q1, q2, q3, hr, f⟩), cut_x h.2.2.2.2.1 (PV := pvF σ) (LX := LX) (RX := RX) hV (fun ho _ _ _ _ _ _ _ _ _ _ _ _ _ _ _ _ _ _ _ _ _ _ _ _ => ⟨⟨rfl, rfl, rfl, rfl, rfl⟩, ⟨rfl, rfl, rfl, rfl, rfl, rfl⟩, Or.inl ⟨ho, rfl, rfl, rfl⟩⟩) (fun l' ho hx q1 q2 q3 sl _ _ _ _ _ _ _ _ _ _ _ _ _ _ _ _ _ _ _ _ _ _ _ _ ha hj => ⟨⟨rfl, rfl, rfl, rfl, rfl⟩, ⟨rfl, rfl, rfl, rfl, rfl, rfl⟩, Or.inr ⟨l', ho, rfl, ha, hj, rfl⟩⟩), ?_⟩
  rintro x u x' I' F' (⟨a1, a2, f⟩ | ⟨l', a1, a2, hx, q1, q2, q3, hr, f⟩) ⟨b2, b3, (⟨b1, b4, b5, b6⟩ | ⟨m', b1, b4, b5, b6, b7⟩)⟩
  · exact ⟨by rw [a2, b4], LX, RX, h.keep f ⟨fun q => by simp only [qj, cj, fl] at q; omega, fun q => by simp only [qj, cj, fl] at q; omega, fun q => by simp only [qj, cj, fl] at q; omega, fun q => by simp only [qj, cj, fl] at q; omega, fun q => by simp only [qj, cj, fl] at q; omega, fun q => by simp only [ab] at q; omega⟩ (fun n hn q => by simp only [w67] at q; omega) b2 b3 b5 b6⟩
  · cases a1.uq b1
  · cases a1.uq b1
  · have e := Option.some.inj (a1.uq b1)
    subst e
    exact ⟨by rw [a2, b4], LX, RX, h.put f ⟨fun q => by simp only [qj, cj, fl] at q; omega, fun q => by simp only [qj, cj, fl] at q; omega, fun q => by simp only [qj, cj, fl] at q; omega, fun q => by simp only [qj, cj, fl] at q; omega, fun q => by simp only [qj, cj, fl] at q; omega, fun q => by simp only [ab] at q; omega⟩ (fun n hn hne q => by simp only [w7, w67] at q; omega) b2 b3 hx q1 q2 q3 hr b5 b6 b7⟩
theorem p_feed {x0 x1 x2 x3 x4 : Int} (h : Twn σ I F LX RX) : ∃ (PC : Int → Sg → Prop) (PR : Int → (Nat → Int) → (Nat → Int → Int) → Prop), wp5_S_feed σ x0 x1 x2 x3 x4 PC ∧ wp_feed (F 6) (I 7) x0 x1 x2 x3 x4 (fun r (c0 : (Int → Int)) (c1 : Int) => PR r (sI I 7 c1) (sF F 6 c0)) ∧ ∀ x u x' I' F', PC x u → PR x' I' F' → x = x' ∧ ∃ LX' RX', Twn u I' F' LX' RX' := by
  obtain ⟨⟨e1, e2, e3, e4, e5, e6⟩, hb, h3, hd, hS, hr, ⟨hi, hl⟩, hv⟩ := id h
  obtain ⟨r, u1, hc, hm, f1, f2, f3, f4, f5⟩ := feed_both (σ := σ) (x0 := x0) (x1 := x1) (x2 := x2) (x3 := x3) (x4 := x4) h3.1 h3.2
  refine ⟨(fun x u => x = r ∧ u = u1), (fun x I' F' => x = r ∧ Twn u1 I' F' LX RX), hc _ ⟨rfl, rfl⟩, by rw [e1, e2]; exact hm _ ⟨rfl, ⟨rfl, rfl, by show I 14 = _; rw [f1 2 1 (Or.inl (by decide)), e3], by show I 20 = _; rw [f1 2 2 (Or.inl (by decide)), e4], by show I 23 = _; rw [f1 0 1 (Or.inl (by decide)), e5], by show F 50 = _; rw [f2 69 (by decide), e6]⟩, f5 hb, f4, by unfold RdOk; rw [f1 2 7 (Or.inl (by decide)), f1 2 9 (Or.inl (by decide)), f1 2 13 (Or.inl (by decide))]; exact hd, hS.cg (fun s _ _ => by rw [f3]; exact ⟨rfl, rfl⟩), hr.fe (f1 0 1 (Or.inl (by decide))) (fun n _ _ => by rw [f3]; exact ⟨rfl, rfl⟩), ⟨by show IW _ (F 49) _; rw [f1 0 1 (Or.inl (by decide)), f2 69 (by decide)]; exact hi, by show IL _ (F 49); unfold IL; rw [f2 69 (by decide), f3]; exact hl⟩, hv⟩, ?_⟩
  rintro x u x' I' F' ⟨a1, a2⟩ ⟨b1, b2⟩
  exact ⟨by rw [a1, b1], LX, RX, by rw [a2]; exact b2⟩
theorem p_end {x0 : Int} (h : Twn σ I F LX RX) : ∃ (PC : Int → Sg → Prop) (PR : Int → (Nat → Int) → (Nat → Int → Int) → Prop), wp5_S_end σ x0 PC ∧ wp_end (I 7) x0 (fun r (c0 : Int) => PR r (sI I 7 c0) F) ∧ ∀ x u x' I' F', PC x u → PR x' I' F' → x = x' ∧ ∃ LX' RX', Twn u I' F' LX' RX' := by
  obtain ⟨⟨e1, e2, e3, e4, e5, e6⟩, hb, h3, hd, hS, hr, ⟨hi, hl⟩, hv⟩ := id h
  obtain ⟨r, u1, hc, hm, f1, f2, f4⟩ := end_both (σ := σ) (x := x0) h3.1 h3.2
  refine ⟨(fun x u => x = r ∧ u = u1), (fun x I' F' => x = r ∧ Twn u1 I' F' LX RX), hc _ ⟨rfl, rfl⟩, by rw [e2]; exact hm _ ⟨rfl, ⟨by show F 6 = _; rw [f2, e1], rfl, by show I 14 = _; rw [f1 2 1 (Or.inl (by decide)), e3], by show I 20 = _; rw [f1 2 2 (Or.inl (by decide)), e4], by show I 23 = _; rw [f1 0 1 (Or.inl (by decide)), e5], by show F 50 = _; rw [f2, e6]⟩, by unfold BtX; rw [f2]; exact hb, f4, by unfold RdOk; rw [f1 2 7 (Or.inl (by decide)), f1 2 9 (Or.inl (by decide)), f1 2 13 (Or.inl (by decide))]; exact hd, hS.cg (fun s _ _ => by rw [f2]; exact ⟨rfl, rfl⟩), hr.fe (f1 0 1 (Or.inl (by decide))) (fun n _ _ => by rw [f2]; exact ⟨rfl, rfl⟩), ⟨by rw [f1 0 1 (Or.inl (by decide)), f2]; exact hi, by unfold IL; rw [f2]; exact hl⟩, hv⟩, ?_⟩
  rintro x u x' I' F' ⟨a1, a2⟩ ⟨b1, b2⟩
  exact ⟨by rw [a1, b1], LX, RX, by rw [a2]; exact b2⟩
theorem p_clear {x0 : Int} (h : Twn σ I F LX RX) : ∃ (PC : Int → Sg → Prop) (PR : Int → (Nat → Int) → (Nat → Int → Int) → Prop), wp5_S_clear σ x0 PC ∧ wp_clear (F 50) x0 (fun r (c0 : (Int → Int)) => PR r I (sF F 50 c0)) ∧ ∀ x u x' I' F', PC x u → PR x' I' F' → x = x' ∧ ∃ LX' RX', Twn u I' F' LX' RX' := by
  obtain ⟨⟨e1, e2, e3, e4, e5, e6⟩, hb, h3, hd, hS, hr, ⟨hi, hl⟩, hv⟩ := id h
  obtain ⟨r, u1, hc, hm, fr, hIW, hIL⟩ := clear_both (σ := σ) (items := F 49) (x := x0) hi
  refine ⟨(fun x u => x = r ∧ u = u1), (fun x I' F' => x = r ∧ Twn u1 I' F' LX RX), hc _ ⟨rfl, rfl⟩, by rw [e6]; exact hm _ ⟨rfl, ⟨by show F 6 = _; rw [fr.2.1 4 (by decide), e1], by show I 7 = _; rw [fr.1]; exact e2, by show I 14 = _; rw [fr.1]; exact e3, by show I 20 = _; rw [fr.1]; exact e4, by show I 23 = _; rw [fr.1]; exact e5, rfl⟩, by unfold BtX; rw [fr.2.1 4 (by decide)]; exact hb, by rw [fr.1]; exact h3, by unfold RdOk; rw [fr.1]; exact hd, hS.cg (fun s _ _ => by rw [fr.2.2.1, fr.2.2.2.1 0 (by decide)]; exact ⟨rfl, rfl⟩), hr.fe (by rw [fr.1]) (fun n _ _ => by rw [fr.2.2.1, fr.2.2.2.1 0 (by decide)]; exact ⟨rfl, rfl⟩), ⟨hIW, hIL hl⟩, hv⟩, ?_⟩
  rintro x u x' I' F' ⟨a1, a2⟩ ⟨b1, b2⟩
  exact ⟨by rw [a1, b1], LX, RX, by rw [a2]; exact b2⟩
theorem p_item {x0 x1 : Int} (h : Twn σ I F LX RX) : ∃ (PC : Int → Sg → Prop) (PR : Int → (Nat → Int) → (Nat → Int → Int) → Prop), wp5_S_item σ x0 x1 PC ∧ wp_item (I 23) (F 49) (F 50) x0 x1 (fun r (c0 : (Int → Int)) (c1 : (Int → Int)) => PR r I (sF (sF F 49 c0) 50 c1)) ∧ ∀ x u x' I' F', PC x u → PR x' I' F' → x = x' ∧ ∃ LX' RX', Twn u I' F' LX' RX' := by
  obtain ⟨⟨e1, e2, e3, e4, e5, e6⟩, hb, h3, hd, hS, hr, ⟨hi, hl⟩, hv⟩ := id h
  obtain ⟨r, u1, items', hc, hm, fr, hIW, hIL⟩ := item_both (σ := σ) (items := F 49) (x := x0) (y := x1) hi hr.1
  refine ⟨(fun x u => x = r ∧ u = u1), (fun x I' F' => x = r ∧ Twn u1 I' F' LX RX), hc _ ⟨rfl, rfl⟩, by rw [e5, e6]; exact hm _ ⟨rfl, ⟨by show F 6 = _; rw [fr.2.1 4 (by decide), e1], by show I 7 = _; rw [fr.1]; exact e2, by show I 14 = _; rw [fr.1]; exact e3, by show I 20 = _; rw [fr.1]; exact e4, by show I 23 = _; rw [fr.1]; exact e5, rfl⟩, by unfold BtX; rw [fr.2.1 4 (by decide)]; exact hb, by rw [fr.1]; exact h3, by unfold RdOk; rw [fr.1]; exact hd, hS.cg (fun s _ _ => by rw [fr.2.2.1, fr.2.2.2.1 0 (by decide)]; exact ⟨rfl, rfl⟩), hr.fe (by rw [fr.1]) (fun n _ _ => by rw [fr.2.2.1, fr.2.2.2.1 0 (by decide)]; exact ⟨rfl, rfl⟩), ⟨hIW, hIL hl⟩, hv⟩, ?_⟩
  rintro x u x' I' F' ⟨a1, a2⟩ ⟨b1, b2⟩
  exact ⟨by rw [a1, b1], LX, RX, by rw [a2]; exact b2⟩
theorem program_bad {σ : Sg} {slot slotLong row fresh : Int → Int} {many made at0 token tokenAt value wrong wrongAt fk depth cP cS pM lL fp iR iT x : Int} (g : Gl (σ.2.1 4) (σ.1 3 1)) (hx : ¬ (0 ≤ x ∧ x ≤ 5)) :
    ∃ (r : Int) (σ' : Sg), (∀ K, K r σ' → wp5_S_program σ x K) ∧ (σ'.1 3 1 = 0 ∧ (∀ a b, a ≠ 2 → a ≠ 3 → σ'.1 a b = σ.1 a b) ∧ (∀ b, b ≠ 1 → b ≠ 2 → σ'.1 2 b = σ.1 2 b) ∧ σ'.2 = σ.2) ∧ ∃ wrong' fk' fp',
      (∀ K, K r slot slotLong row fresh many made 0 at0 token tokenAt value wrong' wrongAt fk' depth cP cS pM lL fp' iR iT → wp_program slot slotLong row fresh many made (σ.2.1 4) (σ.1 3 1) at0 token tokenAt value wrong wrongAt fk depth cP cS pM lL fp iR iT x K) ∧ (fk' = σ'.1 2 1 ∧ fp' = σ'.1 2 2) := by
  refine ⟨-1, pU (pU (pU σ 2 1 0) 2 2 (-1)) 3 1 0, fun K hK => ?_, ⟨rfl, fun a b z1 z2 => by rw [pU_ne (Or.inl z2), pU_ne (Or.inl z1), pU_ne (Or.inl z1)], fun b z1 z2 => by rw [pU_ne (Or.inl (by decide)), pU_ne (Or.inr z2), pU_ne (Or.inr z1)], rfl⟩, 0, 0, -1, fun K hK => ?_, ⟨rfl, rfl⟩⟩
  · have dr : wp5_R_drop σ (fun σr14 => K (-1) σr14) := by
      unfold wp5_R_drop wp5_T_shorten
      exact ⟨fun z => absurd z (by decide), fun _ => ⟨fun _ => hK, fun z => absurd z (by show ¬ σ.1 3 1 < 0; have := g.1; omega)⟩⟩
    have dr2 : ((-1 : Int) < 0 → wp5_R_drop σ (fun σr14 => K (-1) σr14)) := fun _ => dr
    unfold wp5_S_program wp5_S_slotAt
    refine ⟨fun _ => ⟨fun _ => dr, fun z => absurd z (by decide)⟩, fun z => ⟨fun _ => ⟨fun _ => dr, fun z => absurd z (by decide)⟩, fun z2 => absurd (show 0 ≤ x ∧ x ≤ 5 by omega) hx⟩⟩
  · have en : wp_ends (σ.1 3 1) 0 wrongAt fk fp (fun taped_r13 faultKind_r13 faultPlace_r13 => K (-1) slot slotLong row fresh many made taped_r13 at0 token tokenAt value 0 wrongAt faultKind_r13 depth cP cS pM lL faultPlace_r13 iR iT) := by
      unfold wp_ends
      exact ⟨fun z => absurd rfl z, fun _ => hK⟩
    unfold wp_program wp_isSlot wp_isIn
    exact ⟨fun _ => ⟨Or.inl rfl, fun z => absurd rfl z, fun _ => en⟩, fun z => ⟨fun _ => ⟨Or.inl rfl, fun z => absurd rfl z, fun _ => en⟩, fun z2 => absurd (show 0 ≤ x ∧ x ≤ 5 by omega) hx⟩⟩
theorem p_program {x0 : Int} (h : Twn σ I F LX RX) : ∃ (PC : Int → Sg → Prop) (PR : Int → (Nat → Int) → (Nat → Int → Int) → Prop), wp5_S_program σ x0 PC ∧ wp_program (F 0) (F 1) (F 2) (F 3) (I 4) (I 5) (F 6) (I 7) (I 8) (I 9) (I 10) (I 11) (I 12) (I 13) (I 14) (I 15) (I 16) (I 17) (I 18) (I 19) (I 20) (I 21) (I 22) x0 (fun r (c0 : (Int → Int)) (c1 : (Int → Int)) (c2 : (Int → Int)) (c3 : (Int → Int)) (c4 : Int) (c5 : Int) (c6 : Int) (c7 : Int) (c8 : Int) (c9 : Int) (c10 : Int) (c11 : Int) (c12 : Int) (c13 : Int) (c14 : Int) (c15 : Int) (c16 : Int) (c17 : Int) (c18 : Int) (c19 : Int) (c20 : Int) (c21 : Int) => PR r (sI (sI (sI (sI (sI (sI (sI (sI (sI (sI (sI (sI (sI (sI (sI (sI (sI (sI I 4 c4) 5 c5) 7 c6) 8 c7) 9 c8) 10 c9) 11 c10) 12 c11) 13 c12) 14 c13) 15 c14) 16 c15) 17 c16) 18 c17) 19 c18) 20 c19) 21 c20) 22 c21) (sF (sF (sF (sF F 0 c0) 1 c1) 2 c2) 3 c3)) ∧ ∀ x u x' I' F', PC x u → PR x' I' F' → x = x' ∧ ∃ LX' RX', Twn u I' F' LX' RX' := by
  obtain ⟨⟨e1, e2, e3, e4, e5, e6⟩, hb, h3, hd, hS, hr, ⟨hi, hl⟩, hv⟩ := id h
  by_cases hx : 0 ≤ x0 ∧ x0 ≤ 5
  · obtain ⟨r0, u1, hc, ⟨hp0, ⟨p1, p2, p3, p4⟩, hpR, hpW⟩, fresh', many', made', at', token', tokenAt', value', wrong', wrongAt', fk', depth', cP', cS', pM', lL', fp', iR', iT', hm, ⟨hk, hp⟩, hv0, hv1⟩ := program_both (σ := σ) (slot := F 0) (slotLong := F 1) (row := F 2) (fresh := F 3) (many := I 4) (made := I 5) (at0 := I 8) (token := I 9) (tokenAt := I 10) (value := I 11) (wrong := I 12) (wrongAt := I 13) (fk := I 14) (depth := I 15) (cP := I 16) (cS := I 17) (pM := I 18) (lL := I 19) (fp := I 20) (iR := I 21) (iT := I 22) (x := x0) ⟨h3.1, h3.2, hb⟩ h.sw hv hd (fun _ _ _ => trivial)
    refine ⟨(fun x u => x = r0 ∧ u = u1), (fun x I' F' => x = r0 ∧ Twn u1 I' F' LX RX), hc _ ⟨rfl, rfl⟩, by rw [e1, e2]; exact hm _ (fun slot1 slotLong1 row1 sw hsl => ⟨rfl, ⟨by show F 6 = _; rw [p2 4 (by decide) (by decide) (by decide), e1], hp0.symm, hk, hp, by show I 23 = _; rw [p1 0 1 (by decide) (by decide), e5], by show F 50 = _; rw [p2 69 (by decide) (by decide) (by decide), e6]⟩, by unfold BtX; rw [p2 4 (by decide) (by decide) (by decide)]; exact hb, by rw [hp0]; decide, hpR, hsl hS, hr.fe (p1 0 1 (by decide) (by decide)) (fun n n11 _ => p3 n (by omega) (by omega)), ⟨by show IW _ (F 49) _; rw [p1 0 1 (by decide) (by decide), p2 69 (by decide) (by decide) (by decide)]; exact hi, by show IL _ (F 49); unfold IL; rw [p2 69 (by decide) (by decide) (by decide), (p4 1 (by decide)).2]; exact hl⟩, hv0, hv1⟩), ?_⟩
    rintro x u x' I' F' ⟨a1, a2⟩ ⟨b1, b2⟩
    exact ⟨by rw [a1, b1], LX, RX, by rw [a2]; exact b2⟩
  · obtain ⟨r0, u1, hc, ⟨hp0, p1, pq, p2⟩, wrong', fk', fp', hm, ⟨hk, hp⟩⟩ := program_bad (σ := σ) (slot := F 0) (slotLong := F 1) (row := F 2) (fresh := F 3) (many := I 4) (made := I 5) (at0 := I 8) (token := I 9) (tokenAt := I 10) (value := I 11) (wrong := I 12) (wrongAt := I 13) (fk := I 14) (depth := I 15) (cP := I 16) (cS := I 17) (pM := I 18) (lL := I 19) (fp := I 20) (iR := I 21) (iT := I 22) (x := x0) ⟨h3.1, h3.2, hb⟩ hx
    refine ⟨(fun x u => x = r0 ∧ u = u1), (fun x I' F' => x = r0 ∧ Twn u1 I' F' LX RX), hc _ ⟨rfl, rfl⟩, by rw [e1, e2]; exact hm _ ⟨rfl, ⟨by show F 6 = _; rw [p2, e1], hp0.symm, hk, hp, by show I 23 = _; rw [p1 0 1 (by decide) (by decide), e5], by show F 50 = _; rw [p2, e6]⟩, by unfold BtX; rw [p2]; exact hb, by rw [hp0]; decide, by unfold RdOk; rw [pq 7 (by decide) (by decide), pq 9 (by decide) (by decide), pq 13 (by decide) (by decide)]; exact hd, hS.cg (fun s _ _ => by rw [p2]; exact ⟨rfl, rfl⟩), hr.fe (p1 0 1 (by decide) (by decide)) (fun n _ _ => by rw [p2]; exact ⟨rfl, rfl⟩), ⟨by show IW _ (F 49) _; rw [p1 0 1 (by decide) (by decide), p2]; exact hi, by show IL _ (F 49); unfold IL; rw [p2]; exact hl⟩, hv⟩, ?_⟩
    rintro x u x' I' F' ⟨a1, a2⟩ ⟨b1, b2⟩
    exact ⟨by rw [a1, b1], LX, RX, by rw [a2]; exact b2⟩
theorem IW_upX {r r' : Int} {a b : Int → Int} (h : r ≤ r') (hI : IW r a b) : IW r' a b := by
  intro k k0 k5
  obtain ⟨h1, h2, h3⟩ := hI k k0 k5
  exact ⟨h1, h2, fun i i0 i1 => (h3 i i0 i1).imp (fun q => ⟨q.1, by omega⟩) (fun q => q)⟩
theorem cv_cm {X : List Int} (h : Ex lfU (X.map (cm 1))) : (X.map (cm 1)).map cv = X := by
  rw [List.map_map]
  refine (List.map_congr_left (fun c hc => ?_)).trans (List.map_id X)
  have := h.all _ (List.mem_map_of_mem (f := cm 1) hc)
  show cv (cm 1 c) = c
  unfold lfU opC at this
  by_cases q : (20 ≤ c ∧ c < 23) ∨ (30 ≤ c ∧ c < 33)
  · by_cases q2 : c < 30
    · have e : cm 1 c = c + 10 := by unfold cm; rw [if_pos ⟨rfl, q⟩, if_pos q2]
      rw [e]
      unfold cv
      rw [if_pos (by omega)]
      omega
    · have e : cm 1 c = -7 := by unfold cm; rw [if_pos ⟨rfl, q⟩, if_neg q2]
      rw [e] at this
      omega
  · have e : cm 1 c = c := by unfold cm; rw [if_neg (fun z => q z.2)]
    rw [e]
    unfold cv
    rw [if_neg (by omega)]
theorem NewR.rux {a b c a' b' c' : Int → Int} (hN : NewR σ u a b c a' b' c') (h : RuX σ a b c LX RX) (hle : u.1 0 1 ≤ 12) (fr : ∀ n : Int, 11 ≤ n → n < 11 + 2 * σ.1 0 1 → u.2.2.1 0 n = σ.2.2.1 0 n ∧ u.2.2.2 0 n = σ.2.2.2 0 n) : ∃ LX' RX', RuX u a' b' c' LX' RX' := by
  rcases hN with ⟨n1, n2, n3, n4⟩ | ⟨n1, X, Y, x1, x2, x3, x4, x5, x6, x7, x8, x9, y1, y2, y3, y4⟩
  · exact ⟨LX, RX, by rw [n2, n3, n4]; exact h.fe n1 fr⟩
  · obtain ⟨⟨r0, r12⟩, hh⟩ := h
    refine ⟨fun q => if q = σ.1 0 1 then X.map (cm 1) else LX q, fun q => if q = σ.1 0 1 then Y.map (cm 1) else RX q, ⟨by omega, hle⟩, fun q q0 q1 => ?_⟩
    by_cases e : q = σ.1 0 1
    · show RW a' b' c' q (if q = σ.1 0 1 then _ else _) (if q = σ.1 0 1 then _ else _) ∧ RuC u q (if q = σ.1 0 1 then _ else _) (if q = σ.1 0 1 then _ else _)
      rw [if_pos e, if_pos e, e]
      have cap : ∀ n : Int, 11 ≤ n → capI n = 40 := fun n hn => by unfold capI; rw [if_neg (by omega), if_neg (by omega)]
      refine ⟨⟨x1, x2, x5, by rw [x6, List.length_map], by rw [x7, List.length_map, List.length_map], by rw [List.length_map, List.length_map]; exact x4, x3⟩, x1, x2, x3, ?_, ?_⟩
      · rw [cv_cm x1]
        exact ⟨by omega, y1, y2, by rw [cap _ (by omega)]; omega⟩
      · rw [cv_cm x2]
        exact ⟨by omega, y3, y4, by rw [cap _ (by omega)]; omega⟩
    · show RW a' b' c' q (if q = σ.1 0 1 then _ else _) (if q = σ.1 0 1 then _ else _) ∧ RuC u q (if q = σ.1 0 1 then _ else _) (if q = σ.1 0 1 then _ else _)
      rw [if_neg e, if_neg e]
      obtain ⟨⟨w1, w2, w3, w4, w5, w6, w7⟩, hc⟩ := hh q q0 (by omega)
      refine ⟨⟨w1, w2, At_congr (fun i i0 i1 => x8 _ (by rw [List.length_append] at i1; omega)) w3, by rw [(x9 q e).1]; exact w4, by rw [(x9 q e).2]; exact w5, w6, w7⟩, hc.fe (fun m hm => fr m (by omega) (by omega))⟩
theorem p_rule (h : Twn σ I F LX RX) : ∃ (PC : Int → Sg → Prop) (PR : Int → (Nat → Int) → (Nat → Int → Int) → Prop), wp5_S_rule σ  PC ∧ wp_rule (F 3) (I 5) (F 6) (I 7) (I 8) (I 9) (I 10) (I 11) (I 12) (I 13) (I 14) (I 15) (I 16) (I 17) (I 18) (I 19) (I 20) (I 21) (I 22) (I 23) (F 24) (F 25) (F 26) (F 27) (fun r (c0 : (Int → Int)) (c1 : Int) (c2 : Int) (c3 : Int) (c4 : Int) (c5 : Int) (c6 : Int) (c7 : Int) (c8 : Int) (c9 : Int) (c10 : Int) (c11 : Int) (c12 : Int) (c13 : Int) (c14 : Int) (c15 : Int) (c16 : Int) (c17 : Int) (c18 : Int) (c19 : (Int → Int)) (c20 : (Int → Int)) (c21 : (Int → Int)) (c22 : (Int → Int)) => PR r (sI (sI (sI (sI (sI (sI (sI (sI (sI (sI (sI (sI (sI (sI (sI (sI (sI (sI I 5 c1) 7 c2) 8 c3) 9 c4) 10 c5) 11 c6) 12 c7) 13 c8) 14 c9) 15 c10) 16 c11) 17 c12) 18 c13) 19 c14) 20 c15) 21 c16) 22 c17) 23 c18) (sF (sF (sF (sF (sF F 3 c0) 24 c19) 25 c20) 26 c21) 27 c22)) ∧ ∀ x u x' I' F', PC x u → PR x' I' F' → x = x' ∧ ∃ LX' RX', Twn u I' F' LX' RX' := by
  obtain ⟨⟨e1, e2, e3, e4, e5, e6⟩, hb, h3, hd, hS, hr, ⟨hi, hl⟩, hv⟩ := id h
  obtain ⟨r0, u1, hc, ⟨hp0, ⟨hle, h12⟩, ⟨p1, p2, p3, p4, p5, p6⟩, hpR, hpW⟩, fresh', made', at', token', tokenAt', value', wrong', wrongAt', fk', depth', cP', cS', pM', lL', fp', iR', iT', rule', rR', rL', lt', hm, ⟨hk, hp⟩, hW', hv0, hv1, hN⟩ := rule_both (σ := σ) (fresh := F 3) (rule := F 24) (rR := F 25) (rL := F 26) (lt := F 27) (made := I 5) (at0 := I 8) (token := I 9) (tokenAt := I 10) (value := I 11) (wrong := I 12) (wrongAt := I 13) (fk := I 14) (depth := I 15) (cP := I 16) (cS := I 17) (pM := I 18) (lL := I 19) (fp := I 20) (iR := I 21) (iT := I 22) ⟨h3.1, h3.2, hb⟩ hr.1 (by have := h.rw; rw [e5] at this; exact this) hv hd (fun _ _ _ => trivial)
  obtain ⟨LX', RX', hr'⟩ := hN.rux hr h12 (fun n n11 nn => p3 n (by omega) (by omega))
  refine ⟨(fun x u => x = r0 ∧ u = u1), (fun x I' F' => x = r0 ∧ Twn u1 I' F' LX' RX'), hc _ ⟨rfl, rfl⟩, by rw [e1, e2, e5]; exact hm _ ⟨rfl, ⟨by show F 6 = _; rw [p2 4 (by decide) (by decide) (by decide), e1], hp0.symm, hk, hp, rfl, by show F 50 = _; rw [p2 69 (by decide) (by decide) (by decide), e6]⟩, by unfold BtX; rw [p2 4 (by decide) (by decide) (by decide)]; exact hb, by rw [hp0]; decide, hpR, hS.cg (fun s s0 s5 => p3 s (by have := hr.1; omega) (by have := hr.1; omega)), hr', ⟨IW_upX hle (by show IW _ (F 49) _; rw [p2 69 (by decide) (by decide) (by decide)]; exact hi), by show IL _ (F 49); unfold IL; rw [p2 69 (by decide) (by decide) (by decide), p6 1 (by decide)]; exact hl⟩, hv0, hv1⟩, ?_⟩
  rintro x u x' I' F' ⟨a1, a2⟩ ⟨b1, b2⟩
  exact ⟨by rw [a1, b1], LX', RX', by rw [a2]; exact b2⟩
end SYX
