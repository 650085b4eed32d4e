-- ===== program(): class and reference
theorem wc_is {x : Int} {P : Int → Prop} (h1 : isS x = true → P 1) (h0 : isS x = false → P 0) : wp5_W_isStatement x P := by
  have y : ((100 ≤ x ∧ x ≤ 105) ∨ x = 110 ∨ x = 111 ∨ x = 112 ∨ x = 115) → P 1 := fun z => h1 (isS_t.mpr z)
  have n : ¬ ((100 ≤ x ∧ x ≤ 105) ∨ x = 110 ∨ x = 111 ∨ x = 112 ∨ x = 115) → P 0 := fun z => h0 (by
    cases q : isS x with
    | false => rfl
    | true => exact absurd (isS_t.mp q) z)
  unfold wp5_W_isStatement wp5_W_isStatement_12
  exact ⟨fun z => ⟨fun z1 => y (by omega), fun z1 => ⟨fun z2 => y (by omega), fun z2 => ⟨fun z3 => y (by omega), fun z3 => ⟨fun z4 => n (by omega), fun z4 => y (by omega)⟩⟩⟩⟩, fun z => ⟨fun z0 => y (by omega), fun z0 => ⟨fun z1 => y (by omega), fun z1 => ⟨fun z2 => y (by omega), fun z2 => ⟨fun z3 => y (by omega), fun z3 => ⟨fun z4 => n (by omega), fun z4 => y (by omega)⟩⟩⟩⟩⟩⟩
theorem wc_ok {σ : Sg} {n : Int} {l : List Int} {K : Int → Prop} (ha : At (σ.2.2.2 0 n) 0 l) (hm : σ.2.2.1 0 n = l.length) (h1 : σ.2.2.1 0 n ≤ capI n) (hK : K (cs l)) : wp5_W_statements σ n K := by
  have hcap := capI_pos n
  refine wl2_rule (fun (q i : Int) => ∃ a b : List Int, l = a ++ b ∧ i = a.length ∧ q = cs a) (fun (_ i : Int) => (σ.2.2.1 0 n - i).toNat) ?_ ⟨[], l, rfl, rfl, rfl⟩
  rintro P q i ⟨a, b, rfl, rfl, rfl⟩ ih
  rw [List.length_append] at hm
  refine ⟨fun h => ?_, fun h => ⟨⟨by omega, by omega⟩, ?_⟩⟩
  · have : b = [] := List.length_eq_zero_iff.mp (by omega)
    subst this
    rw [List.append_nil] at hK; exact hK
  · cases b with
    | nil => simp at hm; omega
    | cons c b =>
      obtain ⟨_, a2⟩ := At_app.mp ha
      rw [show (0 : Int) + a.length = a.length by omega] at a2
      have hc : σ.2.2.2 0 n a.length = c := a2.1
      have hle := List.countP_le_length (p := isS) (l := a)
      have hx : (cs a : Int) ≤ a.length := by unfold cs; omega
      rw [hc]
      refine wc_is (fun g => ⟨fun z => absurd z (by decide), fun _ => ⟨⟨by omega, by omega⟩, ⟨by omega, by omega⟩, ih _ _ ⟨a ++ [c], b, by simp, by simp, ?_⟩ (by omega)⟩⟩) (fun g => ⟨fun _ => ⟨⟨by omega, by omega⟩, ih _ _ ⟨a ++ [c], b, by simp, by simp, ?_⟩ (by omega)⟩, fun z => absurd rfl z⟩)
      · rw [cs_split (b := b), if_pos g]; omega
      · rw [cs_split (b := b), if_neg (by rw [g]; decide)]; omega
theorem copy_at {σ : Sg} {x m : Int} (hx : 0 ≤ x ∧ x ≤ 5) (hm : σ.2.2.1 0 8 = m) (h0 : 0 ≤ m ∧ m ≤ 480) :
    ∃ σ', (∀ P : Sg → Prop, P σ' → wp5_W_copy σ x 8 P) ∧ σ'.1 = σ.1 ∧ σ'.2.1 = σ.2.1 ∧ σ'.2.2.1 0 x = m ∧ (∀ j, 0 ≤ j → j < m → σ'.2.2.2 0 x j = σ.2.2.2 0 8 j) ∧ (∀ n, n ≠ x → σ'.2.2.1 0 n = σ.2.2.1 0 n ∧ σ'.2.2.2 0 n = σ.2.2.2 0 n) ∧ ∀ c, c ≠ 0 → σ'.2.2.1 c = σ.2.2.1 c ∧ σ'.2.2.2 c = σ.2.2.2 c := by
  have c1 : capI x = 480 := by unfold capI; rw [if_pos (by omega)]
  have c8 : capI 8 = 1000 := by unfold capI; rw [if_neg (by omega), if_pos (by omega)]
  have e8 : uZ (σ.2.2.1 0) x 0 8 = m := by rw [uZ_ne (by omega)]; exact hm
  have bq : ∀ c : Nat, c ≠ 0 → Nat.beq c 0 = false := fun c z => Bool.eq_false_iff.mpr (fun q => z (Nat.eq_of_beq_eq_true q))
  by_cases m0 : m ≤ 0
  · refine ⟨pY σ 0 x 0, fun P hP => ?_, rfl, rfl, ?_, fun j j0 j1 => by omega, fun n z => ⟨?_, rfl⟩, fun c z => ⟨?_, rfl⟩⟩
    · unfold wp5_W_copy wp5_W_addPart
      refine ⟨fun z => absurd z (by omega), fun _ => ⟨fun z => absurd z (by omega), fun _ => ?_⟩⟩
      rw [e8]
      exact ⟨⟨by omega, by omega⟩, fun _ => hP, fun z => absurd z (by omega)⟩
    · show uZ (σ.2.2.1 0) x 0 x = m
      rw [uZ_eq]; omega
    · show uZ (σ.2.2.1 0) x 0 n = _
      exact uZ_ne z
    · show (bif Nat.beq c 0 then _ else σ.2.2.1 c) = _
      rw [bq c z]; rfl
  · refine ⟨pY (pZ (pY σ 0 x 0) 0 x (cpI (σ.2.2.2 0 8) (σ.2.2.2 0 x) 0 (uZ (σ.2.2.1 0) x 0 x) (m - 0))) 0 x (uZ (σ.2.2.1 0) x 0 x + (m - 0)), fun P hP => ?_, rfl, rfl, ?_, fun j j0 j1 => ?_, fun n z => ⟨?_, ?_⟩, fun c z => ⟨?_, ?_⟩⟩
    · unfold wp5_W_copy wp5_W_addPart
      refine ⟨fun z => absurd z (by omega), fun _ => ⟨fun z => absurd z (by omega), fun _ => ?_⟩⟩
      rw [e8]
      refine ⟨⟨by omega, by omega⟩, fun z => absurd z (by omega), fun _ => ⟨fun z => absurd z (by show ¬ uZ (σ.2.2.1 0) x 0 8 < m; rw [e8]; omega), fun _ => ?_⟩⟩
      show rng (capI x - uZ (σ.2.2.1 0) x 0 x) ∧ _
      refine ⟨by rw [uZ_eq, c1]; exact ⟨by omega, by omega⟩, fun z => absurd z (by show ¬ capI x - uZ (σ.2.2.1 0) x 0 x < m - 0; rw [uZ_eq, c1]; omega), fun _ => ⟨?_, ?_, hP⟩⟩
      · show 0 ≤ (0 : Int) ∧ 0 ≤ uZ (σ.2.2.1 0) x 0 x ∧ 0 ≤ m - 0 ∧ 0 + (m - 0) ≤ capI 8 ∧ uZ (σ.2.2.1 0) x 0 x + (m - 0) ≤ capI x
        rw [uZ_eq, c1, c8]; omega
      · show rng (uZ (σ.2.2.1 0) x 0 x + (m - 0))
        rw [uZ_eq]; exact ⟨by omega, by omega⟩
    · show uZ (uZ (σ.2.2.1 0) x 0) x (uZ (σ.2.2.1 0) x 0 x + (m - 0)) x = m
      rw [uZ_eq, uZ_eq]; omega
    · show uF (σ.2.2.2 0) x (cpI (σ.2.2.2 0 8) (σ.2.2.2 0 x) 0 (uZ (σ.2.2.1 0) x 0 x) (m - 0)) x j = _
      rw [uF_eq, uZ_eq]
      unfold cpI
      rw [if_pos (by omega)]
      rw [show (0 : Int) + (j - 0) = j by omega]
    · show uZ (uZ (σ.2.2.1 0) x 0) x _ n = _
      rw [uZ_ne z, uZ_ne z]
    · show uF (σ.2.2.2 0) x _ n = _
      exact uF_ne z
    · show (bif Nat.beq c 0 then _ else bif Nat.beq c 0 then _ else σ.2.2.1 c) = _
      rw [bq c z]; rfl
    · show (bif Nat.beq c 0 then _ else σ.2.2.2 c) = _
      rw [bq c z]; rfl
/-- the SLOTS of both -/
def SL (σ : Sg) (slot slotLong : Int → Int) : Prop := ∀ s : Int, 0 ≤ s → s ≤ 5 → ∃ l : List Int, Sq l ∧ At slot (520 * s) l ∧ slotLong s = l.length ∧ cs l ≤ 40 ∧ cp l ≤ 300 ∧ At (σ.2.2.2 0 s) 0 l ∧ σ.2.2.1 0 s = l.length
theorem SL.cg {σ σ' : Sg} {slot slotLong : Int → Int} (h : SL σ slot slotLong) (e : ∀ s : Int, 0 ≤ s → s ≤ 5 → σ'.2.2.1 0 s = σ.2.2.1 0 s ∧ σ'.2.2.2 0 s = σ.2.2.2 0 s) : SL σ' slot slotLong := by
  intro s s0 s5
  obtain ⟨l, h1, h2, h3, h4, h5, h6, h7⟩ := h s s0 s5
  exact ⟨l, h1, h2, h3, h4, h5, by rw [(e s s0 s5).2]; exact h6, by rw [(e s s0 s5).1]; exact h7⟩
def FrP (x : Int) (σ σ' : Sg) : Prop :=
  (∀ a b, a ≠ 2 → a ≠ 3 → σ'.1 a b = σ.1 a b) ∧ (∀ a, a ≠ 5 → a ≠ 6 → a ≠ 7 → σ'.2.1 a = σ.2.1 a) ∧
  (∀ n, n ≠ 8 → n ≠ x → σ'.2.2.1 0 n = σ.2.2.1 0 n ∧ σ'.2.2.2 0 n = σ.2.2.2 0 n) ∧ ∀ c, c ≠ 0 → σ'.2.2.1 c = σ.2.2.1 c ∧ σ'.2.2.2 c = σ.2.2.2 c
def PostP (x : Int) (σ σ' : Sg) : Prop := σ'.1 3 1 = 0 ∧ FrP x σ σ' ∧ RdOk σ' ∧ RowOk σ'
def bp0 (σ : Sg) : Sg := pU (pU (pU (pU (pU (pY (pU (pU (pU σ 2 1 0) 2 2 (-1)) 2 3 8) 0 8 0) 2 4 (-1)) 2 7 0) 2 8 0) 2 9 300) 2 13 0
def bpS (σ : Sg) : Sg := pU (pU (pU (pU (pU (bp0 σ) 3 5 0) 3 4 0) 3 2 0) 3 3 0) 2 5 0
theorem bp_ne {σ : Sg} {a b : Nat} (z1 : a ≠ 2) (z2 : a ≠ 3) : (bpS σ).1 a b = σ.1 a b := by
  unfold bpS bp0
  rw [pU_ne (Or.inl z1), pU_ne (Or.inl z2), pU_ne (Or.inl z2), pU_ne (Or.inl z2), pU_ne (Or.inl z2), pU_ne (Or.inl z1), pU_ne (Or.inl z1), pU_ne (Or.inl z1), pU_ne (Or.inl z1), pU_ne (Or.inl z1)]
  show (pU (pU (pU σ 2 1 0) 2 2 (-1)) 2 3 8).1 a b = _
  rw [pU_ne (Or.inl z1), pU_ne (Or.inl z1), pU_ne (Or.inl z1)]
theorem bp_8 (σ : Sg) : (bpS σ).2.2.1 0 8 = 0 := by
  show uZ (σ.2.2.1 0) 8 0 8 = 0
  exact uZ_eq
theorem bp_fr (σ : Sg) (x : Int) : FrP x σ (bpS σ) := by
  refine ⟨fun a b z1 z2 => bp_ne z1 z2, fun _ _ _ _ => rfl, fun n z1 _ => ⟨?_, rfl⟩, fun c z => ⟨?_, rfl⟩⟩
  · show uZ (σ.2.2.1 0) 8 0 n = _
    exact uZ_ne z1
  · show (bif Nat.beq c 0 then _ else σ.2.2.1 c) = _
    rw [show Nat.beq c 0 = false from Bool.eq_false_iff.mpr (fun q => z (Nat.eq_of_beq_eq_true q))]; rfl
theorem FrP.trans {x : Int} {a b c : Sg} (h : FrP x a b) (h' : FrP x b c) : FrP x a c :=
  ⟨fun i j z1 z2 => (h'.1 i j z1 z2).trans (h.1 i j z1 z2), fun i z1 z2 z3 => (h'.2.1 i z1 z2 z3).trans (h.2.1 i z1 z2 z3), fun n z1 z2 => ⟨(h'.2.2.1 n z1 z2).1.trans (h.2.2.1 n z1 z2).1, (h'.2.2.1 n z1 z2).2.trans (h.2.2.1 n z1 z2).2⟩, fun c z => ⟨(h'.2.2.2 c z).1.trans (h.2.2.2 c z).1, (h'.2.2.2 c z).2.trans (h.2.2.2 c z).2⟩⟩
theorem Fz.p {x : Int} {σ σ' : Sg} (h : Fz 0 σ σ') (h8 : σ.1 2 3 = 8) : FrP x σ σ' :=
  ⟨fun a b z1 z2 => h.1 a b (Or.inl ⟨z1, z2⟩), h.2.1, fun n z _ => h.2.2.2.1 n (by rw [h8]; exact z), h.2.2.2.2⟩
/-- the start of a program, in step -/
theorem prog_start {σ : Sg} {fresh : Int → Int} {token tokenAt value : Int} (g : Gl (σ.2.1 4) (σ.1 3 1)) (hva : 0 ≤ value ∧ value ≤ 9999) :
    ∃ a tk ta va, Sz 0 (σ.2.1 4) (σ.1 3 1) (bpS σ) 0 fresh 0 a tk ta va 0 0 0 0 ∧ ∀ P : Int → Int → Int → Int → Prop, P a tk ta va → wp_next0 (σ.2.1 4) (σ.1 3 1) 0 token tokenAt value 0 P := by
  obtain ⟨k', v', pl', nx', hT'⟩ := Tk.ex (σ.2.1 4) (σ.1 3 1) 0 0 0
  obtain ⟨tk', va', hR', hv', hb', ev⟩ := next0_at (t2 := σ.2.1 4) (tk := token) (ta := tokenAt) (va := value) (by omega) g.1 g.2.1 g.2.2 hT'
  refine ⟨nx', tk', pl', va', ⟨⟨⟨rfl, by show (0 : Int) ≠ 1; decide, rfl⟩, ⟨rfl, rfl⟩, ⟨by omega, by show (0 : Int) ≤ 0; omega, by show (0 : Int) ≤ σ.1 3 1; exact g.1⟩, ⟨by show (-1 : Int) < 12; decide, Or.inl ⟨rfl, by show (-1 : Int) < 0; decide⟩⟩, ⟨k', v', hT', hR', hv'⟩, (hb' hva).1, (hb' hva).2⟩, ⟨?_, ⟨rfl, by omega, by omega, fun j j0 j1 => by omega⟩, ⟨rfl, rfl, by omega, by omega⟩, ⟨rfl, by omega, by omega⟩, by omega, by omega, ?_⟩, Or.inl ⟨rfl, ?_, fun j j0 j1 => by omega⟩⟩, ev⟩
  · show 0 ≤ (8 : Int) ∧ (8 : Int) < 35 ∧ capI 8 = 1000
    exact ⟨by decide, by decide, by unfold capI; rw [if_neg (by omega), if_pos (by omega)]⟩
  · show 0 ≤ (bpS σ).2.2.1 0 8
    rw [bp_8]; omega
  · show 0 = (bpS σ).2.2.1 0 8
    rw [bp_8]
