-- ===== STATEMENTS: class and reference in step
/-- what a STATEMENT leaves as it was -/
def Fz (d : Int) (σ σ' : Sg) : Prop :=
  (∀ a b, ((a ≠ 2 ∧ a ≠ 3) ∨ (a = 2 ∧ (b = 3 ∨ b = 4 ∨ b = 9)) ∨ (a = 3 ∧ b < 2)) → σ'.1 a b = σ.1 a b) ∧
  (∀ a, a ≠ 5 → a ≠ 6 → a ≠ 7 → σ'.2.1 a = σ.2.1 a) ∧ (∀ j, j < d → σ'.2.1 5 j = σ.2.1 5 j) ∧
  (∀ n, n ≠ σ.1 2 3 → σ'.2.2.1 0 n = σ.2.2.1 0 n ∧ σ'.2.2.2 0 n = σ.2.2.2 0 n) ∧ (∀ c, c ≠ 0 → σ'.2.2.1 c = σ.2.2.1 c ∧ σ'.2.2.2 c = σ.2.2.2 c)
theorem Fz.row {d : Int} {σ σ' : Sg} (h : Fz d σ σ') : σ'.1 2 3 = σ.1 2 3 := h.1 2 3 (by omega)
theorem Fz.refl (d : Int) (σ : Sg) : Fz d σ σ := ⟨fun _ _ _ => rfl, fun _ _ _ _ => rfl, fun _ _ => rfl, fun _ _ => ⟨rfl, rfl⟩, fun _ _ => ⟨rfl, rfl⟩⟩
theorem Fz.trans {d d' : Int} {σ σ' σ'' : Sg} (hd : d ≤ d') (h : Fz d σ σ') (h' : Fz d' σ' σ'') : Fz d σ σ'' := by
  have e := h.row
  refine ⟨fun a b z => (h'.1 a b z).trans (h.1 a b z), fun a z1 z2 z3 => (h'.2.1 a z1 z2 z3).trans (h.2.1 a z1 z2 z3), fun j z => (h'.2.2.1 j (by omega)).trans (h.2.2.1 j z), fun n z => ?_, fun c z => ?_⟩
  · have q := h.2.2.2.1 n z; have q' := h'.2.2.2.1 n (by rw [e]; exact z)
    exact ⟨q'.1.trans q.1, q'.2.trans q.2⟩
  · have q := h.2.2.2.2 c z; have q' := h'.2.2.2.2 c z
    exact ⟨q'.1.trans q.1, q'.2.trans q.2⟩
theorem Fr.z {d b0 : Int} {σ σ' : Sg} (h : Fr d b0 σ σ') : Fz d σ σ' :=
  ⟨fun a b z => h.1 a b (by omega), h.2.1, fun j z => (h.2.2.1 j z).1, h.2.2.2.1, h.2.2.2.2.1⟩
theorem Fz.up {d : Int} {σ σ' : Sg} (h1 : ∀ a b, ((a ≠ 2 ∧ a ≠ 3) ∨ (a = 2 ∧ (b = 3 ∨ b = 4 ∨ b = 9)) ∨ (a = 3 ∧ b < 2)) → σ'.1 a b = σ.1 a b) (h2 : σ'.2 = σ.2) : Fz d σ σ' :=
  ⟨h1, fun a _ _ _ => by rw [h2], fun j _ => by rw [h2], fun n _ => by rw [h2]; exact ⟨rfl, rfl⟩, fun c _ => by rw [h2]; exact ⟨rfl, rfl⟩⟩
theorem adS_fz {d : Int} {τ : Sg} {v : Int} : Fz d τ (adS τ (τ.1 2 3) v) :=
  ⟨fun _ _ _ => rfl, fun _ _ _ _ => rfl, fun _ _ => rfl, fun n z => ⟨adS_lenN τ z, adS_cellN τ z⟩, fun c z => by
    constructor
    · show (bif Nat.beq c 0 then _ else τ.2.2.1 c) = _
      rw [show Nat.beq c 0 = false from Bool.eq_false_iff.mpr (fun q => z (Nat.eq_of_beq_eq_true q))]; rfl
    · show (bif Nat.beq c 0 then _ else τ.2.2.2 c) = _
      rw [show Nat.beq c 0 = false from Bool.eq_false_iff.mpr (fun q => z (Nat.eq_of_beq_eq_true q))]; rfl⟩
def RqE (σ : Sg) (f : Int → Int) (m tk : Int) : Prop :=
  (σ.1 2 5 = 0 ∧ m = σ.2.2.1 0 (σ.1 2 3) ∧ ∀ j, 0 ≤ j → j < m → f j = σ.2.2.2 0 (σ.1 2 3) j) ∨
  (σ.1 2 5 = 1 ∧ tk ≠ 6 ∧ m = σ.2.2.1 0 (σ.1 2 3) + 1 ∧ f (m - 1) = 114 ∧ ∀ j, 0 ≤ j → j < m - 1 → f j = σ.2.2.2 0 (σ.1 2 3) j)
def Cz (B : Int) (σ : Sg) (m d c k l : Int) : Prop :=
  (0 ≤ σ.1 2 3 ∧ σ.1 2 3 < 35 ∧ capI (σ.1 2 3) = 1000) ∧ (d = σ.1 2 13 ∧ 0 ≤ d ∧ d ≤ 8 ∧ ∀ j, 0 ≤ j → j < d → σ.2.1 5 j ≠ 0) ∧ (c = σ.1 2 8 ∧ σ.1 2 9 = 300 ∧ 0 ≤ c ∧ c ≤ 300) ∧ (k = σ.1 2 7 ∧ 0 ≤ k ∧ k ≤ 40) ∧ (0 ≤ l ∧ l ≤ 7) ∧ (0 ≤ B ∧ m + B ≤ c + 4 * k ∧ 0 ≤ m) ∧ 0 ≤ σ.2.2.1 0 (σ.1 2 3)
def Sz (B : Int) (t : Int → Int) (len : Int) (σ : Sg) (i : Int) (f : Int → Int) (m a tk ta va d c k l : Int) : Prop :=
  Tp 0 t len σ i a tk ta va ∧ Cz B σ m d c k l ∧ RqE σ f m tk
/-- the class with the TOKEN read, at a STATEMENT -/
def Tau (t : Int → Int) (len : Int) (σ τ : Sg) (k v ta a : Int) (f : Int → Int) (m : Int) : Prop :=
  (τ.1 2 1 = 0 ∧ τ.1 2 2 = -1 ∧ τ.1 2 5 = 0) ∧ (τ.1 3 2 = k ∧ τ.1 3 3 = v ∧ τ.1 3 4 = ta ∧ τ.1 3 5 = a ∧ τ.1 3 1 = len ∧ τ.2.1 = σ.2.1) ∧ (∀ b, b ≠ 5 → τ.1 2 b = σ.1 2 b) ∧ (τ.2.2.1 0 (σ.1 2 3) = m ∧ ∀ j, 0 ≤ j → j < m → f j = τ.2.2.2 0 (σ.1 2 3) j) ∧ ∀ d, Fz d σ τ
theorem tpS_fz {σ : Sg} {d k v pl nx : Int} : Fz d σ (tpS σ k v pl nx) := Fz.up (fun a b z => (tpS_Ot σ k v pl nx).2 a b (by omega)) rfl
theorem st_tok {B len i m a tk ta va d c kst l : Int} {t f : Int → Int} {σ : Sg} (g : Gl t len) (S : Sz B t len σ i f m a tk ta va d c kst l) :
    ∃ k v τ, Hd 0 t len σ i k v ta a ∧ RT 0 k v tk ∧ (k = 2 → va = v) ∧ (0 ≤ k ∧ k ≤ 125 ∧ σ.1 3 5 ≤ ta ∧ ta ≤ len ∧ ta ≤ a ∧ (k ≠ 1 → ta < a) ∧ a ≤ len ∧ (k = 1 → ta = len) ∧ (k = 2 → 0 ≤ v ∧ v ≤ 9999) ∧ (k = 3 → 0 ≤ v ∧ v ≤ 25)) ∧ Tau t len σ τ k v ta a f m ∧ ∀ (K0 : Int → Sg → Prop) (σ' : Sg), (∀ P : Sg → Prop, P σ' → wp5_R_takeStatement τ P) → CS K0 i σ (i + 1) σ' := by
  obtain ⟨hT, ⟨hq, hd, hc, hk, hl, hB, h0⟩, hE⟩ := S
  obtain ⟨k, v, H, hR, hv, hg⟩ := Tp.hd g hT
  rcases hE with ⟨s0, hm, hf⟩ | ⟨s1, t6, hm, hl4, hf⟩
  · refine ⟨k, v, tpS σ k v ta a, H, hR, hv, hg, ⟨⟨H.1.1, hT.1.2.2, s0⟩, ⟨rfl, rfl, rfl, rfl, H.2.1.2.1, rfl⟩, fun b _ => (tpS_Ot σ k v ta a).2 2 b (by omega), ⟨hm.symm, hf⟩, fun d => tpS_fz⟩, fun K0 σ' ev => CS_0 H s0 ev⟩
  · have k7 : k ≠ 7 := by unfold RT at hR; omega
    have cap := hq.2.2
    refine ⟨k, v, pU (adS (tpS σ k v ta a) (σ.1 2 3) 114) 2 5 0, H, hR, hv, hg, ⟨⟨H.1.1, hT.1.2.2, rfl⟩, ⟨rfl, rfl, rfl, rfl, H.2.1.2.1, rfl⟩, fun b z => ?_, ⟨?_, fun j j0 j1 => ?_⟩, fun d => ?_⟩, fun K0 σ' ev => CS_1 H s1 (fun P hP => ?_)⟩
    · rw [pU_ne (Or.inr z)]
      exact (tpS_Ot σ k v ta a).2 2 b (by omega)
    · show (adS (tpS σ k v ta a) (σ.1 2 3) 114).2.2.1 0 (σ.1 2 3) = m
      rw [adS_len, hm]; rfl
    · show f j = (adS (tpS σ k v ta a) (σ.1 2 3) 114).2.2.2 0 (σ.1 2 3) j
      rw [adS_cell]
      by_cases e : j = m - 1
      · rw [e, hl4, if_pos (by show m - 1 = σ.2.2.1 0 (σ.1 2 3); omega)]
      · rw [if_neg (by show ¬ j = σ.2.2.1 0 (σ.1 2 3); omega)]; exact hf j j0 (by omega)
    · exact (tpS_fz (k := k) (v := v) (pl := ta) (nx := a)).trans (Int.le_refl d) ((adS_fz (d := d) (τ := tpS σ k v ta a) (v := 114)).trans (Int.le_refl d) (Fz.up (fun a b z => pU_ne (by omega)) rfl))
    · unfold wp5_R_takeBehindThen
      refine ⟨fun _ => ⟨⟨hq.1, hq.2.1⟩, ?_⟩, fun z => absurd z k7⟩
      refine add_at (by show 0 ≤ σ.2.2.1 0 (σ.1 2 3); omega) (by show σ.2.2.1 0 (σ.1 2 3) < capI (σ.1 2 3); omega) ?_
      exact ev _ hP
def OutZ (K : Int → Sg → Prop) (B : Int) (t : Int → Int) (len : Int) (σ : Sg) (i : Int) (w wa d ok : Int) (f' : Int → Int) (m' a' tk' ta' va' w' wa' d' c' k' l' : Int) : Prop :=
  (ok = 1 ∧ (w' = w ∧ wa' = wa ∧ d' = d) ∧ ∃ i' σ', CS K i σ i' σ' ∧ Sz B t len σ' i' f' m' a' tk' ta' va' d' c' k' l' ∧ Fz d σ σ') ∨
  (ok = 0 ∧ (0 ≤ va' ∧ va' ≤ 9999) ∧ ∃ i' σ', CS K i σ i' σ' ∧ Ft t len σ' w' wa' ∧ Fz d σ σ' ∧ 0 ≤ σ'.1 2 7 ∧ σ'.1 2 7 ≤ 40)
/-- the start of an EXPRESSION in a PROGRAM -/
theorem mkSy {off b0 len i m a tk ta va d c l : Int} {t f : Int → Int} {σ : Sg} (hT : Tp 0 t len σ i a tk ta va) (h5 : σ.1 2 5 = 5) (hq : 0 ≤ σ.1 2 3 ∧ σ.1 2 3 < 35) (cap : capI (σ.1 2 3) = 1000) (hb : b0 = σ.2.2.1 0 (σ.1 2 3)) (h0 : 0 ≤ b0) (ho : -1 ≤ off ∧ off ≤ 0 ∧ 0 ≤ off + b0) (hm : m = off + b0) (h10 : σ.1 2 10 = b0) (h11 : σ.1 2 11 = b0) (h6 : σ.1 2 6 < 3) (hd : d = σ.1 2 13 ∧ 0 ≤ d ∧ d ≤ 8) (hc : c = σ.1 2 8 ∧ σ.1 2 9 = 300 ∧ 0 ≤ c ∧ c ≤ 300) (hl : 0 ≤ l ∧ l ≤ 7) (hcap : b0 ≤ 700) : Sy 5 0 0 300 off b0 t len σ i f m a tk ta va d c l := by
  refine ⟨h5, hT, ⟨hq, ⟨h0, ho.2.2, by omega, by omega⟩, by omega, fun j z1 z2 => by omega⟩, ⟨hd, ⟨hc.1, hc.2.1, hc.2.2.1, hc.2.2.2, by omega, ?_⟩, by omega, by omega, by omega⟩, Or.inl ⟨rfl, h6, hl⟩⟩
  rw [cap]; omega
