def OutE (K : Int → Sg → Prop) (ru rt most off b0 : Int) (t : Int → Int) (len : Int) (σ : Sg) (i : Int) (f : Int → Int) (w wa d c ok : Int) (f' : Int → Int) (m' a' tk' ta' va' w' wa' d' c' l' : Int) (Q : Sg → Int → Prop) : Prop :=
  (ok = 1 ∧ (w' = w ∧ wa' = wa ∧ d' = d ∧ c ≤ c') ∧ (∀ j, j < off + b0 → f' j = f j) ∧ ∃ i' σ', CS K i σ i' σ' ∧ Sy 6 ru rt most off b0 t len σ' i' f' m' a' tk' ta' va' d' c' l' ∧ Fr d b0 σ σ' ∧ Q σ' tk') ∨
  (ok = 0 ∧ (0 ≤ va' ∧ va' ≤ 9999) ∧ ∃ i' σ', CS K i σ i' σ' ∧ Ft t len σ' w' wa' ∧ Fr d b0 σ σ')
section UN
variable {K : Int → Sg → Prop} {ru rt most off b0 len : Int} {t : Int → Int} {σ : Sg} {i m a tk ta va w wa d c l : Int} {f : Int → Int}
/-- a FAULT at the TOKEN -/
theorem lk_bad5 {k v x : Int} {Q : Sg → Int → Prop} {f' : Int → Int} {m' a' tk' ta' va' d' c' l' : Int} (H : Hd ru t len σ i k v ta a) (hs : σ.1 2 5 = 5) (hx : 1 ≤ x ∧ x ≤ 3) (h0 : 0 ≤ ta ∧ ta ≤ len) (hg : RgS σ) (hva' : 0 ≤ va' ∧ va' ≤ 9999) (ev : ∀ P : Sg → Prop, P (rfS (tpS σ k v ta a) x) → wp5_R_takeOperand (tpS σ k v ta a) P) :
    OutE K ru rt most off b0 t len σ i f w wa d c 0 f' m' a' tk' ta' va' x ta d' c' l' Q :=
  Or.inr ⟨rfl, hva', _, _, CS_5 H hs ev, ⟨rfl, rfl, hx.1, hx.2, h0.1, h0.2, H.2.1.1, H.2.1.2.1, hg⟩, ⟨fun a b z => by
      show (rfS (tpS σ k v ta _) x).1 a b = _
      unfold rfS tpS
      rw [pU_ne (by omega), pU_ne (by omega), pU_ne (by omega), pU_ne (by omega), pU_ne (by omega), pU_ne (by omega)], fun _ _ _ _ => rfl, fun _ _ => ⟨rfl, rfl, rfl⟩, fun _ _ => ⟨rfl, rfl⟩, fun _ _ => ⟨rfl, rfl⟩, fun _ _ => rfl, Int.le_refl _⟩⟩
/-- a NUMBER or a letter comes behind the row -/
theorem lk_add {k v x l' : Int} (g : Gl t len) (hS : Sy 5 ru rt most off b0 t len σ i f m a tk ta va d c l) (H : Hd ru t len σ i k v ta a) (hk : k ≠ 1) (ha : ta < a ∧ a ≤ len ∧ σ.1 3 5 ≤ ta) (hc : c < most) (ev : ∀ P : Sg → Prop, P (pU (adS (pU (tpS σ k v ta a) 2 8 (c + 1)) (σ.1 2 3) x) 2 5 6) → wp5_R_takeOperand (tpS σ k v ta a) P) (hL : Le ru rt (pU (adS (pU (tpS σ k v ta a) 2 8 (c + 1)) (σ.1 2 3) x) 2 5 6) l') :
    ∃ a' tk' ta' va', (∀ P : Int → Int → Int → Int → Prop, P a' tk' ta' va' → wp_next0 t len a tk ta va ru P) ∧ OutE K ru rt most off b0 t len σ i f w wa d c 1 (uZ f m (cm ru x)) (m + 1) a' tk' ta' va' w wa d (c + 1) l' (fun σ' _ => σ'.1 2 10 = σ.1 2 10 ∧ σ'.1 2 11 = σ.1 2 11) := by
  obtain ⟨hs, hT, ⟨hq, hb, hm, hf⟩, ⟨hd, hcc, hp⟩, hLe⟩ := hS
  obtain ⟨σ', e'⟩ : ∃ σ', σ' = pU (adS (pU (tpS σ k v ta a) 2 8 (c + 1)) (σ.1 2 3) x) 2 5 6 := ⟨_, rfl⟩
  have eq : σ'.1 2 3 = σ.1 2 3 := by rw [e']; rfl
  have el : σ'.2.2.1 0 (σ.1 2 3) = σ.2.2.1 0 (σ.1 2 3) + 1 := by rw [e']; exact adS_len (pU (tpS σ k v ta a) 2 8 (c + 1)) (σ.1 2 3) x
  have ec : ∀ j, σ'.2.2.2 0 (σ.1 2 3) j = if j = σ.2.2.1 0 (σ.1 2 3) then x else σ.2.2.2 0 (σ.1 2 3) j := fun j => by rw [e']; exact adS_cell (pU (tpS σ k v ta a) 2 8 (c + 1)) (σ.1 2 3) x j
  obtain ⟨a', tk', ta', va', hT', evn⟩ := Tp.next (tk := tk) (va := va) (σ1 := σ') g H hT.2.2.2.2.2 hk ha (by rw [e']; exact H.1.1) (by rw [e']; rfl) (by rw [e']; exact H.2.1.1) (by rw [e']; exact H.2.1.2.1) (by rw [e']; rfl) (by rw [e']; rfl) (by rw [e']; exact hT.1.2.2)
  refine ⟨a', tk', ta', va', evn, Or.inl ⟨rfl, ⟨rfl, rfl, rfl, by omega⟩, fun j z => ?_, i + 1, σ', ?_, ⟨by rw [e']; rfl, hT', ?_, ?_, by rw [e']; exact hL⟩, ?_, by rw [e']; rfl, by rw [e']; rfl⟩⟩
  · unfold uZ; rw [if_neg (by omega)]
  · rw [e']; exact CS_5 H hs ev
  · unfold Rw
    rw [eq, el]
    refine ⟨hq, by rw [show σ'.1 2 10 = σ.1 2 10 by rw [e']; rfl]; exact hb, by omega, fun j z1 z2 => ?_⟩
    rw [ec j]
    unfold uZ
    by_cases q : j = σ.2.2.1 0 (σ.1 2 3)
    · rw [if_pos (by omega), if_pos q]
    · rw [if_neg (by omega), if_neg q]; exact hf j z1 (by omega)
  · unfold Ct
    rw [eq, el, show σ'.1 2 10 = σ.1 2 10 by rw [e']; rfl, show σ'.1 2 11 = σ.1 2 11 by rw [e']; rfl, show σ'.1 2 13 = σ.1 2 13 by rw [e']; rfl, show σ'.1 2 9 = σ.1 2 9 by rw [e']; rfl, show σ'.1 2 8 = c + 1 by rw [e']; rfl]
    exact ⟨hd, ⟨rfl, hcc.2.1, by omega, by omega, by omega, by omega⟩, by omega, by omega, by omega⟩
  · rw [e']
    refine ⟨fun a b z => ?_, fun _ _ _ _ => rfl, fun _ _ => ⟨rfl, rfl, rfl⟩, fun n z => ⟨adS_lenN _ z, adS_cellN _ z⟩, fun c z => ⟨?_, ?_⟩, fun j z => ?_, ?_⟩
    · show (pU (pU (tpS σ k v ta _) 2 8 (c + 1)) 2 5 6).1 a b = _
      unfold tpS
      rw [pU_ne (by omega), pU_ne (by omega), pU_ne (by omega), pU_ne (by omega), pU_ne (by omega), pU_ne (by omega)]
    · show (bif Nat.beq c 0 then _ else σ.2.2.1 c) = _
      rw [show Nat.beq c 0 = false from Bool.eq_false_iff.mpr (fun q => z (Nat.eq_of_beq_eq_true q))]; rfl
    · show (bif Nat.beq c 0 then _ else σ.2.2.2 c) = _
      rw [show Nat.beq c 0 = false from Bool.eq_false_iff.mpr (fun q => z (Nat.eq_of_beq_eq_true q))]; rfl
    · have := ec j
      rw [e'] at this
      rw [this, if_neg (by omega)]
    · have := el
      rw [e'] at this
      rw [this]; omega
end UN
def UnitOk (K : Int → Sg → Prop) (ru rt most off b0 : Int) (t : Int → Int) (len : Int) (D : Nat) : Prop := ∀ (n : Nat), 3 * D + 1 ≤ n → ∀ (σ : Sg) (i : Int) (f : Int → Int) (m a tk ta va w wa d c l : Int), Sy 5 ru rt most off b0 t len σ i f m a tk ta va d c l → 8 - d ≤ D → ∃ ok f' m' a' tk' ta' va' w' wa' d' c' l', (∀ P, P ok f' m' a' tk' ta' va' w' wa' d' c' l' → wp_unit n f m t len a tk ta va w wa d c most l ru rt P) ∧ OutE K ru rt most off b0 t len σ i f w wa d c ok f' m' a' tk' ta' va' w' wa' d' c' l' (fun σ' _ => σ'.1 2 10 = σ.1 2 10 ∧ σ'.1 2 11 = σ.1 2 11) ∧ (ok = 1 → ∃ e, Ex (lfx ru) e ∧ Wr f m e f' m' ∧ LB rt l l' e ∧ c' = c + e.length)
def ProdOk (K : Int → Sg → Prop) (ru rt most off b0 : Int) (t : Int → Int) (len : Int) (D : Nat) : Prop := ∀ (n : Nat), 3 * D + 2 ≤ n → ∀ (σ : Sg) (i : Int) (f : Int → Int) (m a tk ta va w wa d c l : Int), Sy 5 ru rt most off b0 t len σ i f m a tk ta va d c l → σ.1 2 11 = σ.2.2.1 0 (σ.1 2 3) → 8 - d ≤ D → ∃ ok f' m' a' tk' ta' va' w' wa' d' c' l', (∀ P, P ok f' m' a' tk' ta' va' w' wa' d' c' l' → wp_product n f m t len a tk ta va w wa d c most l ru rt P) ∧ OutE K ru rt most off b0 t len σ i f w wa d c ok f' m' a' tk' ta' va' w' wa' d' c' l' (fun σ' tk' => σ'.1 2 10 = σ.1 2 10 ∧ tk' ≠ 42) ∧ (ok = 1 → ∃ e, Ex (lfx ru) e ∧ Wr f m e f' m' ∧ LB rt l l' e ∧ c' = c + e.length)
def SumOk (K : Int → Sg → Prop) (ru rt most off b0 : Int) (t : Int → Int) (len : Int) (D : Nat) : Prop := ∀ (n : Nat), 3 * D + 3 ≤ n → ∀ (σ : Sg) (i : Int) (f : Int → Int) (m a tk ta va w wa d c l : Int), Sy 5 ru rt most off b0 t len σ i f m a tk ta va d c l → σ.1 2 10 = σ.2.2.1 0 (σ.1 2 3) → 8 - d ≤ D → ∃ ok f' m' a' tk' ta' va' w' wa' d' c' l', (∀ P, P ok f' m' a' tk' ta' va' w' wa' d' c' l' → wp_sumUp n f m t len a tk ta va w wa d c most l ru rt P) ∧ OutE K ru rt most off b0 t len σ i f w wa d c ok f' m' a' tk' ta' va' w' wa' d' c' l' (fun _ tk' => tk' ≠ 42 ∧ tk' ≠ 43 ∧ tk' ≠ 45) ∧ (ok = 1 → ∃ e, Ex (lfx ru) e ∧ Wr f m e f' m' ∧ LB rt l l' e ∧ c' = c + e.length)
