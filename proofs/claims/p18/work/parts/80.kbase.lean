-- ===== exact states of the class: ints by cell and field, arrays by cell, families (rows' lengths, rules' letters; rows' cells, items, starts, ends, forms)
abbrev Sg : Type := (Nat → Nat → Int) × (Nat → Int → Int) × (Nat → Int → Int) × (Nat → Int → Int → Int)
def pU (σ : Sg) (q j : Nat) (v : Int) : Sg := (fun a b => bif (Nat.beq a q && Nat.beq b j) then v else σ.1 a b, σ.2)
def pF (σ : Sg) (q : Nat) (g : Int → Int) : Sg := (σ.1, (fun a => bif Nat.beq a q then g else σ.2.1 a), σ.2.2)
def pY (σ : Sg) (c : Nat) (n v : Int) : Sg := (σ.1, σ.2.1, (fun a => bif Nat.beq a c then uZ (σ.2.2.1 c) n v else σ.2.2.1 a), σ.2.2.2)
def uF (f : Int → Int → Int) (n : Int) (g : Int → Int) : Int → Int → Int := fun m => if m = n then g else f m
def pZ (σ : Sg) (c : Nat) (n : Int) (g : Int → Int) : Sg := (σ.1, σ.2.1, σ.2.2.1, fun a => bif Nat.beq a c then uF (σ.2.2.2 c) n g else σ.2.2.2 a)
def rngK (σ : Sg) : Prop := (∀ q j, rng (σ.1 q j)) ∧ (∀ q (i : Nat), rng (σ.2.1 q i)) ∧ (∀ c (n : Nat), rng (σ.2.2.1 c n)) ∧ ∀ c (n i : Nat), rng (σ.2.2.2 c n i)
theorem rpU {σ : Sg} {q j : Nat} {v : Int} (h : rngK σ) (g : rng v) : rngK (pU σ q j v) := by
  refine ⟨fun a b => ?_, h.2⟩
  show rng (bif (Nat.beq a q && Nat.beq b j) then v else σ.1 a b)
  cases (Nat.beq a q && Nat.beq b j)
  · exact h.1 a b
  · exact g
theorem rpF {σ : Sg} {q : Nat} {f : Int → Int} (h : rngK σ) (g : ∀ i : Nat, rng (f i)) : rngK (pF σ q f) := by
  refine ⟨h.1, fun a i => ?_, h.2.2⟩
  show rng ((bif Nat.beq a q then f else σ.2.1 a) i)
  cases Nat.beq a q
  · exact h.2.1 a i
  · exact g i
theorem rpY {σ : Sg} {c : Nat} {n v : Int} (h : rngK σ) (g : rng v) : rngK (pY σ c n v) := by
  refine ⟨h.1, h.2.1, fun a i => ?_, h.2.2.2⟩
  show rng ((bif Nat.beq a c then uZ (σ.2.2.1 c) n v else σ.2.2.1 a) i)
  cases Nat.beq a c
  · exact h.2.2.1 a i
  · exact ruZ (fun j => h.2.2.1 c j) g i
theorem rpZ {σ : Sg} {c : Nat} {n : Int} {f : Int → Int} (h : rngK σ) (g : ∀ i : Nat, rng (f i)) : rngK (pZ σ c n f) := by
  refine ⟨h.1, h.2.1, h.2.2.1, fun a m i => ?_⟩
  show rng ((bif Nat.beq a c then uF (σ.2.2.2 c) n f else σ.2.2.2 a) m i)
  cases Nat.beq a c
  · exact h.2.2.2 a m i
  · show rng (uF (σ.2.2.2 c) n f m i)
    unfold uF
    split
    · exact g i
    · exact h.2.2.2 c m i
theorem rgY {σ : Sg} (h : rngK σ) {c : Nat} {n N : Int} (hn : 0 ≤ n ∧ n < N) : rng (σ.2.2.1 c n) := by
  have := h.2.2.1 c n.toNat
  rwa [Int.toNat_of_nonneg hn.1] at this
theorem rgZ {σ : Sg} (h : rngK σ) {c : Nat} {n N : Int} (hn : 0 ≤ n ∧ n < N) (i : Nat) : rng (σ.2.2.2 c n i) := by
  have := h.2.2.2 c n.toNat i
  rwa [Int.toNat_of_nonneg hn.1] at this
def rowC (n : Nat) : Nat := if n < 11 then 101 + 2 * n else 123 + 7 * ((n - 11) / 2) + 1 + 2 * ((n - 11) % 2)
def ruleC (r : Nat) : Nat := 123 + 7 * r
def capI (n : Int) : Int := if n < 8 then 480 else if n < 11 then 1000 else 40
def rvR (ad : Nat → Nat) (n : Int) : Value := .ref (ad (if 0 ≤ n ∧ n < 35 then rowC n.toNat else 999))
def rvW (ad : Nat → Nat) (k : Nat) (n : Int) : Value := .ref (ad (if 0 ≤ n ∧ n < 35 then rowC n.toNat else 900 + k))
theorem rvW_ref {ad : Nat → Nat} {k : Nat} {n : Int} (h : 0 ≤ n ∧ n < 35) : rvW ad k n = .ref (ad (rowC n.toNat)) := by unfold rvW; rw [if_pos h]
def rvN (C : Nat → Nat) (ad : Nat → Nat) (n : Int) : Value := if n < 0 then .null else .ref (ad (C n.toNat))
theorem rvR_ref {ad : Nat → Nat} {n : Int} (h : 0 ≤ n ∧ n < 35) : rvR ad n = .ref (ad (rowC n.toNat)) := by unfold rvR; rw [if_pos h]
theorem rvN_ref {C : Nat → Nat} {ad : Nat → Nat} {n N : Int} (h : 0 ≤ n ∧ n < N) : rvN C ad n = .ref (ad (C n.toNat)) := by unfold rvN; rw [if_neg (by omega)]
theorem rvN_null {C : Nat → Nat} {ad : Nat → Nat} {n : Int} (h : n < 0) : rvN C ad n = .null := by unfold rvN; rw [if_pos h]
theorem rng_cap (n : Int) : rng (capI n) := by
  unfold capI
  by_cases h : n < 8
  · rw [if_pos h]; decide
  · rw [if_neg h]
    by_cases h2 : n < 11
    · rw [if_pos h2]; decide
    · rw [if_neg h2]; decide
theorem capI_pos (n : Int) : 0 ≤ capI n ∧ capI n ≤ 1000 := by
  unfold capI
  by_cases h : n < 8
  · rw [if_pos h]; decide
  · rw [if_neg h]
    by_cases h2 : n < 11
    · rw [if_pos h2]; decide
    · rw [if_neg h2]; decide
def famK (ad : Nat → Nat) (ca : Nat → ClassId) (k : Nat) (Y : Nat → Int → Int) (Z : Nat → Int → Int → Int) : va_E :=
  if k < 123 then (if (k - 101) % 2 = 0 then .inr (8, [.ref (ad (k + 1)), .int (zI (Y 0 ((k - 101) / 2 : Nat)))]) else .inl (ca k, (capI ((k - 101) / 2 : Nat)).toNat, .inl (zF (Z 0 ((k - 101) / 2 : Nat)))))
  else if k < 207 then
    (if (k - 123) % 7 = 0 then .inr (9, [.ref (ad (k + 1)), .ref (ad (k + 3)), .int (zI (Y 1 ((k - 123) / 7 : Nat))), .ref (ad (k + 5)), .ref (ad (k + 6))])
     else if (k - 123) % 7 = 1 then .inr (8, [.ref (ad (k + 1)), .int (zI (Y 0 (11 + 2 * ((k - 123) / 7) : Nat)))])
     else if (k - 123) % 7 = 3 then .inr (8, [.ref (ad (k + 1)), .int (zI (Y 0 (12 + 2 * ((k - 123) / 7) : Nat)))])
     else if (k - 123) % 7 = 2 then .inl (ca k, (capI (11 + 2 * ((k - 123) / 7) : Nat)).toNat, .inl (zF (Z 0 (11 + 2 * ((k - 123) / 7) : Nat))))
     else if (k - 123) % 7 = 4 then .inl (ca k, (capI (12 + 2 * ((k - 123) / 7) : Nat)).toNat, .inl (zF (Z 0 (12 + 2 * ((k - 123) / 7) : Nat))))
     else if (k - 123) % 7 = 5 then .inl (ca k, 3, .inl (zF (Z 2 ((k - 123) / 7 : Nat)))) else .inl (ca k, 3, .inl (zF (Z 3 ((k - 123) / 7 : Nat)))))
  else if k < 227 then .inl (ca k, 512, .inl (zF (Z 4 (k - 207 : Nat)))) else .inl (ca k, 8, .inl (zF (Z 1 (k - 227 : Nat))))

def fixK (ad : Nat → Nat) (ca : Nat → ClassId) (rf : Nat → Nat → Option Nat) (k : Nat) (u : Nat → Int) (f : Int → Int) : va_E :=
  (bif Nat.ble 50 k then (bif Nat.ble 75 k then (bif Nat.ble 88 k then (bif Nat.ble 94 k then (bif Nat.ble 97 k then (bif Nat.ble 99 k then (bif Nat.ble 100 k then .inl (ca 100, 480, .inl (zF f)) else .inl (ca 99, 40, .inl (zF f))) else (bif Nat.ble 98 k then .inl (ca 98, 40, .inl (zF f)) else .inl (ca 97, 40, .inl (zF f)))) else (bif Nat.ble 95 k then (bif Nat.ble 96 k then .inl (ca 96, 40, .inl (zF f)) else .inl (ca 95, 40, .inl (zF f))) else .inl (ca 94, 40, .inl (zF f)))) else (bif Nat.ble 91 k then (bif Nat.ble 92 k then (bif Nat.ble 93 k then .inl (ca 93, 40, .inl (zF f)) else .inl (ca 92, 40, .inl (zF f))) else .inl (ca 91, 40, .inl (zF f))) else (bif Nat.ble 89 k then (bif Nat.ble 90 k then .inl (ca 90, 40, .inl (zF f)) else .inl (ca 89, 40, .inl (zF f))) else .inr (1, [rvW ad 88 (u 0), .int (zI (u 1)), .ref (ad 89), .ref (ad 90), .ref (ad 91), .ref (ad 92), .ref (ad 93), .ref (ad 94), .ref (ad 95), .ref (ad 96), .ref (ad 97), .ref (ad 98), .ref (ad 99), .ref (ad 100)])))) else (bif Nat.ble 81 k then (bif Nat.ble 84 k then (bif Nat.ble 86 k then (bif Nat.ble 87 k then .inl (ca 87, 6, .inl (zF f)) else .inl (ca 86, 6, .inl (zF f))) else (bif Nat.ble 85 k then .inl (ca 85, 6, .inl (zF f)) else .inr (7, [.ref (ad 88), .ref (ad 85), .ref (ad 86), .ref (ad 87), .int (zI (u 4))]))) else (bif Nat.ble 82 k then (bif Nat.ble 83 k then .inl (ca 83, 480, .inl (zF f)) else .inl (ca 82, 40, .inl (zF f))) else .inl (ca 81, 40, .inl (zF f)))) else (bif Nat.ble 78 k then (bif Nat.ble 79 k then (bif Nat.ble 80 k then .inl (ca 80, 40, .inl (zF f)) else .inl (ca 79, 40, .inl (zF f))) else .inl (ca 78, 40, .inl (zF f))) else (bif Nat.ble 76 k then (bif Nat.ble 77 k then .inl (ca 77, 40, .inl (zF f)) else .inl (ca 76, 40, .inl (zF f))) else .inl (ca 75, 40, .inl (zF f)))))) else (bif Nat.ble 62 k then (bif Nat.ble 68 k then (bif Nat.ble 71 k then (bif Nat.ble 73 k then (bif Nat.ble 74 k then .inl (ca 74, 40, .inl (zF f)) else .inl (ca 73, 40, .inl (zF f))) else (bif Nat.ble 72 k then .inl (ca 72, 40, .inl (zF f)) else .inr (1, [rvW ad 71 (u 0), .int (zI (u 1)), .ref (ad 72), .ref (ad 73), .ref (ad 74), .ref (ad 75), .ref (ad 76), .ref (ad 77), .ref (ad 78), .ref (ad 79), .ref (ad 80), .ref (ad 81), .ref (ad 82), .ref (ad 83)]))) else (bif Nat.ble 69 k then (bif Nat.ble 70 k then .inr (0, [.ref (ad 121), .ref (ad 71)]) else .inl (ca 69, 6, .inl (zF f))) else .inl (ca 68, 6, .inr (.inr (.inr (.inr (rf 68))))))) else (bif Nat.ble 65 k then (bif Nat.ble 66 k then (bif Nat.ble 67 k then .inl (ca 67, 12, .inr (.inr (.inr (.inr (rf 67))))) else .inl (ca 66, 480, .inl (zF f))) else .inl (ca 65, 40, .inl (zF f))) else (bif Nat.ble 63 k then (bif Nat.ble 64 k then .inl (ca 64, 40, .inl (zF f)) else .inl (ca 63, 40, .inl (zF f))) else .inl (ca 62, 40, .inl (zF f))))) else (bif Nat.ble 56 k then (bif Nat.ble 59 k then (bif Nat.ble 60 k then (bif Nat.ble 61 k then .inl (ca 61, 40, .inl (zF f)) else .inl (ca 60, 40, .inl (zF f))) else .inl (ca 59, 40, .inl (zF f))) else (bif Nat.ble 57 k then (bif Nat.ble 58 k then .inl (ca 58, 40, .inl (zF f)) else .inl (ca 57, 40, .inl (zF f))) else .inl (ca 56, 40, .inl (zF f)))) else (bif Nat.ble 53 k then (bif Nat.ble 54 k then (bif Nat.ble 55 k then .inl (ca 55, 40, .inl (zF f)) else .inr (1, [rvW ad 54 (u 0), .int (zI (u 1)), .ref (ad 55), .ref (ad 56), .ref (ad 57), .ref (ad 58), .ref (ad 59), .ref (ad 60), .ref (ad 61), .ref (ad 62), .ref (ad 63), .ref (ad 64), .ref (ad 65), .ref (ad 66)])) else .inl (ca 53, 300, .inl (zF f))) else (bif Nat.ble 51 k then (bif Nat.ble 52 k then .inl (ca 52, 6, .inl (zF f)) else .inl (ca 51, 100, .inl (zF f))) else .inr (3, [.ref (ad 54), .ref (ad 51), .int (zI (u 2)), .int (zI (u 3)), .int (zI (u 4)), .ref (ad 52), .ref (ad 53)])))))) else (bif Nat.ble 25 k then (bif Nat.ble 37 k then (bif Nat.ble 43 k then (bif Nat.ble 46 k then (bif Nat.ble 48 k then (bif Nat.ble 49 k then .inl (ca 49, 480, .inl (zF f)) else .inl (ca 48, 40, .inl (zF f))) else (bif Nat.ble 47 k then .inl (ca 47, 40, .inl (zF f)) else .inl (ca 46, 40, .inl (zF f)))) else (bif Nat.ble 44 k then (bif Nat.ble 45 k then .inl (ca 45, 40, .inl (zF f)) else .inl (ca 44, 40, .inl (zF f))) else .inl (ca 43, 40, .inl (zF f)))) else (bif Nat.ble 40 k then (bif Nat.ble 41 k then (bif Nat.ble 42 k then .inl (ca 42, 40, .inl (zF f)) else .inl (ca 41, 40, .inl (zF f))) else .inl (ca 40, 40, .inl (zF f))) else (bif Nat.ble 38 k then (bif Nat.ble 39 k then .inl (ca 39, 40, .inl (zF f)) else .inl (ca 38, 40, .inl (zF f))) else .inr (1, [rvW ad 37 (u 0), .int (zI (u 1)), .ref (ad 38), .ref (ad 39), .ref (ad 40), .ref (ad 41), .ref (ad 42), .ref (ad 43), .ref (ad 44), .ref (ad 45), .ref (ad 46), .ref (ad 47), .ref (ad 48), .ref (ad 49)])))) else (bif Nat.ble 31 k then (bif Nat.ble 34 k then (bif Nat.ble 35 k then (bif Nat.ble 36 k then .inl (ca 36, 300, .inl (zF f)) else .inl (ca 35, 6, .inl (zF f))) else .inl (ca 34, 100, .inl (zF f))) else (bif Nat.ble 32 k then (bif Nat.ble 33 k then .inr (3, [.ref (ad 37), .ref (ad 34), .int (zI (u 2)), .int (zI (u 3)), .int (zI (u 4)), .ref (ad 35), .ref (ad 36)]) else .inr (2, [.int (zI (u 0)), .int (zI (u 1)), .int (zI (u 2)), .int (zI (u 3)), .ref (ad 33), .ref (ad 50)])) else .inr (4, [.ref (ad 32), .ref (ad 119), .ref (ad 113), .int (zI (u 3)), .int (zI (u 4)), .ref (ad 67), .ref (ad 68), .ref (ad 69), .ref (ad 70), .ref (ad 115)]))) else (bif Nat.ble 28 k then (bif Nat.ble 29 k then (bif Nat.ble 30 k then .inl (ca 30, 20, .inr (.inr (.inr (.inr (rf 30))))) else .inl (ca 29, 512, .inl (zF f))) else .inl (ca 28, 512, .inl (zF f))) else (bif Nat.ble 26 k then (bif Nat.ble 27 k then .inl (ca 27, 40, .inl (zF f)) else .inl (ca 26, 3, .inl (zF f))) else .inr (5, [.int (zI (u 0)), .int (zI (u 1)), .ref (ad 26), .ref (ad 27), .ref (ad 30), .ref (ad 28), .ref (ad 29)]))))) else (bif Nat.ble 12 k then (bif Nat.ble 18 k then (bif Nat.ble 21 k then (bif Nat.ble 23 k then (bif Nat.ble 24 k then .inl (ca 24, 480, .inl (zF f)) else .inl (ca 23, 40, .inl (zF f))) else (bif Nat.ble 22 k then .inl (ca 22, 40, .inl (zF f)) else .inl (ca 21, 40, .inl (zF f)))) else (bif Nat.ble 19 k then (bif Nat.ble 20 k then .inl (ca 20, 40, .inl (zF f)) else .inl (ca 19, 40, .inl (zF f))) else .inl (ca 18, 40, .inl (zF f)))) else (bif Nat.ble 15 k then (bif Nat.ble 16 k then (bif Nat.ble 17 k then .inl (ca 17, 40, .inl (zF f)) else .inl (ca 16, 40, .inl (zF f))) else .inl (ca 15, 40, .inl (zF f))) else (bif Nat.ble 13 k then (bif Nat.ble 14 k then .inl (ca 14, 40, .inl (zF f)) else .inl (ca 13, 40, .inl (zF f))) else .inr (1, [rvW ad 12 (u 0), .int (zI (u 1)), .ref (ad 13), .ref (ad 14), .ref (ad 15), .ref (ad 16), .ref (ad 17), .ref (ad 18), .ref (ad 19), .ref (ad 20), .ref (ad 21), .ref (ad 22), .ref (ad 23), .ref (ad 24)])))) else (bif Nat.ble 6 k then (bif Nat.ble 9 k then (bif Nat.ble 10 k then (bif Nat.ble 11 k then .inl (ca 11, 300, .inl (zF f)) else .inl (ca 10, 6, .inl (zF f))) else .inl (ca 9, 100, .inl (zF f))) else (bif Nat.ble 7 k then (bif Nat.ble 8 k then .inr (3, [.ref (ad 12), .ref (ad 9), .int (zI (u 2)), .int (zI (u 3)), .int (zI (u 4)), .ref (ad 10), .ref (ad 11)]) else .inl (ca 7, 8, .inl (zF f))) else .inl (ca 6, 8, .inl (zF f)))) else (bif Nat.ble 3 k then (bif Nat.ble 4 k then (bif Nat.ble 5 k then .inl (ca 5, 8, .inl (zF f)) else .inl (ca 4, 800, .inl (zF f))) else .inr (10, [.ref (ad 4), .int (zI (u 1)), .int (zI (u 2)), .int (zI (u 3)), .int (zI (u 4)), .int (zI (u 5))])) else (bif Nat.ble 1 k then (bif Nat.ble 2 k then .inr (6, [.ref (ad 3), .int (zI (u 1)), .int (zI (u 2)), rvR ad (u 3), rvN ruleC ad (u 4), .int (zI (u 5)), .int (zI (u 6)), .int (zI (u 7)), .int (zI (u 8)), .int (zI (u 9)), .int (zI (u 10)), .int (zI (u 11)), .int (zI (u 12)), .int (zI (u 13)), .ref (ad 5), .ref (ad 6), .ref (ad 7)]) else .inl (ca 1, 6, .inr (.inr (.inr (.inr (rf 1)))))) else .inr (11, [.ref (ad 1), .int (zI (u 1)), .ref (ad 117), .ref (ad 2), .ref (ad 8), .ref (ad 25), .ref (ad 31), .ref (ad 84)])))))))
def cK (ad : Nat → Nat) (ca : Nat → ClassId) (rf : Nat → Nat → Option Nat) (σ : Sg) (k : Nat) : Cl := (ad k, bif Nat.ble 101 k then famK ad ca k σ.2.2.1 σ.2.2.2 else fixK ad ca rf k (σ.1 k) (σ.2.1 k))
def RFok (ad : Nat → Nat) (rf : Nat → Nat → Option Nat) : Prop := (∀ i, i < 6 → rf 1 i = some (ad (101 + 2 * i))) ∧ (∀ i, i < 12 → rf 67 i = some (ad (123 + 7 * i))) ∧ (∀ i, i < 20 → rf 30 i = some (ad (207 + i))) ∧ ∀ i, i < 6 → rf 68 i = some (ad (227 + i))
abbrev wK (ad : Nat → Nat) (ca : Nat → ClassId) (rf : Nat → Nat → Option Nat) (σ : Sg) : va_W := wN NC (cK ad ca rf σ)
def wXK (D : va_G) (ad : Nat → Nat) (ca : Nat → ClassId) (rf : Nat → Nat → Option Nat) (s : State) (σ : Sg) (H : Heap) (A : Nat → Prop) (H0 : Heap) (locs : List Loc) : Prop := wX D (tC ca) s (wK ad ca rf σ) H A H0 locs ∧ rngK σ ∧ RFok ad rf
theorem cK_fam {ad : Nat → Nat} {ca : Nat → ClassId} {rf : Nat → Nat → Option Nat} {σ : Sg} {k : Nat} (h : 101 ≤ k) : cK ad ca rf σ k = (ad k, famK ad ca k σ.2.2.1 σ.2.2.2) := by
  unfold cK
  rw [show Nat.ble 101 k = true from Nat.ble_eq_true_of_le h]
  rfl
theorem cK_fix {ad : Nat → Nat} {ca : Nat → ClassId} {rf : Nat → Nat → Option Nat} {σ : Sg} {k : Nat} (h : k < 101) : cK ad ca rf σ k = (ad k, fixK ad ca rf k (σ.1 k) (σ.2.1 k)) := by
  unfold cK
  rw [show Nat.ble 101 k = false from Bool.eq_false_iff.mpr (fun q => absurd (Nat.le_of_ble_eq_true q) (by omega))]
  rfl
section KK0
variable {ad : Nat → Nat} {ca : Nat → ClassId} {rf : Nat → Nat → Option Nat} {σ τ : Sg}
/-- two worlds that differ in one cell -/
theorem wK_set {q : Nat} {e : va_E} (hq : q < NC) (he : cK ad ca rf τ q = (ad q, e)) (hne : ∀ k, k ≠ q → cK ad ca rf τ k = cK ad ca rf σ k) : (wK ad ca rf σ).set q (ad q, e) = wK ad ca rf τ := by
  rw [wN_set hq]
  refine List.map_congr_left (fun k _ => ?_)
  show (if k = q then (ad q, e) else cK ad ca rf σ k) = cK ad ca rf τ k
  by_cases h : k = q
  · rw [if_pos h, h, he]
  · rw [if_neg h, hne k h]
theorem cK_pU {q j k : Nat} {v : Int} (h : k ≠ q) : cK ad ca rf (pU σ q j v) k = cK ad ca rf σ k := by
  have e : (pU σ q j v).1 k = σ.1 k := by
    funext b
    show (bif (Nat.beq k q && Nat.beq b j) then v else σ.1 k b) = _
    rw [show Nat.beq k q = false from Bool.eq_false_iff.mpr (fun z => h (Nat.eq_of_beq_eq_true z))]
    rfl
  unfold cK
  rw [e]
  rfl
theorem cK_pF {q k : Nat} {g : Int → Int} (h : k ≠ q) : cK ad ca rf (pF σ q g) k = cK ad ca rf σ k := by
  have e : (pF σ q g).2.1 k = σ.2.1 k := by
    show (bif Nat.beq k q then g else σ.2.1 k) = _
    rw [show Nat.beq k q = false from Bool.eq_false_iff.mpr (fun z => h (Nat.eq_of_beq_eq_true z))]
    rfl
  unfold cK
  rw [e]
  rfl
theorem rowC_ge {n : Nat} : 101 ≤ rowC n := by unfold rowC; split <;> omega
theorem rowC_lt {n : Nat} (h : n < 35) : rowC n + 1 < NC := by unfold rowC NC; split <;> omega
theorem rowC_lt' {n : Nat} (h : n < 35) : rowC n < NC := Nat.lt_of_succ_lt (rowC_lt h)
theorem famK_row {Y : Nat → Int → Int} {Z : Nat → Int → Int → Int} {n : Nat} (h : n < 35) : famK ad ca (rowC n) Y Z = .inr (8, [.ref (ad (rowC n + 1)), .int (zI (Y 0 n))]) := by
  unfold rowC
  by_cases h1 : n < 11
  · rw [if_pos h1]; unfold famK
    rw [if_pos (by omega), if_pos (by omega), show (101 + 2 * n - 101) / 2 = n by omega]
  · rw [if_neg h1]
    by_cases h2 : (n - 11) % 2 = 0
    · have e : 123 + 7 * ((n - 11) / 2) + 1 + 2 * ((n - 11) % 2) = 123 + 7 * ((n - 11) / 2) + 1 := by omega
      rw [e]; unfold famK
      rw [if_neg (by omega), if_pos (by omega), if_neg (by omega), if_pos (by omega), show 11 + 2 * ((123 + 7 * ((n - 11) / 2) + 1 - 123) / 7) = n by omega]
    · have e : 123 + 7 * ((n - 11) / 2) + 1 + 2 * ((n - 11) % 2) = 123 + 7 * ((n - 11) / 2) + 3 := by omega
      rw [e]; unfold famK
      rw [if_neg (by omega), if_pos (by omega), if_neg (by omega), if_neg (by omega), if_pos (by omega), show 12 + 2 * ((123 + 7 * ((n - 11) / 2) + 3 - 123) / 7) = n by omega]
theorem famK_rowc {Y : Nat → Int → Int} {Z : Nat → Int → Int → Int} {n : Nat} (h : n < 35) : famK ad ca (rowC n + 1) Y Z = .inl (ca (rowC n + 1), (capI n).toNat, .inl (zF (Z 0 n))) := by
  unfold rowC
  by_cases h1 : n < 11
  · rw [if_pos h1]; unfold famK
    rw [if_pos (by omega), if_neg (by omega), show (101 + 2 * n + 1 - 101) / 2 = n by omega]
  · rw [if_neg h1]
    by_cases h2 : (n - 11) % 2 = 0
    · have e : 123 + 7 * ((n - 11) / 2) + 1 + 2 * ((n - 11) % 2) + 1 = 123 + 7 * ((n - 11) / 2) + 2 := by omega
      rw [e]; unfold famK
      rw [if_neg (by omega), if_pos (by omega), if_neg (by omega), if_neg (by omega), if_neg (by omega), if_pos (by omega), show 11 + 2 * ((123 + 7 * ((n - 11) / 2) + 2 - 123) / 7) = n by omega]
    · have e : 123 + 7 * ((n - 11) / 2) + 1 + 2 * ((n - 11) % 2) + 1 = 123 + 7 * ((n - 11) / 2) + 4 := by omega
      rw [e]; unfold famK
      rw [if_neg (by omega), if_pos (by omega), if_neg (by omega), if_neg (by omega), if_neg (by omega), if_neg (by omega), if_pos (by omega), show 12 + 2 * ((123 + 7 * ((n - 11) / 2) + 4 - 123) / 7) = n by omega]
theorem famK_rule {Y : Nat → Int → Int} {Z : Nat → Int → Int → Int} {r : Nat} (h : r < 12) : famK ad ca (ruleC r) Y Z = .inr (9, [.ref (ad (ruleC r + 1)), .ref (ad (ruleC r + 3)), .int (zI (Y 1 r)), .ref (ad (ruleC r + 5)), .ref (ad (ruleC r + 6))]) := by
  unfold ruleC famK
  rw [if_neg (by omega), if_pos (by omega), if_pos (by omega), show (123 + 7 * r - 123) / 7 = r by omega]
theorem famK_item {Y : Nat → Int → Int} {Z : Nat → Int → Int → Int} {i : Nat} (h : i < 6) : famK ad ca (227 + i) Y Z = .inl (ca (227 + i), 8, .inl (zF (Z 1 i))) := by
  unfold famK
  rw [if_neg (by omega), if_neg (by omega), if_neg (by omega), show 227 + i - 227 = i by omega]
theorem famK_u5 {Y : Nat → Int → Int} {Z : Nat → Int → Int → Int} {r : Nat} (h : r < 12) : famK ad ca (ruleC r + 5) Y Z = .inl (ca (ruleC r + 5), 3, .inl (zF (Z 2 r))) := by
  unfold ruleC famK
  rw [if_neg (by omega), if_pos (by omega), if_neg (by omega), if_neg (by omega), if_neg (by omega), if_neg (by omega), if_neg (by omega), if_pos (by omega), show (123 + 7 * r + 5 - 123) / 7 = r by omega]
theorem famK_u6 {Y : Nat → Int → Int} {Z : Nat → Int → Int → Int} {r : Nat} (h : r < 12) : famK ad ca (ruleC r + 6) Y Z = .inl (ca (ruleC r + 6), 3, .inl (zF (Z 3 r))) := by
  unfold ruleC famK
  rw [if_neg (by omega), if_pos (by omega), if_neg (by omega), if_neg (by omega), if_neg (by omega), if_neg (by omega), if_neg (by omega), if_neg (by omega), show (123 + 7 * r + 6 - 123) / 7 = r by omega]
theorem famK_fm {Y : Nat → Int → Int} {Z : Nat → Int → Int → Int} {i : Nat} (h : i < 20) : famK ad ca (207 + i) Y Z = .inl (ca (207 + i), 512, .inl (zF (Z 4 i))) := by
  unfold famK
  rw [if_neg (by omega), if_neg (by omega), if_pos (by omega), show 207 + i - 207 = i by omega]
theorem uZ_ne {f : Int → Int} {n v m : Int} (h : m ≠ n) : uZ f n v m = f m := if_neg h
theorem uF_ne {f : Int → Int → Int} {n m : Int} {g : Int → Int} (h : m ≠ n) : uF f n g m = f m := if_neg h
theorem uZ_eq {f : Int → Int} {n v : Int} : uZ f n v n = v := if_pos rfl
theorem uF_eq {f : Int → Int → Int} {n : Int} {g : Int → Int} : uF f n g n = g := if_pos rfl
/-- the row's number at a cell of the families -/
def rowN (k : Nat) : Nat := if k < 123 then (k - 101) / 2 else if (k - 123) % 7 = 1 ∨ (k - 123) % 7 = 2 then 11 + 2 * ((k - 123) / 7) else 12 + 2 * ((k - 123) / 7)
theorem rowN_inj {k n : Nat} (hk : 101 ≤ k) (hk2 : k < 207) (hn : n < 35) (ho : (k < 123 ∧ (k - 101) % 2 = 0) ∨ (123 ≤ k ∧ ((k - 123) % 7 = 1 ∨ (k - 123) % 7 = 3))) (h : k ≠ rowC n) : rowN k ≠ n := by
  unfold rowC at h; unfold rowN; split at h <;> split <;> (try split) <;> omega
theorem rowN_injc {k n : Nat} (hk : 101 ≤ k) (hk2 : k < 207) (hn : n < 35) (ho : (k < 123 ∧ (k - 101) % 2 ≠ 0) ∨ (123 ≤ k ∧ ((k - 123) % 7 = 2 ∨ (k - 123) % 7 = 4))) (h : k ≠ rowC n + 1) : rowN k ≠ n := by
  unfold rowC at h; unfold rowN; split at h <;> split <;> (try split) <;> omega
theorem cK_Y0 {n : Nat} (hn : n < 35) {v : Int} {k : Nat} (h : k ≠ rowC n) : cK ad ca rf (pY σ 0 n v) k = cK ad ca rf σ k := by
  by_cases hk : k < 101
  · rw [cK_fix hk, cK_fix hk]; rfl
  · rw [cK_fam (by omega), cK_fam (by omega)]
    refine congrArg (Prod.mk (ad k)) ?_
    show famK ad ca k (fun a => bif Nat.beq a 0 then uZ (σ.2.2.1 0) n v else σ.2.2.1 a) σ.2.2.2 = _
    unfold famK
    by_cases h1 : k < 123
    · rw [if_pos h1, if_pos h1]
      by_cases h2 : (k - 101) % 2 = 0
      · have hr := rowN_inj (k := k) (n := n) (by omega) (by omega) hn (Or.inl ⟨h1, h2⟩) h
        unfold rowN at hr; rw [if_pos h1] at hr
        rw [if_pos h2, if_pos h2]
        show Sum.inr (8, [Value.ref (ad (k + 1)), Value.int (zI (uZ (σ.2.2.1 0) n v ((k - 101) / 2 : Nat)))]) = _
        rw [uZ_ne (by omega)]
      · rw [if_neg h2, if_neg h2]
    · rw [if_neg h1, if_neg h1]
      by_cases hF : k < 207
      · rw [if_pos hF, if_pos hF]
        by_cases c0 : (k - 123) % 7 = 0
        · rw [if_pos c0, if_pos c0]; rfl
        · rw [if_neg c0, if_neg c0]
          by_cases c1 : (k - 123) % 7 = 1
          · have hr := rowN_inj (k := k) (n := n) (by omega) (by omega) hn (Or.inr ⟨by omega, Or.inl c1⟩) h
            unfold rowN at hr; rw [if_neg h1, if_pos (Or.inl c1)] at hr
            rw [if_pos c1, if_pos c1]
            show Sum.inr (8, [Value.ref (ad (k + 1)), Value.int (zI (uZ (σ.2.2.1 0) n v (11 + 2 * ((k - 123) / 7) : Nat)))]) = _
            rw [uZ_ne (by omega)]
          · rw [if_neg c1, if_neg c1]
            by_cases c3 : (k - 123) % 7 = 3
            · have hr := rowN_inj (k := k) (n := n) (by omega) (by omega) hn (Or.inr ⟨by omega, Or.inr c3⟩) h
              unfold rowN at hr; rw [if_neg h1, if_neg (by omega)] at hr
              rw [if_pos c3, if_pos c3]
              show Sum.inr (8, [Value.ref (ad (k + 1)), Value.int (zI (uZ (σ.2.2.1 0) n v (12 + 2 * ((k - 123) / 7) : Nat)))]) = _
              rw [uZ_ne (by omega)]
            · rw [if_neg c3, if_neg c3]
      · rw [if_neg hF, if_neg hF]
theorem cK_Y1 {r : Nat} (hr : r < 12) {v : Int} {k : Nat} (h : k ≠ ruleC r) : cK ad ca rf (pY σ 1 r v) k = cK ad ca rf σ k := by
  by_cases hk : k < 101
  · rw [cK_fix hk, cK_fix hk]; rfl
  · rw [cK_fam (by omega), cK_fam (by omega)]
    refine congrArg (Prod.mk (ad k)) ?_
    show famK ad ca k (fun a => bif Nat.beq a 1 then uZ (σ.2.2.1 1) r v else σ.2.2.1 a) σ.2.2.2 = _
    unfold ruleC at h
    unfold famK
    by_cases h1 : k < 123
    · rw [if_pos h1, if_pos h1]; rfl
    · rw [if_neg h1, if_neg h1]
      by_cases hF : k < 207
      · rw [if_pos hF, if_pos hF]
        by_cases c0 : (k - 123) % 7 = 0
        · rw [if_pos c0, if_pos c0]
          show Sum.inr (9, [Value.ref (ad (k + 1)), Value.ref (ad (k + 3)), Value.int (zI (uZ (σ.2.2.1 1) r v ((k - 123) / 7 : Nat))), Value.ref (ad (k + 5)), Value.ref (ad (k + 6))]) = _
          rw [uZ_ne (by omega)]
        · rw [if_neg c0, if_neg c0]; rfl
      · rw [if_neg hF, if_neg hF]
theorem cK_Z0 {n : Nat} (hn : n < 35) {g : Int → Int} {k : Nat} (h : k ≠ rowC n + 1) : cK ad ca rf (pZ σ 0 n g) k = cK ad ca rf σ k := by
  by_cases hk : k < 101
  · rw [cK_fix hk, cK_fix hk]; rfl
  · rw [cK_fam (by omega), cK_fam (by omega)]
    refine congrArg (Prod.mk (ad k)) ?_
    show famK ad ca k σ.2.2.1 (fun a => bif Nat.beq a 0 then uF (σ.2.2.2 0) n g else σ.2.2.2 a) = _
    unfold famK
    by_cases h1 : k < 123
    · rw [if_pos h1, if_pos h1]
      by_cases h2 : (k - 101) % 2 = 0
      · rw [if_pos h2, if_pos h2]
      · have hr := rowN_injc (k := k) (n := n) (by omega) (by omega) hn (Or.inl ⟨h1, h2⟩) h
        unfold rowN at hr; rw [if_pos h1] at hr
        rw [if_neg h2, if_neg h2]
        show Sum.inl (ca k, (capI ((k - 101) / 2 : Nat)).toNat, Sum.inl (zF (uF (σ.2.2.2 0) n g ((k - 101) / 2 : Nat)))) = _
        rw [uF_ne (by omega)]
    · rw [if_neg h1, if_neg h1]
      by_cases hF : k < 207
      · rw [if_pos hF, if_pos hF]
        by_cases c0 : (k - 123) % 7 = 0
        · rw [if_pos c0, if_pos c0]
        · rw [if_neg c0, if_neg c0]
          by_cases c1 : (k - 123) % 7 = 1
          · rw [if_pos c1, if_pos c1]
          · rw [if_neg c1, if_neg c1]
            by_cases c3 : (k - 123) % 7 = 3
            · rw [if_pos c3, if_pos c3]
            · rw [if_neg c3, if_neg c3]
              by_cases c2 : (k - 123) % 7 = 2
              · have hr := rowN_injc (k := k) (n := n) (by omega) (by omega) hn (Or.inr ⟨by omega, Or.inl c2⟩) h
                unfold rowN at hr; rw [if_neg h1, if_pos (Or.inr c2)] at hr
                rw [if_pos c2, if_pos c2]
                show Sum.inl (ca k, (capI (11 + 2 * ((k - 123) / 7) : Nat)).toNat, Sum.inl (zF (uF (σ.2.2.2 0) n g (11 + 2 * ((k - 123) / 7) : Nat)))) = _
                rw [uF_ne (by omega)]
              · rw [if_neg c2, if_neg c2]
                by_cases c4 : (k - 123) % 7 = 4
                · have hr := rowN_injc (k := k) (n := n) (by omega) (by omega) hn (Or.inr ⟨by omega, Or.inr c4⟩) h
                  unfold rowN at hr; rw [if_neg h1, if_neg (by omega)] at hr
                  rw [if_pos c4, if_pos c4]
                  show Sum.inl (ca k, (capI (12 + 2 * ((k - 123) / 7) : Nat)).toNat, Sum.inl (zF (uF (σ.2.2.2 0) n g (12 + 2 * ((k - 123) / 7) : Nat)))) = _
                  rw [uF_ne (by omega)]
                · rw [if_neg c4, if_neg c4]; rfl
      · rw [if_neg hF, if_neg hF]; rfl
theorem cK_Z2 {r : Nat} (hr : r < 12) {g : Int → Int} {k : Nat} (h : k ≠ ruleC r + 5) : cK ad ca rf (pZ σ 2 r g) k = cK ad ca rf σ k := by
  by_cases hk : k < 101
  · rw [cK_fix hk, cK_fix hk]; rfl
  · rw [cK_fam (by omega), cK_fam (by omega)]
    refine congrArg (Prod.mk (ad k)) ?_
    show famK ad ca k σ.2.2.1 (fun a => bif Nat.beq a 2 then uF (σ.2.2.2 2) r g else σ.2.2.2 a) = _
    unfold ruleC at h
    unfold famK
    by_cases h1 : k < 123
    · rw [if_pos h1, if_pos h1]; rfl
    · rw [if_neg h1, if_neg h1]
      by_cases hF : k < 207
      · rw [if_pos hF, if_pos hF]
        by_cases c0 : (k - 123) % 7 = 0
        · rw [if_pos c0, if_pos c0]
        rw [if_neg c0, if_neg c0]
        by_cases c1 : (k - 123) % 7 = 1
        · rw [if_pos c1, if_pos c1]
        rw [if_neg c1, if_neg c1]
        by_cases c3 : (k - 123) % 7 = 3
        · rw [if_pos c3, if_pos c3]
        rw [if_neg c3, if_neg c3]
        by_cases c2 : (k - 123) % 7 = 2
        · rw [if_pos c2, if_pos c2]; rfl
        rw [if_neg c2, if_neg c2]
        by_cases c4 : (k - 123) % 7 = 4
        · rw [if_pos c4, if_pos c4]; rfl
        rw [if_neg c4, if_neg c4]
        by_cases c5 : (k - 123) % 7 = 5
        · rw [if_pos c5, if_pos c5]
          obtain ⟨q, eq⟩ : ∃ q, (k - 123) / 7 = q := ⟨_, rfl⟩
          rw [eq]
          show Sum.inl (ca k, 3, Sum.inl (zF (uF (σ.2.2.2 2) (r : Int) g (q : Int)))) = _
          rw [uF_ne (by omega)]
        · rw [if_neg c5, if_neg c5]; rfl
      · rw [if_neg hF, if_neg hF]; rfl
theorem cK_Z3 {r : Nat} (hr : r < 12) {g : Int → Int} {k : Nat} (h : k ≠ ruleC r + 6) : cK ad ca rf (pZ σ 3 r g) k = cK ad ca rf σ k := by
  by_cases hk : k < 101
  · rw [cK_fix hk, cK_fix hk]; rfl
  · rw [cK_fam (by omega), cK_fam (by omega)]
    refine congrArg (Prod.mk (ad k)) ?_
    show famK ad ca k σ.2.2.1 (fun a => bif Nat.beq a 3 then uF (σ.2.2.2 3) r g else σ.2.2.2 a) = _
    unfold ruleC at h
    unfold famK
    by_cases h1 : k < 123
    · rw [if_pos h1, if_pos h1]; rfl
    · rw [if_neg h1, if_neg h1]
      by_cases hF : k < 207
      · rw [if_pos hF, if_pos hF]
        by_cases c0 : (k - 123) % 7 = 0
        · rw [if_pos c0, if_pos c0]
        rw [if_neg c0, if_neg c0]
        by_cases c1 : (k - 123) % 7 = 1
        · rw [if_pos c1, if_pos c1]
        rw [if_neg c1, if_neg c1]
        by_cases c3 : (k - 123) % 7 = 3
        · rw [if_pos c3, if_pos c3]
        rw [if_neg c3, if_neg c3]
        by_cases c2 : (k - 123) % 7 = 2
        · rw [if_pos c2, if_pos c2]; rfl
        rw [if_neg c2, if_neg c2]
        by_cases c4 : (k - 123) % 7 = 4
        · rw [if_pos c4, if_pos c4]; rfl
        rw [if_neg c4, if_neg c4]
        by_cases c5 : (k - 123) % 7 = 5
        · rw [if_pos c5, if_pos c5]; rfl
        · rw [if_neg c5, if_neg c5]
          obtain ⟨q, eq⟩ : ∃ q, (k - 123) / 7 = q := ⟨_, rfl⟩
          rw [eq]
          show Sum.inl (ca k, 3, Sum.inl (zF (uF (σ.2.2.2 3) (r : Int) g (q : Int)))) = _
          rw [uF_ne (by omega)]
      · rw [if_neg hF, if_neg hF]; rfl
theorem cK_Z4 {i : Nat} (hi : i < 20) {g : Int → Int} {k : Nat} (h : k ≠ 207 + i) : cK ad ca rf (pZ σ 4 i g) k = cK ad ca rf σ k := by
  by_cases hk : k < 101
  · rw [cK_fix hk, cK_fix hk]; rfl
  · rw [cK_fam (by omega), cK_fam (by omega)]
    refine congrArg (Prod.mk (ad k)) ?_
    show famK ad ca k σ.2.2.1 (fun a => bif Nat.beq a 4 then uF (σ.2.2.2 4) i g else σ.2.2.2 a) = _
    unfold famK
    by_cases h1 : k < 123
    · rw [if_pos h1, if_pos h1]; rfl
    · rw [if_neg h1, if_neg h1]
      by_cases hF : k < 207
      · rw [if_pos hF, if_pos hF]; rfl
      · rw [if_neg hF, if_neg hF]
        by_cases hI : k < 227
        · rw [if_pos hI, if_pos hI]
          obtain ⟨r, er⟩ : ∃ r, k - 207 = r := ⟨_, rfl⟩
          rw [er]
          show Sum.inl (ca k, 512, Sum.inl (zF (uF (σ.2.2.2 4) (i : Int) g (r : Int)))) = _
          rw [uF_ne (by omega)]
        · rw [if_neg hI, if_neg hI]; rfl
theorem cK_Z1 {i : Nat} (hi : i < 6) {g : Int → Int} {k : Nat} (h : k ≠ 227 + i) : cK ad ca rf (pZ σ 1 i g) k = cK ad ca rf σ k := by
  by_cases hk : k < 101
  · rw [cK_fix hk, cK_fix hk]; rfl
  · rw [cK_fam (by omega), cK_fam (by omega)]
    refine congrArg (Prod.mk (ad k)) ?_
    show famK ad ca k σ.2.2.1 (fun a => bif Nat.beq a 1 then uF (σ.2.2.2 1) i g else σ.2.2.2 a) = _
    unfold famK
    by_cases h1 : k < 123
    · rw [if_pos h1, if_pos h1]; rfl
    · rw [if_neg h1, if_neg h1]
      by_cases hF : k < 207
      · rw [if_pos hF, if_pos hF]; rfl
      · rw [if_neg hF, if_neg hF]
        by_cases hI : k < 227
        · rw [if_pos hI, if_pos hI]; rfl
        · rw [if_neg hI, if_neg hI]
          obtain ⟨r, er⟩ : ∃ r, k - 227 = r := ⟨_, rfl⟩
          rw [er]
          show Sum.inl (ca k, 8, Sum.inl (zF (uF (σ.2.2.2 1) (i : Int) g (r : Int)))) = _
          rw [uF_ne (by omega)]

theorem cx0 (σ : Sg) : (wK ad ca rf σ)[0]? = some (ad 0, .inr (11, [.ref (ad 1), .int (zI (σ.1 0 1)), .ref (ad 117), .ref (ad 2), .ref (ad 8), .ref (ad 25), .ref (ad 31), .ref (ad 84)])) := wN_at (by decide)
theorem cx0f (σ : Sg) {f : Int → Int} : fixK ad ca rf 0 (σ.1 0) f = .inr (11, [.ref (ad 1), .int (zI (σ.1 0 1)), .ref (ad 117), .ref (ad 2), .ref (ad 8), .ref (ad 25), .ref (ad 31), .ref (ad 84)]) := rfl
theorem cx1 (σ : Sg) : (wK ad ca rf σ)[1]? = some (ad 1, .inl (ca 1, 6, .inr (.inr (.inr (.inr (rf 1)))))) := wN_at (by decide)
theorem cx2 (σ : Sg) : (wK ad ca rf σ)[2]? = some (ad 2, .inr (6, [.ref (ad 3), .int (zI (σ.1 2 1)), .int (zI (σ.1 2 2)), rvR ad (σ.1 2 3), rvN ruleC ad (σ.1 2 4), .int (zI (σ.1 2 5)), .int (zI (σ.1 2 6)), .int (zI (σ.1 2 7)), .int (zI (σ.1 2 8)), .int (zI (σ.1 2 9)), .int (zI (σ.1 2 10)), .int (zI (σ.1 2 11)), .int (zI (σ.1 2 12)), .int (zI (σ.1 2 13)), .ref (ad 5), .ref (ad 6), .ref (ad 7)])) := wN_at (by decide)
theorem cx2f (σ : Sg) {f : Int → Int} : fixK ad ca rf 2 (σ.1 2) f = .inr (6, [.ref (ad 3), .int (zI (σ.1 2 1)), .int (zI (σ.1 2 2)), rvR ad (σ.1 2 3), rvN ruleC ad (σ.1 2 4), .int (zI (σ.1 2 5)), .int (zI (σ.1 2 6)), .int (zI (σ.1 2 7)), .int (zI (σ.1 2 8)), .int (zI (σ.1 2 9)), .int (zI (σ.1 2 10)), .int (zI (σ.1 2 11)), .int (zI (σ.1 2 12)), .int (zI (σ.1 2 13)), .ref (ad 5), .ref (ad 6), .ref (ad 7)]) := rfl
theorem cx3 (σ : Sg) : (wK ad ca rf σ)[3]? = some (ad 3, .inr (10, [.ref (ad 4), .int (zI (σ.1 3 1)), .int (zI (σ.1 3 2)), .int (zI (σ.1 3 3)), .int (zI (σ.1 3 4)), .int (zI (σ.1 3 5))])) := wN_at (by decide)
theorem cx3f (σ : Sg) {f : Int → Int} : fixK ad ca rf 3 (σ.1 3) f = .inr (10, [.ref (ad 4), .int (zI (σ.1 3 1)), .int (zI (σ.1 3 2)), .int (zI (σ.1 3 3)), .int (zI (σ.1 3 4)), .int (zI (σ.1 3 5))]) := rfl
theorem cx4 (σ : Sg) : (wK ad ca rf σ)[4]? = some (ad 4, .inl (ca 4, 800, .inl (zF (σ.2.1 4)))) := wN_at (by decide)
theorem cx4a (u : Nat → Int) (f : Int → Int) : fixK ad ca rf 4 u f = .inl (ca 4, 800, .inl (zF f)) := rfl
theorem cx5 (σ : Sg) : (wK ad ca rf σ)[5]? = some (ad 5, .inl (ca 5, 8, .inl (zF (σ.2.1 5)))) := wN_at (by decide)
theorem cx5a (u : Nat → Int) (f : Int → Int) : fixK ad ca rf 5 u f = .inl (ca 5, 8, .inl (zF f)) := rfl
theorem cx6 (σ : Sg) : (wK ad ca rf σ)[6]? = some (ad 6, .inl (ca 6, 8, .inl (zF (σ.2.1 6)))) := wN_at (by decide)
theorem cx6a (u : Nat → Int) (f : Int → Int) : fixK ad ca rf 6 u f = .inl (ca 6, 8, .inl (zF f)) := rfl
theorem cx7 (σ : Sg) : (wK ad ca rf σ)[7]? = some (ad 7, .inl (ca 7, 8, .inl (zF (σ.2.1 7)))) := wN_at (by decide)
theorem cx7a (u : Nat → Int) (f : Int → Int) : fixK ad ca rf 7 u f = .inl (ca 7, 8, .inl (zF f)) := rfl
theorem cx8 (σ : Sg) : (wK ad ca rf σ)[8]? = some (ad 8, .inr (3, [.ref (ad 12), .ref (ad 9), .int (zI (σ.1 8 2)), .int (zI (σ.1 8 3)), .int (zI (σ.1 8 4)), .ref (ad 10), .ref (ad 11)])) := wN_at (by decide)
theorem cx8f (σ : Sg) {f : Int → Int} : fixK ad ca rf 8 (σ.1 8) f = .inr (3, [.ref (ad 12), .ref (ad 9), .int (zI (σ.1 8 2)), .int (zI (σ.1 8 3)), .int (zI (σ.1 8 4)), .ref (ad 10), .ref (ad 11)]) := rfl
theorem cx9 (σ : Sg) : (wK ad ca rf σ)[9]? = some (ad 9, .inl (ca 9, 100, .inl (zF (σ.2.1 9)))) := wN_at (by decide)
theorem cx9a (u : Nat → Int) (f : Int → Int) : fixK ad ca rf 9 u f = .inl (ca 9, 100, .inl (zF f)) := rfl
theorem cx10 (σ : Sg) : (wK ad ca rf σ)[10]? = some (ad 10, .inl (ca 10, 6, .inl (zF (σ.2.1 10)))) := wN_at (by decide)
theorem cx10a (u : Nat → Int) (f : Int → Int) : fixK ad ca rf 10 u f = .inl (ca 10, 6, .inl (zF f)) := rfl
theorem cx11 (σ : Sg) : (wK ad ca rf σ)[11]? = some (ad 11, .inl (ca 11, 300, .inl (zF (σ.2.1 11)))) := wN_at (by decide)
theorem cx11a (u : Nat → Int) (f : Int → Int) : fixK ad ca rf 11 u f = .inl (ca 11, 300, .inl (zF f)) := rfl
theorem cx12 (σ : Sg) : (wK ad ca rf σ)[12]? = some (ad 12, .inr (1, [rvW ad 12 (σ.1 12 0), .int (zI (σ.1 12 1)), .ref (ad 13), .ref (ad 14), .ref (ad 15), .ref (ad 16), .ref (ad 17), .ref (ad 18), .ref (ad 19), .ref (ad 20), .ref (ad 21), .ref (ad 22), .ref (ad 23), .ref (ad 24)])) := wN_at (by decide)
theorem cx12f (σ : Sg) {f : Int → Int} : fixK ad ca rf 12 (σ.1 12) f = .inr (1, [rvW ad 12 (σ.1 12 0), .int (zI (σ.1 12 1)), .ref (ad 13), .ref (ad 14), .ref (ad 15), .ref (ad 16), .ref (ad 17), .ref (ad 18), .ref (ad 19), .ref (ad 20), .ref (ad 21), .ref (ad 22), .ref (ad 23), .ref (ad 24)]) := rfl
theorem cx13 (σ : Sg) : (wK ad ca rf σ)[13]? = some (ad 13, .inl (ca 13, 40, .inl (zF (σ.2.1 13)))) := wN_at (by decide)
theorem cx13a (u : Nat → Int) (f : Int → Int) : fixK ad ca rf 13 u f = .inl (ca 13, 40, .inl (zF f)) := rfl
theorem cx14 (σ : Sg) : (wK ad ca rf σ)[14]? = some (ad 14, .inl (ca 14, 40, .inl (zF (σ.2.1 14)))) := wN_at (by decide)
theorem cx14a (u : Nat → Int) (f : Int → Int) : fixK ad ca rf 14 u f = .inl (ca 14, 40, .inl (zF f)) := rfl
theorem cx15 (σ : Sg) : (wK ad ca rf σ)[15]? = some (ad 15, .inl (ca 15, 40, .inl (zF (σ.2.1 15)))) := wN_at (by decide)
theorem cx15a (u : Nat → Int) (f : Int → Int) : fixK ad ca rf 15 u f = .inl (ca 15, 40, .inl (zF f)) := rfl
theorem cx16 (σ : Sg) : (wK ad ca rf σ)[16]? = some (ad 16, .inl (ca 16, 40, .inl (zF (σ.2.1 16)))) := wN_at (by decide)
theorem cx16a (u : Nat → Int) (f : Int → Int) : fixK ad ca rf 16 u f = .inl (ca 16, 40, .inl (zF f)) := rfl
theorem cx17 (σ : Sg) : (wK ad ca rf σ)[17]? = some (ad 17, .inl (ca 17, 40, .inl (zF (σ.2.1 17)))) := wN_at (by decide)
theorem cx17a (u : Nat → Int) (f : Int → Int) : fixK ad ca rf 17 u f = .inl (ca 17, 40, .inl (zF f)) := rfl
theorem cx18 (σ : Sg) : (wK ad ca rf σ)[18]? = some (ad 18, .inl (ca 18, 40, .inl (zF (σ.2.1 18)))) := wN_at (by decide)
theorem cx18a (u : Nat → Int) (f : Int → Int) : fixK ad ca rf 18 u f = .inl (ca 18, 40, .inl (zF f)) := rfl
theorem cx19 (σ : Sg) : (wK ad ca rf σ)[19]? = some (ad 19, .inl (ca 19, 40, .inl (zF (σ.2.1 19)))) := wN_at (by decide)
theorem cx19a (u : Nat → Int) (f : Int → Int) : fixK ad ca rf 19 u f = .inl (ca 19, 40, .inl (zF f)) := rfl
theorem cx20 (σ : Sg) : (wK ad ca rf σ)[20]? = some (ad 20, .inl (ca 20, 40, .inl (zF (σ.2.1 20)))) := wN_at (by decide)
theorem cx20a (u : Nat → Int) (f : Int → Int) : fixK ad ca rf 20 u f = .inl (ca 20, 40, .inl (zF f)) := rfl
theorem cx21 (σ : Sg) : (wK ad ca rf σ)[21]? = some (ad 21, .inl (ca 21, 40, .inl (zF (σ.2.1 21)))) := wN_at (by decide)
theorem cx21a (u : Nat → Int) (f : Int → Int) : fixK ad ca rf 21 u f = .inl (ca 21, 40, .inl (zF f)) := rfl
theorem cx22 (σ : Sg) : (wK ad ca rf σ)[22]? = some (ad 22, .inl (ca 22, 40, .inl (zF (σ.2.1 22)))) := wN_at (by decide)
theorem cx22a (u : Nat → Int) (f : Int → Int) : fixK ad ca rf 22 u f = .inl (ca 22, 40, .inl (zF f)) := rfl
theorem cx23 (σ : Sg) : (wK ad ca rf σ)[23]? = some (ad 23, .inl (ca 23, 40, .inl (zF (σ.2.1 23)))) := wN_at (by decide)
theorem cx23a (u : Nat → Int) (f : Int → Int) : fixK ad ca rf 23 u f = .inl (ca 23, 40, .inl (zF f)) := rfl
theorem cx24 (σ : Sg) : (wK ad ca rf σ)[24]? = some (ad 24, .inl (ca 24, 480, .inl (zF (σ.2.1 24)))) := wN_at (by decide)
theorem cx24a (u : Nat → Int) (f : Int → Int) : fixK ad ca rf 24 u f = .inl (ca 24, 480, .inl (zF f)) := rfl
theorem cx25 (σ : Sg) : (wK ad ca rf σ)[25]? = some (ad 25, .inr (5, [.int (zI (σ.1 25 0)), .int (zI (σ.1 25 1)), .ref (ad 26), .ref (ad 27), .ref (ad 30), .ref (ad 28), .ref (ad 29)])) := wN_at (by decide)
theorem cx25f (σ : Sg) {f : Int → Int} : fixK ad ca rf 25 (σ.1 25) f = .inr (5, [.int (zI (σ.1 25 0)), .int (zI (σ.1 25 1)), .ref (ad 26), .ref (ad 27), .ref (ad 30), .ref (ad 28), .ref (ad 29)]) := rfl
theorem cx26 (σ : Sg) : (wK ad ca rf σ)[26]? = some (ad 26, .inl (ca 26, 3, .inl (zF (σ.2.1 26)))) := wN_at (by decide)
theorem cx26a (u : Nat → Int) (f : Int → Int) : fixK ad ca rf 26 u f = .inl (ca 26, 3, .inl (zF f)) := rfl
theorem cx27 (σ : Sg) : (wK ad ca rf σ)[27]? = some (ad 27, .inl (ca 27, 40, .inl (zF (σ.2.1 27)))) := wN_at (by decide)
theorem cx27a (u : Nat → Int) (f : Int → Int) : fixK ad ca rf 27 u f = .inl (ca 27, 40, .inl (zF f)) := rfl
theorem cx28 (σ : Sg) : (wK ad ca rf σ)[28]? = some (ad 28, .inl (ca 28, 512, .inl (zF (σ.2.1 28)))) := wN_at (by decide)
theorem cx28a (u : Nat → Int) (f : Int → Int) : fixK ad ca rf 28 u f = .inl (ca 28, 512, .inl (zF f)) := rfl
theorem cx29 (σ : Sg) : (wK ad ca rf σ)[29]? = some (ad 29, .inl (ca 29, 512, .inl (zF (σ.2.1 29)))) := wN_at (by decide)
theorem cx29a (u : Nat → Int) (f : Int → Int) : fixK ad ca rf 29 u f = .inl (ca 29, 512, .inl (zF f)) := rfl
theorem cx30 (σ : Sg) : (wK ad ca rf σ)[30]? = some (ad 30, .inl (ca 30, 20, .inr (.inr (.inr (.inr (rf 30)))))) := wN_at (by decide)
theorem cx31 (σ : Sg) : (wK ad ca rf σ)[31]? = some (ad 31, .inr (4, [.ref (ad 32), .ref (ad 119), .ref (ad 113), .int (zI (σ.1 31 3)), .int (zI (σ.1 31 4)), .ref (ad 67), .ref (ad 68), .ref (ad 69), .ref (ad 70), .ref (ad 115)])) := wN_at (by decide)
theorem cx31f (σ : Sg) {f : Int → Int} : fixK ad ca rf 31 (σ.1 31) f = .inr (4, [.ref (ad 32), .ref (ad 119), .ref (ad 113), .int (zI (σ.1 31 3)), .int (zI (σ.1 31 4)), .ref (ad 67), .ref (ad 68), .ref (ad 69), .ref (ad 70), .ref (ad 115)]) := rfl
theorem cx32 (σ : Sg) : (wK ad ca rf σ)[32]? = some (ad 32, .inr (2, [.int (zI (σ.1 32 0)), .int (zI (σ.1 32 1)), .int (zI (σ.1 32 2)), .int (zI (σ.1 32 3)), .ref (ad 33), .ref (ad 50)])) := wN_at (by decide)
theorem cx32f (σ : Sg) {f : Int → Int} : fixK ad ca rf 32 (σ.1 32) f = .inr (2, [.int (zI (σ.1 32 0)), .int (zI (σ.1 32 1)), .int (zI (σ.1 32 2)), .int (zI (σ.1 32 3)), .ref (ad 33), .ref (ad 50)]) := rfl
theorem cx33 (σ : Sg) : (wK ad ca rf σ)[33]? = some (ad 33, .inr (3, [.ref (ad 37), .ref (ad 34), .int (zI (σ.1 33 2)), .int (zI (σ.1 33 3)), .int (zI (σ.1 33 4)), .ref (ad 35), .ref (ad 36)])) := wN_at (by decide)
theorem cx33f (σ : Sg) {f : Int → Int} : fixK ad ca rf 33 (σ.1 33) f = .inr (3, [.ref (ad 37), .ref (ad 34), .int (zI (σ.1 33 2)), .int (zI (σ.1 33 3)), .int (zI (σ.1 33 4)), .ref (ad 35), .ref (ad 36)]) := rfl
theorem cx34 (σ : Sg) : (wK ad ca rf σ)[34]? = some (ad 34, .inl (ca 34, 100, .inl (zF (σ.2.1 34)))) := wN_at (by decide)
theorem cx34a (u : Nat → Int) (f : Int → Int) : fixK ad ca rf 34 u f = .inl (ca 34, 100, .inl (zF f)) := rfl
theorem cx35 (σ : Sg) : (wK ad ca rf σ)[35]? = some (ad 35, .inl (ca 35, 6, .inl (zF (σ.2.1 35)))) := wN_at (by decide)
theorem cx35a (u : Nat → Int) (f : Int → Int) : fixK ad ca rf 35 u f = .inl (ca 35, 6, .inl (zF f)) := rfl
theorem cx36 (σ : Sg) : (wK ad ca rf σ)[36]? = some (ad 36, .inl (ca 36, 300, .inl (zF (σ.2.1 36)))) := wN_at (by decide)
theorem cx36a (u : Nat → Int) (f : Int → Int) : fixK ad ca rf 36 u f = .inl (ca 36, 300, .inl (zF f)) := rfl
theorem cx37 (σ : Sg) : (wK ad ca rf σ)[37]? = some (ad 37, .inr (1, [rvW ad 37 (σ.1 37 0), .int (zI (σ.1 37 1)), .ref (ad 38), .ref (ad 39), .ref (ad 40), .ref (ad 41), .ref (ad 42), .ref (ad 43), .ref (ad 44), .ref (ad 45), .ref (ad 46), .ref (ad 47), .ref (ad 48), .ref (ad 49)])) := wN_at (by decide)
theorem cx37f (σ : Sg) {f : Int → Int} : fixK ad ca rf 37 (σ.1 37) f = .inr (1, [rvW ad 37 (σ.1 37 0), .int (zI (σ.1 37 1)), .ref (ad 38), .ref (ad 39), .ref (ad 40), .ref (ad 41), .ref (ad 42), .ref (ad 43), .ref (ad 44), .ref (ad 45), .ref (ad 46), .ref (ad 47), .ref (ad 48), .ref (ad 49)]) := rfl
theorem cx38 (σ : Sg) : (wK ad ca rf σ)[38]? = some (ad 38, .inl (ca 38, 40, .inl (zF (σ.2.1 38)))) := wN_at (by decide)
theorem cx38a (u : Nat → Int) (f : Int → Int) : fixK ad ca rf 38 u f = .inl (ca 38, 40, .inl (zF f)) := rfl
theorem cx39 (σ : Sg) : (wK ad ca rf σ)[39]? = some (ad 39, .inl (ca 39, 40, .inl (zF (σ.2.1 39)))) := wN_at (by decide)
theorem cx39a (u : Nat → Int) (f : Int → Int) : fixK ad ca rf 39 u f = .inl (ca 39, 40, .inl (zF f)) := rfl
theorem cx40 (σ : Sg) : (wK ad ca rf σ)[40]? = some (ad 40, .inl (ca 40, 40, .inl (zF (σ.2.1 40)))) := wN_at (by decide)
theorem cx40a (u : Nat → Int) (f : Int → Int) : fixK ad ca rf 40 u f = .inl (ca 40, 40, .inl (zF f)) := rfl
theorem cx41 (σ : Sg) : (wK ad ca rf σ)[41]? = some (ad 41, .inl (ca 41, 40, .inl (zF (σ.2.1 41)))) := wN_at (by decide)
theorem cx41a (u : Nat → Int) (f : Int → Int) : fixK ad ca rf 41 u f = .inl (ca 41, 40, .inl (zF f)) := rfl
theorem cx42 (σ : Sg) : (wK ad ca rf σ)[42]? = some (ad 42, .inl (ca 42, 40, .inl (zF (σ.2.1 42)))) := wN_at (by decide)
theorem cx42a (u : Nat → Int) (f : Int → Int) : fixK ad ca rf 42 u f = .inl (ca 42, 40, .inl (zF f)) := rfl
theorem cx43 (σ : Sg) : (wK ad ca rf σ)[43]? = some (ad 43, .inl (ca 43, 40, .inl (zF (σ.2.1 43)))) := wN_at (by decide)
theorem cx43a (u : Nat → Int) (f : Int → Int) : fixK ad ca rf 43 u f = .inl (ca 43, 40, .inl (zF f)) := rfl
theorem cx44 (σ : Sg) : (wK ad ca rf σ)[44]? = some (ad 44, .inl (ca 44, 40, .inl (zF (σ.2.1 44)))) := wN_at (by decide)
theorem cx44a (u : Nat → Int) (f : Int → Int) : fixK ad ca rf 44 u f = .inl (ca 44, 40, .inl (zF f)) := rfl
theorem cx45 (σ : Sg) : (wK ad ca rf σ)[45]? = some (ad 45, .inl (ca 45, 40, .inl (zF (σ.2.1 45)))) := wN_at (by decide)
theorem cx45a (u : Nat → Int) (f : Int → Int) : fixK ad ca rf 45 u f = .inl (ca 45, 40, .inl (zF f)) := rfl
theorem cx46 (σ : Sg) : (wK ad ca rf σ)[46]? = some (ad 46, .inl (ca 46, 40, .inl (zF (σ.2.1 46)))) := wN_at (by decide)
theorem cx46a (u : Nat → Int) (f : Int → Int) : fixK ad ca rf 46 u f = .inl (ca 46, 40, .inl (zF f)) := rfl
theorem cx47 (σ : Sg) : (wK ad ca rf σ)[47]? = some (ad 47, .inl (ca 47, 40, .inl (zF (σ.2.1 47)))) := wN_at (by decide)
theorem cx47a (u : Nat → Int) (f : Int → Int) : fixK ad ca rf 47 u f = .inl (ca 47, 40, .inl (zF f)) := rfl
theorem cx48 (σ : Sg) : (wK ad ca rf σ)[48]? = some (ad 48, .inl (ca 48, 40, .inl (zF (σ.2.1 48)))) := wN_at (by decide)
theorem cx48a (u : Nat → Int) (f : Int → Int) : fixK ad ca rf 48 u f = .inl (ca 48, 40, .inl (zF f)) := rfl
theorem cx49 (σ : Sg) : (wK ad ca rf σ)[49]? = some (ad 49, .inl (ca 49, 480, .inl (zF (σ.2.1 49)))) := wN_at (by decide)
theorem cx49a (u : Nat → Int) (f : Int → Int) : fixK ad ca rf 49 u f = .inl (ca 49, 480, .inl (zF f)) := rfl
theorem cx50 (σ : Sg) : (wK ad ca rf σ)[50]? = some (ad 50, .inr (3, [.ref (ad 54), .ref (ad 51), .int (zI (σ.1 50 2)), .int (zI (σ.1 50 3)), .int (zI (σ.1 50 4)), .ref (ad 52), .ref (ad 53)])) := wN_at (by decide)
theorem cx50f (σ : Sg) {f : Int → Int} : fixK ad ca rf 50 (σ.1 50) f = .inr (3, [.ref (ad 54), .ref (ad 51), .int (zI (σ.1 50 2)), .int (zI (σ.1 50 3)), .int (zI (σ.1 50 4)), .ref (ad 52), .ref (ad 53)]) := rfl
theorem cx51 (σ : Sg) : (wK ad ca rf σ)[51]? = some (ad 51, .inl (ca 51, 100, .inl (zF (σ.2.1 51)))) := wN_at (by decide)
theorem cx51a (u : Nat → Int) (f : Int → Int) : fixK ad ca rf 51 u f = .inl (ca 51, 100, .inl (zF f)) := rfl
theorem cx52 (σ : Sg) : (wK ad ca rf σ)[52]? = some (ad 52, .inl (ca 52, 6, .inl (zF (σ.2.1 52)))) := wN_at (by decide)
theorem cx52a (u : Nat → Int) (f : Int → Int) : fixK ad ca rf 52 u f = .inl (ca 52, 6, .inl (zF f)) := rfl
theorem cx53 (σ : Sg) : (wK ad ca rf σ)[53]? = some (ad 53, .inl (ca 53, 300, .inl (zF (σ.2.1 53)))) := wN_at (by decide)
theorem cx53a (u : Nat → Int) (f : Int → Int) : fixK ad ca rf 53 u f = .inl (ca 53, 300, .inl (zF f)) := rfl
theorem cx54 (σ : Sg) : (wK ad ca rf σ)[54]? = some (ad 54, .inr (1, [rvW ad 54 (σ.1 54 0), .int (zI (σ.1 54 1)), .ref (ad 55), .ref (ad 56), .ref (ad 57), .ref (ad 58), .ref (ad 59), .ref (ad 60), .ref (ad 61), .ref (ad 62), .ref (ad 63), .ref (ad 64), .ref (ad 65), .ref (ad 66)])) := wN_at (by decide)
theorem cx54f (σ : Sg) {f : Int → Int} : fixK ad ca rf 54 (σ.1 54) f = .inr (1, [rvW ad 54 (σ.1 54 0), .int (zI (σ.1 54 1)), .ref (ad 55), .ref (ad 56), .ref (ad 57), .ref (ad 58), .ref (ad 59), .ref (ad 60), .ref (ad 61), .ref (ad 62), .ref (ad 63), .ref (ad 64), .ref (ad 65), .ref (ad 66)]) := rfl
theorem cx55 (σ : Sg) : (wK ad ca rf σ)[55]? = some (ad 55, .inl (ca 55, 40, .inl (zF (σ.2.1 55)))) := wN_at (by decide)
theorem cx55a (u : Nat → Int) (f : Int → Int) : fixK ad ca rf 55 u f = .inl (ca 55, 40, .inl (zF f)) := rfl
theorem cx56 (σ : Sg) : (wK ad ca rf σ)[56]? = some (ad 56, .inl (ca 56, 40, .inl (zF (σ.2.1 56)))) := wN_at (by decide)
theorem cx56a (u : Nat → Int) (f : Int → Int) : fixK ad ca rf 56 u f = .inl (ca 56, 40, .inl (zF f)) := rfl
theorem cx57 (σ : Sg) : (wK ad ca rf σ)[57]? = some (ad 57, .inl (ca 57, 40, .inl (zF (σ.2.1 57)))) := wN_at (by decide)
theorem cx57a (u : Nat → Int) (f : Int → Int) : fixK ad ca rf 57 u f = .inl (ca 57, 40, .inl (zF f)) := rfl
theorem cx58 (σ : Sg) : (wK ad ca rf σ)[58]? = some (ad 58, .inl (ca 58, 40, .inl (zF (σ.2.1 58)))) := wN_at (by decide)
theorem cx58a (u : Nat → Int) (f : Int → Int) : fixK ad ca rf 58 u f = .inl (ca 58, 40, .inl (zF f)) := rfl
theorem cx59 (σ : Sg) : (wK ad ca rf σ)[59]? = some (ad 59, .inl (ca 59, 40, .inl (zF (σ.2.1 59)))) := wN_at (by decide)
theorem cx59a (u : Nat → Int) (f : Int → Int) : fixK ad ca rf 59 u f = .inl (ca 59, 40, .inl (zF f)) := rfl
theorem cx60 (σ : Sg) : (wK ad ca rf σ)[60]? = some (ad 60, .inl (ca 60, 40, .inl (zF (σ.2.1 60)))) := wN_at (by decide)
theorem cx60a (u : Nat → Int) (f : Int → Int) : fixK ad ca rf 60 u f = .inl (ca 60, 40, .inl (zF f)) := rfl
theorem cx61 (σ : Sg) : (wK ad ca rf σ)[61]? = some (ad 61, .inl (ca 61, 40, .inl (zF (σ.2.1 61)))) := wN_at (by decide)
theorem cx61a (u : Nat → Int) (f : Int → Int) : fixK ad ca rf 61 u f = .inl (ca 61, 40, .inl (zF f)) := rfl
theorem cx62 (σ : Sg) : (wK ad ca rf σ)[62]? = some (ad 62, .inl (ca 62, 40, .inl (zF (σ.2.1 62)))) := wN_at (by decide)
theorem cx62a (u : Nat → Int) (f : Int → Int) : fixK ad ca rf 62 u f = .inl (ca 62, 40, .inl (zF f)) := rfl
theorem cx63 (σ : Sg) : (wK ad ca rf σ)[63]? = some (ad 63, .inl (ca 63, 40, .inl (zF (σ.2.1 63)))) := wN_at (by decide)
theorem cx63a (u : Nat → Int) (f : Int → Int) : fixK ad ca rf 63 u f = .inl (ca 63, 40, .inl (zF f)) := rfl
theorem cx64 (σ : Sg) : (wK ad ca rf σ)[64]? = some (ad 64, .inl (ca 64, 40, .inl (zF (σ.2.1 64)))) := wN_at (by decide)
theorem cx64a (u : Nat → Int) (f : Int → Int) : fixK ad ca rf 64 u f = .inl (ca 64, 40, .inl (zF f)) := rfl
theorem cx65 (σ : Sg) : (wK ad ca rf σ)[65]? = some (ad 65, .inl (ca 65, 40, .inl (zF (σ.2.1 65)))) := wN_at (by decide)
theorem cx65a (u : Nat → Int) (f : Int → Int) : fixK ad ca rf 65 u f = .inl (ca 65, 40, .inl (zF f)) := rfl
theorem cx66 (σ : Sg) : (wK ad ca rf σ)[66]? = some (ad 66, .inl (ca 66, 480, .inl (zF (σ.2.1 66)))) := wN_at (by decide)
theorem cx66a (u : Nat → Int) (f : Int → Int) : fixK ad ca rf 66 u f = .inl (ca 66, 480, .inl (zF f)) := rfl
theorem cx67 (σ : Sg) : (wK ad ca rf σ)[67]? = some (ad 67, .inl (ca 67, 12, .inr (.inr (.inr (.inr (rf 67)))))) := wN_at (by decide)
theorem cx68 (σ : Sg) : (wK ad ca rf σ)[68]? = some (ad 68, .inl (ca 68, 6, .inr (.inr (.inr (.inr (rf 68)))))) := wN_at (by decide)
theorem cx69 (σ : Sg) : (wK ad ca rf σ)[69]? = some (ad 69, .inl (ca 69, 6, .inl (zF (σ.2.1 69)))) := wN_at (by decide)
theorem cx69a (u : Nat → Int) (f : Int → Int) : fixK ad ca rf 69 u f = .inl (ca 69, 6, .inl (zF f)) := rfl
theorem cx70 (σ : Sg) : (wK ad ca rf σ)[70]? = some (ad 70, .inr (0, [.ref (ad 121), .ref (ad 71)])) := wN_at (by decide)
theorem cx70f (σ : Sg) {f : Int → Int} : fixK ad ca rf 70 (σ.1 70) f = .inr (0, [.ref (ad 121), .ref (ad 71)]) := rfl
theorem cx71 (σ : Sg) : (wK ad ca rf σ)[71]? = some (ad 71, .inr (1, [rvW ad 71 (σ.1 71 0), .int (zI (σ.1 71 1)), .ref (ad 72), .ref (ad 73), .ref (ad 74), .ref (ad 75), .ref (ad 76), .ref (ad 77), .ref (ad 78), .ref (ad 79), .ref (ad 80), .ref (ad 81), .ref (ad 82), .ref (ad 83)])) := wN_at (by decide)
theorem cx71f (σ : Sg) {f : Int → Int} : fixK ad ca rf 71 (σ.1 71) f = .inr (1, [rvW ad 71 (σ.1 71 0), .int (zI (σ.1 71 1)), .ref (ad 72), .ref (ad 73), .ref (ad 74), .ref (ad 75), .ref (ad 76), .ref (ad 77), .ref (ad 78), .ref (ad 79), .ref (ad 80), .ref (ad 81), .ref (ad 82), .ref (ad 83)]) := rfl
theorem cx72 (σ : Sg) : (wK ad ca rf σ)[72]? = some (ad 72, .inl (ca 72, 40, .inl (zF (σ.2.1 72)))) := wN_at (by decide)
theorem cx72a (u : Nat → Int) (f : Int → Int) : fixK ad ca rf 72 u f = .inl (ca 72, 40, .inl (zF f)) := rfl
theorem cx73 (σ : Sg) : (wK ad ca rf σ)[73]? = some (ad 73, .inl (ca 73, 40, .inl (zF (σ.2.1 73)))) := wN_at (by decide)
theorem cx73a (u : Nat → Int) (f : Int → Int) : fixK ad ca rf 73 u f = .inl (ca 73, 40, .inl (zF f)) := rfl
theorem cx74 (σ : Sg) : (wK ad ca rf σ)[74]? = some (ad 74, .inl (ca 74, 40, .inl (zF (σ.2.1 74)))) := wN_at (by decide)
theorem cx74a (u : Nat → Int) (f : Int → Int) : fixK ad ca rf 74 u f = .inl (ca 74, 40, .inl (zF f)) := rfl
theorem cx75 (σ : Sg) : (wK ad ca rf σ)[75]? = some (ad 75, .inl (ca 75, 40, .inl (zF (σ.2.1 75)))) := wN_at (by decide)
theorem cx75a (u : Nat → Int) (f : Int → Int) : fixK ad ca rf 75 u f = .inl (ca 75, 40, .inl (zF f)) := rfl
theorem cx76 (σ : Sg) : (wK ad ca rf σ)[76]? = some (ad 76, .inl (ca 76, 40, .inl (zF (σ.2.1 76)))) := wN_at (by decide)
theorem cx76a (u : Nat → Int) (f : Int → Int) : fixK ad ca rf 76 u f = .inl (ca 76, 40, .inl (zF f)) := rfl
theorem cx77 (σ : Sg) : (wK ad ca rf σ)[77]? = some (ad 77, .inl (ca 77, 40, .inl (zF (σ.2.1 77)))) := wN_at (by decide)
theorem cx77a (u : Nat → Int) (f : Int → Int) : fixK ad ca rf 77 u f = .inl (ca 77, 40, .inl (zF f)) := rfl
theorem cx78 (σ : Sg) : (wK ad ca rf σ)[78]? = some (ad 78, .inl (ca 78, 40, .inl (zF (σ.2.1 78)))) := wN_at (by decide)
theorem cx78a (u : Nat → Int) (f : Int → Int) : fixK ad ca rf 78 u f = .inl (ca 78, 40, .inl (zF f)) := rfl
theorem cx79 (σ : Sg) : (wK ad ca rf σ)[79]? = some (ad 79, .inl (ca 79, 40, .inl (zF (σ.2.1 79)))) := wN_at (by decide)
theorem cx79a (u : Nat → Int) (f : Int → Int) : fixK ad ca rf 79 u f = .inl (ca 79, 40, .inl (zF f)) := rfl
theorem cx80 (σ : Sg) : (wK ad ca rf σ)[80]? = some (ad 80, .inl (ca 80, 40, .inl (zF (σ.2.1 80)))) := wN_at (by decide)
theorem cx80a (u : Nat → Int) (f : Int → Int) : fixK ad ca rf 80 u f = .inl (ca 80, 40, .inl (zF f)) := rfl
theorem cx81 (σ : Sg) : (wK ad ca rf σ)[81]? = some (ad 81, .inl (ca 81, 40, .inl (zF (σ.2.1 81)))) := wN_at (by decide)
theorem cx81a (u : Nat → Int) (f : Int → Int) : fixK ad ca rf 81 u f = .inl (ca 81, 40, .inl (zF f)) := rfl
theorem cx82 (σ : Sg) : (wK ad ca rf σ)[82]? = some (ad 82, .inl (ca 82, 40, .inl (zF (σ.2.1 82)))) := wN_at (by decide)
theorem cx82a (u : Nat → Int) (f : Int → Int) : fixK ad ca rf 82 u f = .inl (ca 82, 40, .inl (zF f)) := rfl
theorem cx83 (σ : Sg) : (wK ad ca rf σ)[83]? = some (ad 83, .inl (ca 83, 480, .inl (zF (σ.2.1 83)))) := wN_at (by decide)
theorem cx83a (u : Nat → Int) (f : Int → Int) : fixK ad ca rf 83 u f = .inl (ca 83, 480, .inl (zF f)) := rfl
theorem cx84 (σ : Sg) : (wK ad ca rf σ)[84]? = some (ad 84, .inr (7, [.ref (ad 88), .ref (ad 85), .ref (ad 86), .ref (ad 87), .int (zI (σ.1 84 4))])) := wN_at (by decide)
theorem cx84f (σ : Sg) {f : Int → Int} : fixK ad ca rf 84 (σ.1 84) f = .inr (7, [.ref (ad 88), .ref (ad 85), .ref (ad 86), .ref (ad 87), .int (zI (σ.1 84 4))]) := rfl
theorem cx85 (σ : Sg) : (wK ad ca rf σ)[85]? = some (ad 85, .inl (ca 85, 6, .inl (zF (σ.2.1 85)))) := wN_at (by decide)
theorem cx85a (u : Nat → Int) (f : Int → Int) : fixK ad ca rf 85 u f = .inl (ca 85, 6, .inl (zF f)) := rfl
theorem cx86 (σ : Sg) : (wK ad ca rf σ)[86]? = some (ad 86, .inl (ca 86, 6, .inl (zF (σ.2.1 86)))) := wN_at (by decide)
theorem cx86a (u : Nat → Int) (f : Int → Int) : fixK ad ca rf 86 u f = .inl (ca 86, 6, .inl (zF f)) := rfl
theorem cx87 (σ : Sg) : (wK ad ca rf σ)[87]? = some (ad 87, .inl (ca 87, 6, .inl (zF (σ.2.1 87)))) := wN_at (by decide)
theorem cx87a (u : Nat → Int) (f : Int → Int) : fixK ad ca rf 87 u f = .inl (ca 87, 6, .inl (zF f)) := rfl
theorem cx88 (σ : Sg) : (wK ad ca rf σ)[88]? = some (ad 88, .inr (1, [rvW ad 88 (σ.1 88 0), .int (zI (σ.1 88 1)), .ref (ad 89), .ref (ad 90), .ref (ad 91), .ref (ad 92), .ref (ad 93), .ref (ad 94), .ref (ad 95), .ref (ad 96), .ref (ad 97), .ref (ad 98), .ref (ad 99), .ref (ad 100)])) := wN_at (by decide)
theorem cx88f (σ : Sg) {f : Int → Int} : fixK ad ca rf 88 (σ.1 88) f = .inr (1, [rvW ad 88 (σ.1 88 0), .int (zI (σ.1 88 1)), .ref (ad 89), .ref (ad 90), .ref (ad 91), .ref (ad 92), .ref (ad 93), .ref (ad 94), .ref (ad 95), .ref (ad 96), .ref (ad 97), .ref (ad 98), .ref (ad 99), .ref (ad 100)]) := rfl
theorem cx89 (σ : Sg) : (wK ad ca rf σ)[89]? = some (ad 89, .inl (ca 89, 40, .inl (zF (σ.2.1 89)))) := wN_at (by decide)
theorem cx89a (u : Nat → Int) (f : Int → Int) : fixK ad ca rf 89 u f = .inl (ca 89, 40, .inl (zF f)) := rfl
theorem cx90 (σ : Sg) : (wK ad ca rf σ)[90]? = some (ad 90, .inl (ca 90, 40, .inl (zF (σ.2.1 90)))) := wN_at (by decide)
theorem cx90a (u : Nat → Int) (f : Int → Int) : fixK ad ca rf 90 u f = .inl (ca 90, 40, .inl (zF f)) := rfl
theorem cx91 (σ : Sg) : (wK ad ca rf σ)[91]? = some (ad 91, .inl (ca 91, 40, .inl (zF (σ.2.1 91)))) := wN_at (by decide)
theorem cx91a (u : Nat → Int) (f : Int → Int) : fixK ad ca rf 91 u f = .inl (ca 91, 40, .inl (zF f)) := rfl
theorem cx92 (σ : Sg) : (wK ad ca rf σ)[92]? = some (ad 92, .inl (ca 92, 40, .inl (zF (σ.2.1 92)))) := wN_at (by decide)
theorem cx92a (u : Nat → Int) (f : Int → Int) : fixK ad ca rf 92 u f = .inl (ca 92, 40, .inl (zF f)) := rfl
theorem cx93 (σ : Sg) : (wK ad ca rf σ)[93]? = some (ad 93, .inl (ca 93, 40, .inl (zF (σ.2.1 93)))) := wN_at (by decide)
theorem cx93a (u : Nat → Int) (f : Int → Int) : fixK ad ca rf 93 u f = .inl (ca 93, 40, .inl (zF f)) := rfl
theorem cx94 (σ : Sg) : (wK ad ca rf σ)[94]? = some (ad 94, .inl (ca 94, 40, .inl (zF (σ.2.1 94)))) := wN_at (by decide)
theorem cx94a (u : Nat → Int) (f : Int → Int) : fixK ad ca rf 94 u f = .inl (ca 94, 40, .inl (zF f)) := rfl
theorem cx95 (σ : Sg) : (wK ad ca rf σ)[95]? = some (ad 95, .inl (ca 95, 40, .inl (zF (σ.2.1 95)))) := wN_at (by decide)
theorem cx95a (u : Nat → Int) (f : Int → Int) : fixK ad ca rf 95 u f = .inl (ca 95, 40, .inl (zF f)) := rfl
theorem cx96 (σ : Sg) : (wK ad ca rf σ)[96]? = some (ad 96, .inl (ca 96, 40, .inl (zF (σ.2.1 96)))) := wN_at (by decide)
theorem cx96a (u : Nat → Int) (f : Int → Int) : fixK ad ca rf 96 u f = .inl (ca 96, 40, .inl (zF f)) := rfl
theorem cx97 (σ : Sg) : (wK ad ca rf σ)[97]? = some (ad 97, .inl (ca 97, 40, .inl (zF (σ.2.1 97)))) := wN_at (by decide)
theorem cx97a (u : Nat → Int) (f : Int → Int) : fixK ad ca rf 97 u f = .inl (ca 97, 40, .inl (zF f)) := rfl
theorem cx98 (σ : Sg) : (wK ad ca rf σ)[98]? = some (ad 98, .inl (ca 98, 40, .inl (zF (σ.2.1 98)))) := wN_at (by decide)
theorem cx98a (u : Nat → Int) (f : Int → Int) : fixK ad ca rf 98 u f = .inl (ca 98, 40, .inl (zF f)) := rfl
theorem cx99 (σ : Sg) : (wK ad ca rf σ)[99]? = some (ad 99, .inl (ca 99, 40, .inl (zF (σ.2.1 99)))) := wN_at (by decide)
theorem cx99a (u : Nat → Int) (f : Int → Int) : fixK ad ca rf 99 u f = .inl (ca 99, 40, .inl (zF f)) := rfl
theorem cx100 (σ : Sg) : (wK ad ca rf σ)[100]? = some (ad 100, .inl (ca 100, 480, .inl (zF (σ.2.1 100)))) := wN_at (by decide)
theorem cx100a (u : Nat → Int) (f : Int → Int) : fixK ad ca rf 100 u f = .inl (ca 100, 480, .inl (zF f)) := rfl
theorem nIk {n N : Int} (h : 0 ≤ n ∧ n < N) : ((n.toNat : Nat) : Int) = n := Int.toNat_of_nonneg h.1
theorem nNk {n : Int} {N : Nat} (h : 0 ≤ n ∧ n < (N : Int)) : n.toNat < N := by omega
theorem cxRow {n : Int} (hn : 0 ≤ n ∧ n < 35) : (wK ad ca rf σ)[rowC n.toNat]? = some (ad (rowC n.toNat), .inr (8, [.ref (ad (rowC n.toNat + 1)), .int (zI (σ.2.2.1 0 n))])) := by
  rw [wN_at (rowC_lt' (nNk (N := 35) hn)), cK_fam rowC_ge, famK_row (nNk (N := 35) hn), nIk hn]
theorem cxRowc {n : Int} (hn : 0 ≤ n ∧ n < 35) : (wK ad ca rf σ)[rowC n.toNat + 1]? = some (ad (rowC n.toNat + 1), .inl (ca (rowC n.toNat + 1), (capI n).toNat, .inl (zF (σ.2.2.2 0 n)))) := by
  rw [wN_at (rowC_lt (nNk (N := 35) hn)), cK_fam (Nat.le_succ_of_le rowC_ge), famK_rowc (nNk (N := 35) hn), nIk hn]
theorem cxRule {r : Int} (hr : 0 ≤ r ∧ r < 12) : (wK ad ca rf σ)[ruleC r.toNat]? = some (ad (ruleC r.toNat), .inr (9, [.ref (ad (rowC (11 + 2 * r).toNat)), .ref (ad (rowC (12 + 2 * r).toNat)), .int (zI (σ.2.2.1 1 r)), .ref (ad (ruleC r.toNat + 5)), .ref (ad (ruleC r.toNat + 6))])) := by
  have h1 : ruleC r.toNat + 1 = rowC (11 + 2 * r).toNat := by unfold ruleC rowC; split <;> omega
  have h2 : ruleC r.toNat + 3 = rowC (12 + 2 * r).toNat := by unfold ruleC rowC; split <;> omega
  rw [wN_at (by unfold ruleC NC; omega), cK_fam (by unfold ruleC; omega), famK_rule (nNk (N := 12) hr), nIk hr, h1, h2]
theorem cxItem {i : Int} (hi : 0 ≤ i ∧ i < 6) : (wK ad ca rf σ)[227 + i.toNat]? = some (ad (227 + i.toNat), .inl (ca (227 + i.toNat), 8, .inl (zF (σ.2.2.2 1 i)))) := by
  rw [wN_at (by unfold NC; omega), cK_fam (by omega), famK_item (nNk (N := 6) hi), nIk hi]
theorem cxU5 {r : Int} (hr : 0 ≤ r ∧ r < 12) : (wK ad ca rf σ)[ruleC r.toNat + 5]? = some (ad (ruleC r.toNat + 5), .inl (ca (ruleC r.toNat + 5), 3, .inl (zF (σ.2.2.2 2 r)))) := by
  rw [wN_at (by unfold ruleC NC; omega), cK_fam (by unfold ruleC; omega), famK_u5 (nNk (N := 12) hr), nIk hr]
theorem cxU6 {r : Int} (hr : 0 ≤ r ∧ r < 12) : (wK ad ca rf σ)[ruleC r.toNat + 6]? = some (ad (ruleC r.toNat + 6), .inl (ca (ruleC r.toNat + 6), 3, .inl (zF (σ.2.2.2 3 r)))) := by
  rw [wN_at (by unfold ruleC NC; omega), cK_fam (by unfold ruleC; omega), famK_u6 (nNk (N := 12) hr), nIk hr]
theorem cxForm {i : Int} (hi : 0 ≤ i ∧ i < 20) : (wK ad ca rf σ)[207 + i.toNat]? = some (ad (207 + i.toNat), .inl (ca (207 + i.toNat), 512, .inl (zF (σ.2.2.2 4 i)))) := by
  rw [wN_at (by unfold NC; omega), cK_fam (by omega), famK_fm (nNk (N := 20) hi), nIk hi]
theorem tyU5 {r : Int} (hr : 0 ≤ r ∧ r < 12) : (tC ca)[ruleC r.toNat + 5]? = some (ca (ruleC r.toNat + 5), .int) := tC_at (by unfold ruleC NC; omega) (tyC_fam (by unfold ruleC; omega))
theorem tyU6 {r : Int} (hr : 0 ≤ r ∧ r < 12) : (tC ca)[ruleC r.toNat + 6]? = some (ca (ruleC r.toNat + 6), .int) := tC_at (by unfold ruleC NC; omega) (tyC_fam (by unfold ruleC; omega))
theorem tyForm {i : Int} (hi : 0 ≤ i ∧ i < 20) : (tC ca)[207 + i.toNat]? = some (ca (207 + i.toNat), .int) := tC_at (by unfold NC; omega) (tyC_fam (by omega))
theorem tyR {n : Int} (hn : 0 ≤ n ∧ n < 35) : (tC ca)[rowC n.toNat + 1]? = some (ca (rowC n.toNat + 1), .int) := tC_at (rowC_lt (nNk (N := 35) hn)) (tyC_fam (Nat.le_succ_of_le rowC_ge))
theorem tyI {i : Int} (hi : 0 ≤ i ∧ i < 6) : (tC ca)[227 + i.toNat]? = some (ca (227 + i.toNat), .int) := tC_at (by unfold NC; omega) (tyC_fam (by omega))
end KK0
def cpI (f g : Int → Int) (sp dp n : Int) : Int → Int := fun k => if dp ≤ k ∧ k < dp + n then f (sp + (k - dp)) else g k
theorem zF_cpy {f g : Int → Int} {sp dp n : Int} (h1 : 0 ≤ sp ∧ sp < 2147483648) (h2 : 0 ≤ dp ∧ dp < 2147483648) (h3 : 0 ≤ n ∧ n < 2147483648) : va_cpy (zF f) (zF g) (zI sp).toNatClampNeg (zI dp).toNatClampNeg (zI n).toNatClampNeg = zF (cpI f g sp dp n) := by
  rw [zI_nat (n := 2147483648) h1 (Nat.le_refl _), zI_nat (n := 2147483648) h2 (Nat.le_refl _), zI_nat (n := 2147483648) h3 (Nat.le_refl _)]
  funext j
  unfold va_cpy zF cpI
  by_cases hj : dp.toNat ≤ j ∧ j < dp.toNat + n.toNat
  · rw [if_pos hj, if_pos (by omega)]
    exact congrArg (fun z => zI (f z)) (by omega)
  · rw [if_neg hj, if_neg (by omega)]
theorem rcpI {f g : Int → Int} {sp dp n : Int} (hf : ∀ j : Nat, rng (f j)) (hg : ∀ j : Nat, rng (g j)) (h1 : 0 ≤ sp) : ∀ j : Nat, rng (cpI f g sp dp n j) := by
  intro j
  unfold cpI
  split
  · have := hf (sp + (j - dp)).toNat
    rwa [Int.toNat_of_nonneg (by omega)] at this
  · exact hg j
section KK
variable {p : Program} {l : Launch} {e : Env} {R : Room} {s : State} {m : MethodId} {args : Array Value} {below : List Frame} {meth : Method} {c : Code} {H : Heap} {locs : List Loc} {cells slots : Nat} {Q : State → Prop}
variable {cc : ByteArray} {pc nL : Nat} {ls : Array Slot} {rest : List Value} {D : va_G} {A : Nat → Prop} {H0 : Heap} {own : String} {index : Nat} {ad : Nat → Nat} {ca : Nat → ClassId} {rf : Nat → Nat → Option Nat} {σ : Sg}
variable {ci N : Nat} {Cn : String} {T : u_T} {ty : Nat → FieldType} {fs : List Value}
theorem k_putK (C : CallFix p m c cc nL s args gG own) (Wd : wXK D ad ca rf s σ H A H0 locs) (KC : clsOK ci Cn T N ty) (q j : Nat) {v : Int} {w : Value} (hq : q < 101) (he : (wK ad ca rf σ)[q]? = some (ad q, .inr (ci, fs))) (he' : fixK ad ca rf q ((pU σ q j v).1 q) (σ.2.1 q) = .inr (ci, fs.set j w)) (hj : j < N) (hlink : Cond.fieldLink own index (T j).1 (T j).2.1 (T j).2.2.1 ∈ gG) (hfin : (T j).2.2.2 = false) (hn : narrow (ty j) w = w) (hfit : fits (ty j) w = true) (hlen : j < fs.length) (hr : rng v) (hdg : decode cc pc = .ok (.putfield index, 3))
    (kk : ∀ (H1 : Heap) (locs1 : List Loc), wXK D ad ca rf s (pU σ q j v) H1 A H0 locs1 → W p l e R s m args below meth c H1 locs1 cells slots Q (F0 m (pc + 3) ls rest)) : W p l e R s m args below meth c H locs cells slots Q (F0 m pc ls (w :: .ref (ad q) :: rest)) :=
  k_put C Wd.1 KC q j (wK ad ca rf (pU σ q j v)) he hj hlink hfin hn hfit hlen (wK_set (by unfold NC; omega) (by rw [cK_fix hq]; exact congrArg (Prod.mk (ad q)) he') (fun k hk => cK_pU hk)) hdg (fun H1 locs1 W1 => kk H1 locs1 ⟨W1, rpU Wd.2.1 hr, Wd.2.2⟩)
theorem k_putRL (C : CallFix p m c cc nL s args gG own) (Wd : wXK D ad ca rf s σ H A H0 locs) {n v : Int} (hn : 0 ≤ n ∧ n < 35) (hlink : Cond.fieldLink own index (TX8 1).1 (TX8 1).2.1 (TX8 1).2.2.1 ∈ gG) (hr : rng v) (hdg : decode cc pc = .ok (.putfield index, 3))
    (kk : ∀ (H1 : Heap) (locs1 : List Loc), wXK D ad ca rf s (pY σ 0 n v) H1 A H0 locs1 → W p l e R s m args below meth c H1 locs1 cells slots Q (F0 m (pc + 3) ls rest)) : W p l e R s m args below meth c H locs cells slots Q (F0 m pc ls (.int (zI v) :: .ref (ad (rowC n.toNat)) :: rest)) := by
  have hN : n.toNat < 35 := nNk (N := 35) hn
  refine k_put C Wd.1 KX8 (rowC n.toNat) 1 (wK ad ca rf (pY σ 0 n v)) (cxRow hn) (by decide) hlink rfl rfl rfl (by show 1 < 2; decide) ?_ hdg (fun H1 locs1 W1 => kk H1 locs1 ⟨W1, rpY Wd.2.1 hr, Wd.2.2⟩)
  refine wK_set (rowC_lt' hN) ?_ (fun k hk => ?_)
  · rw [cK_fam rowC_ge, famK_row hN]
    rw [nIk hn]
    show (ad (rowC n.toNat), Sum.inr (8, [Value.ref (ad (rowC n.toNat + 1)), Value.int (zI (uZ (σ.2.2.1 0) n v n))])) = _
    rw [uZ_eq]; rfl
  · have := cK_Y0 (ad := ad) (ca := ca) (rf := rf) (σ := σ) hN (v := v) hk
    rwa [nIk hn] at this
theorem k_putLT (C : CallFix p m c cc nL s args gG own) (Wd : wXK D ad ca rf s σ H A H0 locs) {n v : Int} (hn : 0 ≤ n ∧ n < 12) (hlink : Cond.fieldLink own index (TX9 2).1 (TX9 2).2.1 (TX9 2).2.2.1 ∈ gG) (hr : rng v) (hdg : decode cc pc = .ok (.putfield index, 3))
    (kk : ∀ (H1 : Heap) (locs1 : List Loc), wXK D ad ca rf s (pY σ 1 n v) H1 A H0 locs1 → W p l e R s m args below meth c H1 locs1 cells slots Q (F0 m (pc + 3) ls rest)) : W p l e R s m args below meth c H locs cells slots Q (F0 m pc ls (.int (zI v) :: .ref (ad (ruleC n.toNat)) :: rest)) := by
  have hN : n.toNat < 12 := nNk (N := 12) hn
  refine k_put C Wd.1 KX9 (ruleC n.toNat) 2 (wK ad ca rf (pY σ 1 n v)) (cxRule hn) (by decide) hlink rfl rfl rfl (by show 2 < 5; decide) ?_ hdg (fun H1 locs1 W1 => kk H1 locs1 ⟨W1, rpY Wd.2.1 hr, Wd.2.2⟩)
  refine wK_set (by unfold ruleC NC; omega) ?_ (fun k hk => ?_)
  · have h := cxRule (ad := ad) (ca := ca) (rf := rf) (σ := pY σ 1 n v) hn
    rw [wN_at (by unfold ruleC NC; omega)] at h
    rw [Option.some.inj h]
    show (ad (ruleC n.toNat), Sum.inr (9, [Value.ref (ad (rowC (11 + 2 * n).toNat)), Value.ref (ad (rowC (12 + 2 * n).toNat)), Value.int (zI (uZ (σ.2.2.1 1) n v n)), Value.ref (ad (ruleC n.toNat + 5)), Value.ref (ad (ruleC n.toNat + 6))])) = _
    rw [uZ_eq]; rfl
  · have := cK_Y1 (ad := ad) (ca := ca) (rf := rf) (σ := σ) hN (v := v) hk
    rwa [nIk hn] at this
theorem k_putRow (C : CallFix p m c cc nL s args gG own) (Wd : wXK D ad ca rf s σ H A H0 locs) {n : Int} (hn : 0 ≤ n ∧ n < 35) (hlink : Cond.fieldLink own index (TX6 3).1 (TX6 3).2.1 (TX6 3).2.2.1 ∈ gG) (hdg : decode cc pc = .ok (.putfield index, 3))
    (kk : ∀ (H1 : Heap) (locs1 : List Loc), wXK D ad ca rf s (pU σ 2 3 n) H1 A H0 locs1 → W p l e R s m args below meth c H1 locs1 cells slots Q (F0 m (pc + 3) ls rest)) : W p l e R s m args below meth c H locs cells slots Q (F0 m pc ls (.ref (ad (rowC n.toNat)) :: .ref (ad 2) :: rest)) :=
  k_putK C Wd KX6 2 3 (by decide) (cx2 _) ((cx2f (pU σ 2 3 n)).trans (by show Sum.inr (6, [Value.ref (ad 3), Value.int (zI (σ.1 2 1)), Value.int (zI (σ.1 2 2)), rvR ad n, rvN ruleC ad (σ.1 2 4), Value.int (zI (σ.1 2 5)), Value.int (zI (σ.1 2 6)), Value.int (zI (σ.1 2 7)), Value.int (zI (σ.1 2 8)), Value.int (zI (σ.1 2 9)), Value.int (zI (σ.1 2 10)), Value.int (zI (σ.1 2 11)), Value.int (zI (σ.1 2 12)), Value.int (zI (σ.1 2 13)), Value.ref (ad 5), Value.ref (ad 6), Value.ref (ad 7)]) = _; rw [rvR_ref hn]; rfl)) (by decide) hlink rfl rfl rfl (by show 3 < 17; decide) ⟨by omega, by omega⟩ hdg kk
theorem k_putRule (C : CallFix p m c cc nL s args gG own) (Wd : wXK D ad ca rf s σ H A H0 locs) {n : Int} (hn : 0 ≤ n ∧ n < 12) (hlink : Cond.fieldLink own index (TX6 4).1 (TX6 4).2.1 (TX6 4).2.2.1 ∈ gG) (hdg : decode cc pc = .ok (.putfield index, 3))
    (kk : ∀ (H1 : Heap) (locs1 : List Loc), wXK D ad ca rf s (pU σ 2 4 n) H1 A H0 locs1 → W p l e R s m args below meth c H1 locs1 cells slots Q (F0 m (pc + 3) ls rest)) : W p l e R s m args below meth c H locs cells slots Q (F0 m pc ls (.ref (ad (ruleC n.toNat)) :: .ref (ad 2) :: rest)) :=
  k_putK C Wd KX6 2 4 (by decide) (cx2 _) ((cx2f (pU σ 2 4 n)).trans (by show Sum.inr (6, [Value.ref (ad 3), Value.int (zI (σ.1 2 1)), Value.int (zI (σ.1 2 2)), rvR ad (σ.1 2 3), rvN ruleC ad n, Value.int (zI (σ.1 2 5)), Value.int (zI (σ.1 2 6)), Value.int (zI (σ.1 2 7)), Value.int (zI (σ.1 2 8)), Value.int (zI (σ.1 2 9)), Value.int (zI (σ.1 2 10)), Value.int (zI (σ.1 2 11)), Value.int (zI (σ.1 2 12)), Value.int (zI (σ.1 2 13)), Value.ref (ad 5), Value.ref (ad 6), Value.ref (ad 7)]) = _; rw [rvN_ref hn]; rfl)) (by decide) hlink rfl rfl rfl (by show 4 < 17; decide) ⟨by omega, by omega⟩ hdg kk
theorem k_ialdK (C : CallFix p m c cc nL s args gG own) (Wd : wXK D ad ca rf s σ H A H0 locs) {q n : Nat} {a : Nat} {cA : ClassId} {g : Int → Int} {i : Int} (ha : (wK ad ca rf σ)[q]? = some (a, .inl (cA, n, .inl (zF g)))) (ht : (tC ca)[q]? = some (cA, .int)) (hi : 0 ≤ i ∧ i < (n : Int)) (hn : n ≤ 2147483648) (hdg : decode cc pc = .ok (.iaload, 1))
    (kk : W p l e R s m args below meth c H locs cells slots Q (F0 m (pc + 1) ls (.int (zI (g i)) :: rest))) : W p l e R s m args below meth c H locs cells slots Q (F0 m pc ls (.int (zI i) :: .ref a :: rest)) :=
  k_iald C Wd.1 q q ha ht (zI_in hi hn) (zF_at hi hn) hdg kk
theorem capN {n i : Int} (h : 0 ≤ i ∧ i < capI n) : 0 ≤ i ∧ i < ((capI n).toNat : Int) := by have := capI_pos n; omega
theorem capL (n : Int) : (capI n).toNat ≤ 2147483648 := by have := capI_pos n; omega
theorem k_iastF (C : CallFix p m c cc nL s args gG own) (Wd : wXK D ad ca rf s σ H A H0 locs) (q : Nat) {n : Nat} {g : Int → Int} {i v : Int} (hq : q < 101) (ha : (wK ad ca rf σ)[q]? = some (ad q, .inl (ca q, n, .inl (zF g)))) (he : ∀ f : Int → Int, fixK ad ca rf q (σ.1 q) f = .inl (ca q, n, .inl (zF f))) (ht : (tC ca)[q]? = some (ca q, .int)) (hi : 0 ≤ i ∧ i < (n : Int)) (hn : n ≤ 2147483648) (hr : ∀ j : Nat, rng (uZ g i v j)) (hdg : decode cc pc = .ok (.iastore, 1))
    (kk : ∀ (H1 : Heap) (locs1 : List Loc), wXK D ad ca rf s (pF σ q (uZ g i v)) H1 A H0 locs1 → W p l e R s m args below meth c H1 locs1 cells slots Q (F0 m (pc + 1) ls rest)) : W p l e R s m args below meth c H locs cells slots Q (F0 m pc ls (.int (zI v) :: .int (zI i) :: .ref (ad q) :: rest)) :=
  k_iast C Wd.1 q q (wK ad ca rf (pF σ q (uZ g i v))) ha ht (zI_in hi hn) (zF_upd hi hn) (wK_set (by unfold NC; omega) (by
    rw [cK_fix hq]
    show (ad q, fixK ad ca rf q (σ.1 q) (bif Nat.beq q q then uZ g i v else σ.2.1 q)) = _
    rw [Nat.beq_refl]
    exact congrArg (Prod.mk (ad q)) (he _)) (fun k hk => cK_pF hk)) hdg (fun H1 locs1 W1 => kk H1 locs1 ⟨W1, rpF Wd.2.1 hr, Wd.2.2⟩)
theorem wK_Z0 {n : Int} {g : Int → Int} (hn : 0 ≤ n ∧ n < 35) : (wK ad ca rf σ).set (rowC n.toNat + 1) (ad (rowC n.toNat + 1), .inl (ca (rowC n.toNat + 1), (capI n).toNat, .inl (zF g))) = wK ad ca rf (pZ σ 0 n g) := by
  have hN : n.toNat < 35 := nNk (N := 35) hn
  refine wK_set (rowC_lt hN) ?_ (fun k hk => ?_)
  · have h := cxRowc (ad := ad) (ca := ca) (rf := rf) (σ := pZ σ 0 n g) hn
    rw [wN_at (rowC_lt hN)] at h
    rw [Option.some.inj h]
    show (ad (rowC n.toNat + 1), Sum.inl (ca (rowC n.toNat + 1), (capI n).toNat, Sum.inl (zF (uF (σ.2.2.2 0) n g n)))) = _
    rw [uF_eq]
  · have := cK_Z0 (ad := ad) (ca := ca) (rf := rf) (σ := σ) hN (g := g) hk
    rwa [nIk hn] at this
theorem wK_Z1 {n : Int} {g : Int → Int} (hn : 0 ≤ n ∧ n < 6) : (wK ad ca rf σ).set (227 + n.toNat) (ad (227 + n.toNat), .inl (ca (227 + n.toNat), 8, .inl (zF g))) = wK ad ca rf (pZ σ 1 n g) := by
  have hN : n.toNat < 6 := nNk (N := 6) hn
  refine wK_set (by unfold NC; omega) ?_ (fun k hk => ?_)
  · have h := cxItem (ad := ad) (ca := ca) (rf := rf) (σ := pZ σ 1 n g) hn
    rw [wN_at (by unfold NC; omega)] at h
    rw [Option.some.inj h]
    show (ad (227 + n.toNat), Sum.inl (ca (227 + n.toNat), 8, Sum.inl (zF (uF (σ.2.2.2 1) n g n)))) = _
    rw [uF_eq]
  · have := cK_Z1 (ad := ad) (ca := ca) (rf := rf) (σ := σ) hN (g := g) hk
    rwa [nIk hn] at this
theorem k_iastR (C : CallFix p m c cc nL s args gG own) (Wd : wXK D ad ca rf s σ H A H0 locs) {n : Int} {g : Int → Int} {i v : Int} (hn : 0 ≤ n ∧ n < 35) (hg : σ.2.2.2 0 n = g) (hi : 0 ≤ i ∧ i < capI n) (hr : ∀ j : Nat, rng (uZ g i v j)) (hdg : decode cc pc = .ok (.iastore, 1))
    (kk : ∀ (H1 : Heap) (locs1 : List Loc), wXK D ad ca rf s (pZ σ 0 n (uZ g i v)) H1 A H0 locs1 → W p l e R s m args below meth c H1 locs1 cells slots Q (F0 m (pc + 1) ls rest)) : W p l e R s m args below meth c H locs cells slots Q (F0 m pc ls (.int (zI v) :: .int (zI i) :: .ref (ad (rowC n.toNat + 1)) :: rest)) := by
  subst hg
  exact k_iast C Wd.1 _ _ (wK ad ca rf (pZ σ 0 n (uZ (σ.2.2.2 0 n) i v))) (cxRowc hn) (tyR hn) (zI_in (capN hi) (capL n)) (zF_upd (capN hi) (capL n)) (wK_Z0 hn) hdg (fun H1 locs1 W1 => kk H1 locs1 ⟨W1, rpZ Wd.2.1 hr, Wd.2.2⟩)
theorem k_iastI (C : CallFix p m c cc nL s args gG own) (Wd : wXK D ad ca rf s σ H A H0 locs) {n : Int} {g : Int → Int} {i v : Int} (hn : 0 ≤ n ∧ n < 6) (hg : σ.2.2.2 1 n = g) (hi : 0 ≤ i ∧ i < 8) (hr : ∀ j : Nat, rng (uZ g i v j)) (hdg : decode cc pc = .ok (.iastore, 1))
    (kk : ∀ (H1 : Heap) (locs1 : List Loc), wXK D ad ca rf s (pZ σ 1 n (uZ g i v)) H1 A H0 locs1 → W p l e R s m args below meth c H1 locs1 cells slots Q (F0 m (pc + 1) ls rest)) : W p l e R s m args below meth c H locs cells slots Q (F0 m pc ls (.int (zI v) :: .int (zI i) :: .ref (ad (227 + n.toNat)) :: rest)) := by
  subst hg
  exact k_iast C Wd.1 _ _ (wK ad ca rf (pZ σ 1 n (uZ (σ.2.2.2 1 n) i v))) (cxItem hn) (tyI hn) (zI_in (n := 8) hi (by decide)) (zF_upd (n := 8) hi (by decide)) (wK_Z1 hn) hdg (fun H1 locs1 W1 => kk H1 locs1 ⟨W1, rpZ Wd.2.1 hr, Wd.2.2⟩)
theorem k_lenR (C : CallFix p m c cc nL s args gG own) (Wd : wXK D ad ca rf s σ H A H0 locs) {n : Int} (hn : 0 ≤ n ∧ n < 35) (hdg : decode cc pc = .ok (.arraylength, 1))
    (kk : W p l e R s m args below meth c H locs cells slots Q (F0 m (pc + 1) ls (.int (zI (capI n)) :: rest))) : W p l e R s m args below meth c H locs cells slots Q (F0 m pc ls (.ref (ad (rowC n.toNat + 1)) :: rest)) :=
  k_alen C Wd.1 _ _ (cxRowc hn) (tyR hn) (by
    show Int32.ofNat (capI n).toNat = zI (capI n)
    unfold zI
    have := capI_pos n
    rw [show capI n = (((capI n).toNat : Nat) : Int) from (Int.toNat_of_nonneg this.1).symm]
    rfl) hdg kk
theorem k_copyR (C : CallFix p m c cc nL s args gG own) (hls : ls.size = nL) (Wd : wXK D ad ca rf s σ H A H0 locs) (h1 : Cond.methodLink own index arraycopyName ∈ gG) (h2 : Cond.native arraycopyName ∈ gG) (h3 : Cond.static arraycopyName ∈ gG) (h4 : Cond.initialized "java/lang/System" ∈ gG) {a b : Int} (ha : 0 ≤ a ∧ a < 35) (hb : 0 ≤ b ∧ b < 35) {sp dp n : Int} {f g : Int → Int} (hf : σ.2.2.2 0 a = f) (hg : σ.2.2.2 0 b = g) (hc : 0 ≤ sp ∧ 0 ≤ dp ∧ 0 ≤ n ∧ sp + n ≤ capI a ∧ dp + n ≤ capI b) (hframes : 1 ≤ R.frames) (hlocals : (rest.map fun v => v.category).sum + (nativeFrameWords "java/lang/System" "arraycopy" 5 + 11) ≤ R.locals) (hdg : decode cc pc = .ok (.invokestatic index, 3))
    (kk : ∀ (H1 : Heap) (locs1 : List Loc), wXK D ad ca rf s (pZ σ 0 b (cpI f g sp dp n)) H1 A H0 locs1 → W p l e R s m args below meth c H1 locs1 cells slots Q (F0 m (pc + 3) ls rest)) : W p l e R s m args below meth c H locs cells slots Q (F0 m pc ls (.int (zI n) :: .int (zI dp) :: .ref (ad (rowC b.toNat + 1)) :: .int (zI sp) :: .ref (ad (rowC a.toNat + 1)) :: rest)) := by
  subst hf; subst hg
  have q1 := capI_pos a
  have q2 := capI_pos b
  have gs : rng sp := ⟨by omega, by omega⟩
  have gd : rng dp := ⟨by omega, by omega⟩
  have gn : rng n := ⟨by omega, by omega⟩
  have t1 : (zI sp).toNatClampNeg = sp.toNat := zI_nat (n := 2147483648) ⟨by omega, by omega⟩ (Nat.le_refl _)
  have t2 : (zI dp).toNatClampNeg = dp.toNat := zI_nat (n := 2147483648) ⟨by omega, by omega⟩ (Nat.le_refl _)
  have t3 : (zI n).toNatClampNeg = n.toNat := zI_nat (n := 2147483648) ⟨by omega, by omega⟩ (Nat.le_refl _)
  exact k_copy C hls Wd.1 h1 h2 h3 h4 _ _ _ _ (wK ad ca rf (pZ σ 0 b (cpI (σ.2.2.2 0 a) (σ.2.2.2 0 b) sp dp n))) (cxRowc ha) (cxRowc hb) (tyR ha) (tyR hb) (fun q => by have := z0_lt gs q; omega) (fun q => by have := z0_lt gd q; omega) (fun q => by have := z0_lt gn q; omega) (by rw [t1, t3]; omega) (by rw [t2, t3]; omega) (zF_cpy ⟨by omega, by omega⟩ ⟨by omega, by omega⟩ ⟨by omega, by omega⟩) (wK_Z0 hb) hframes hlocals hdg (fun H1 locs1 W1 => kk H1 locs1 ⟨W1, rpZ Wd.2.1 (rcpI (rgZ Wd.2.1 ha) (rgZ Wd.2.1 hb) hc.1), Wd.2.2⟩)
theorem k_slot (C : CallFix p m c cc nL s args gG own) (Wd : wXK D ad ca rf s σ H A H0 locs) {i : Int} (hi : 0 ≤ i ∧ i < 6) (hdg : decode cc pc = .ok (.aaload, 1))
    (kk : W p l e R s m args below meth c H locs cells slots Q (F0 m (pc + 1) ls (.ref (ad (rowC i.toNat)) :: rest))) : W p l e R s m args below meth c H locs cells slots Q (F0 m pc ls (.int (zI i) :: .ref (ad 1) :: rest)) :=
  k_aldq C Wd.1 1 1 (cx1 _) (tC_at' (by decide)) (zI_in (n := 6) hi (by decide)) (by
    rw [zI_nat (n := 6) hi (by decide), Wd.2.2.1 _ (by omega)]
    show Value.ref (ad (101 + 2 * i.toNat)) = _
    unfold rowC
    rw [if_pos (by omega)]) hdg kk
theorem k_rule (C : CallFix p m c cc nL s args gG own) (Wd : wXK D ad ca rf s σ H A H0 locs) {i : Int} (hi : 0 ≤ i ∧ i < 12) (hdg : decode cc pc = .ok (.aaload, 1))
    (kk : W p l e R s m args below meth c H locs cells slots Q (F0 m (pc + 1) ls (.ref (ad (ruleC i.toNat)) :: rest))) : W p l e R s m args below meth c H locs cells slots Q (F0 m pc ls (.int (zI i) :: .ref (ad 67) :: rest)) :=
  k_aldq C Wd.1 67 67 (cx67 _) (tC_at' (by decide)) (zI_in (n := 12) hi (by decide)) (by
    rw [zI_nat (n := 12) hi (by decide), Wd.2.2.2.1 _ (by omega)]
    rfl) hdg kk
theorem k_item (C : CallFix p m c cc nL s args gG own) (Wd : wXK D ad ca rf s σ H A H0 locs) {i : Int} (hi : 0 ≤ i ∧ i < 6) (hdg : decode cc pc = .ok (.aaload, 1))
    (kk : W p l e R s m args below meth c H locs cells slots Q (F0 m (pc + 1) ls (.ref (ad (227 + i.toNat)) :: rest))) : W p l e R s m args below meth c H locs cells slots Q (F0 m pc ls (.int (zI i) :: .ref (ad 68) :: rest)) :=
  k_aldg C Wd.1 68 68 (cx68 _) (tC_at' (by decide)) (zI_in (n := 6) hi (by decide)) (by
    rw [zI_nat (n := 6) hi (by decide), Wd.2.2.2.2.2 _ (by omega)]
    rfl) hdg kk
variable {na nb : Nat}
theorem wK_Z2 {n : Int} {g : Int → Int} (hn : 0 ≤ n ∧ n < 12) : (wK ad ca rf σ).set (ruleC n.toNat + 5) (ad (ruleC n.toNat + 5), .inl (ca (ruleC n.toNat + 5), 3, .inl (zF g))) = wK ad ca rf (pZ σ 2 n g) := by
  have hN : n.toNat < 12 := nNk (N := 12) hn
  refine wK_set (by unfold ruleC NC; omega) ?_ (fun k hk => ?_)
  · have h := cxU5 (ad := ad) (ca := ca) (rf := rf) (σ := pZ σ 2 n g) hn
    rw [wN_at (by unfold ruleC NC; omega)] at h
    rw [Option.some.inj h]
    show (ad (ruleC n.toNat + 5), Sum.inl (ca (ruleC n.toNat + 5), 3, Sum.inl (zF (uF (σ.2.2.2 2) n g n)))) = _
    rw [uF_eq]
  · have := cK_Z2 (ad := ad) (ca := ca) (rf := rf) (σ := σ) hN (g := g) hk
    rwa [nIk hn] at this
theorem wK_Z3 {n : Int} {g : Int → Int} (hn : 0 ≤ n ∧ n < 12) : (wK ad ca rf σ).set (ruleC n.toNat + 6) (ad (ruleC n.toNat + 6), .inl (ca (ruleC n.toNat + 6), 3, .inl (zF g))) = wK ad ca rf (pZ σ 3 n g) := by
  have hN : n.toNat < 12 := nNk (N := 12) hn
  refine wK_set (by unfold ruleC NC; omega) ?_ (fun k hk => ?_)
  · have h := cxU6 (ad := ad) (ca := ca) (rf := rf) (σ := pZ σ 3 n g) hn
    rw [wN_at (by unfold ruleC NC; omega)] at h
    rw [Option.some.inj h]
    show (ad (ruleC n.toNat + 6), Sum.inl (ca (ruleC n.toNat + 6), 3, Sum.inl (zF (uF (σ.2.2.2 3) n g n)))) = _
    rw [uF_eq]
  · have := cK_Z3 (ad := ad) (ca := ca) (rf := rf) (σ := σ) hN (g := g) hk
    rwa [nIk hn] at this
theorem wK_Z4 {n : Int} {g : Int → Int} (hn : 0 ≤ n ∧ n < 20) : (wK ad ca rf σ).set (207 + n.toNat) (ad (207 + n.toNat), .inl (ca (207 + n.toNat), 512, .inl (zF g))) = wK ad ca rf (pZ σ 4 n g) := by
  have hN : n.toNat < 20 := nNk (N := 20) hn
  refine wK_set (by unfold NC; omega) ?_ (fun k hk => ?_)
  · have h := cxForm (ad := ad) (ca := ca) (rf := rf) (σ := pZ σ 4 n g) hn
    rw [wN_at (by unfold NC; omega)] at h
    rw [Option.some.inj h]
    show (ad (207 + n.toNat), Sum.inl (ca (207 + n.toNat), 512, Sum.inl (zF (uF (σ.2.2.2 4) n g n)))) = _
    rw [uF_eq]
  · have := cK_Z4 (ad := ad) (ca := ca) (rf := rf) (σ := σ) hN (g := g) hk
    rwa [nIk hn] at this
theorem k_iastU5 (C : CallFix p m c cc nL s args gG own) (Wd : wXK D ad ca rf s σ H A H0 locs) {n : Int} {g : Int → Int} {i v : Int} (hn : 0 ≤ n ∧ n < 12) (hg : σ.2.2.2 2 n = g) (hi : 0 ≤ i ∧ i < 3) (hr : ∀ j : Nat, rng (uZ g i v j)) (hdg : decode cc pc = .ok (.iastore, 1))
    (kk : ∀ (H1 : Heap) (locs1 : List Loc), wXK D ad ca rf s (pZ σ 2 n (uZ g i v)) H1 A H0 locs1 → W p l e R s m args below meth c H1 locs1 cells slots Q (F0 m (pc + 1) ls rest)) : W p l e R s m args below meth c H locs cells slots Q (F0 m pc ls (.int (zI v) :: .int (zI i) :: .ref (ad (ruleC n.toNat + 5)) :: rest)) := by
  subst hg
  exact k_iast C Wd.1 _ _ (wK ad ca rf (pZ σ 2 n (uZ (σ.2.2.2 2 n) i v))) (cxU5 hn) (tyU5 hn) (zI_in (n := 3) hi (by decide)) (zF_upd (n := 3) hi (by decide)) (wK_Z2 hn) hdg (fun H1 locs1 W1 => kk H1 locs1 ⟨W1, rpZ Wd.2.1 hr, Wd.2.2⟩)
theorem k_iastU6 (C : CallFix p m c cc nL s args gG own) (Wd : wXK D ad ca rf s σ H A H0 locs) {n : Int} {g : Int → Int} {i v : Int} (hn : 0 ≤ n ∧ n < 12) (hg : σ.2.2.2 3 n = g) (hi : 0 ≤ i ∧ i < 3) (hr : ∀ j : Nat, rng (uZ g i v j)) (hdg : decode cc pc = .ok (.iastore, 1))
    (kk : ∀ (H1 : Heap) (locs1 : List Loc), wXK D ad ca rf s (pZ σ 3 n (uZ g i v)) H1 A H0 locs1 → W p l e R s m args below meth c H1 locs1 cells slots Q (F0 m (pc + 1) ls rest)) : W p l e R s m args below meth c H locs cells slots Q (F0 m pc ls (.int (zI v) :: .int (zI i) :: .ref (ad (ruleC n.toNat + 6)) :: rest)) := by
  subst hg
  exact k_iast C Wd.1 _ _ (wK ad ca rf (pZ σ 3 n (uZ (σ.2.2.2 3 n) i v))) (cxU6 hn) (tyU6 hn) (zI_in (n := 3) hi (by decide)) (zF_upd (n := 3) hi (by decide)) (wK_Z3 hn) hdg (fun H1 locs1 W1 => kk H1 locs1 ⟨W1, rpZ Wd.2.1 hr, Wd.2.2⟩)
theorem k_iastFm (C : CallFix p m c cc nL s args gG own) (Wd : wXK D ad ca rf s σ H A H0 locs) {n : Int} {g : Int → Int} {i v : Int} (hn : 0 ≤ n ∧ n < 20) (hg : σ.2.2.2 4 n = g) (hi : 0 ≤ i ∧ i < 512) (hr : ∀ j : Nat, rng (uZ g i v j)) (hdg : decode cc pc = .ok (.iastore, 1))
    (kk : ∀ (H1 : Heap) (locs1 : List Loc), wXK D ad ca rf s (pZ σ 4 n (uZ g i v)) H1 A H0 locs1 → W p l e R s m args below meth c H1 locs1 cells slots Q (F0 m (pc + 1) ls rest)) : W p l e R s m args below meth c H locs cells slots Q (F0 m pc ls (.int (zI v) :: .int (zI i) :: .ref (ad (207 + n.toNat)) :: rest)) := by
  subst hg
  exact k_iast C Wd.1 _ _ (wK ad ca rf (pZ σ 4 n (uZ (σ.2.2.2 4 n) i v))) (cxForm hn) (tyForm hn) (zI_in (n := 512) hi (by decide)) (zF_upd (n := 512) hi (by decide)) (wK_Z4 hn) hdg (fun H1 locs1 W1 => kk H1 locs1 ⟨W1, rpZ Wd.2.1 hr, Wd.2.2⟩)
theorem k_copyFS (C : CallFix p m c cc nL s args gG own) (hls : ls.size = nL) (Wd : wXK D ad ca rf s σ H A H0 locs) (h1 : Cond.methodLink own index arraycopyName ∈ gG) (h2 : Cond.native arraycopyName ∈ gG) (h3 : Cond.static arraycopyName ∈ gG) (h4 : Cond.initialized "java/lang/System" ∈ gG) {a : Int} (b : Nat) (hq : b < 101) (ha : 0 ≤ a ∧ a < 20) (he : ∀ f : Int → Int, fixK ad ca rf b (σ.1 b) f = .inl (ca b, nb, .inl (zF f))) (ht : (tC ca)[b]? = some (ca b, .int)) {sp dp n : Int} {f g : Int → Int} (hf : σ.2.2.2 4 a = f) (hg : σ.2.1 b = g) (hnb : nb ≤ 2147483647) (hc : 0 ≤ sp ∧ 0 ≤ dp ∧ 0 ≤ n ∧ sp + n ≤ 512 ∧ dp + n ≤ (nb : Int)) (hframes : 1 ≤ R.frames) (hlocals : (rest.map fun v => v.category).sum + (nativeFrameWords "java/lang/System" "arraycopy" 5 + 11) ≤ R.locals) (hdg : decode cc pc = .ok (.invokestatic index, 3))
    (kk : ∀ (H1 : Heap) (locs1 : List Loc), wXK D ad ca rf s (pF σ b (cpI f g sp dp n)) H1 A H0 locs1 → W p l e R s m args below meth c H1 locs1 cells slots Q (F0 m (pc + 3) ls rest)) : W p l e R s m args below meth c H locs cells slots Q (F0 m pc ls (.int (zI n) :: .int (zI dp) :: .ref (ad b) :: .int (zI sp) :: .ref (ad (207 + a.toNat)) :: rest)) := by
  subst hf; subst hg
  have gs : rng sp := ⟨by omega, by omega⟩
  have gd : rng dp := ⟨by omega, by omega⟩
  have gn : rng n := ⟨by omega, by omega⟩
  have t1 : (zI sp).toNatClampNeg = sp.toNat := zI_nat (n := 2147483648) ⟨by omega, by omega⟩ (Nat.le_refl _)
  have t2 : (zI dp).toNatClampNeg = dp.toNat := zI_nat (n := 2147483648) ⟨by omega, by omega⟩ (Nat.le_refl _)
  have t3 : (zI n).toNatClampNeg = n.toNat := zI_nat (n := 2147483648) ⟨by omega, by omega⟩ (Nat.le_refl _)
  have hb : (wK ad ca rf σ)[b]? = some (ad b, .inl (ca b, nb, .inl (zF (σ.2.1 b)))) := by rw [wN_at (by unfold NC; omega), cK_fix hq, he]
  exact k_copy C hls Wd.1 h1 h2 h3 h4 _ _ _ _ (wK ad ca rf (pF σ b (cpI (σ.2.2.2 4 a) (σ.2.1 b) sp dp n))) (cxForm ha) hb (tyForm ha) ht (fun q => by have := z0_lt gs q; omega) (fun q => by have := z0_lt gd q; omega) (fun q => by have := z0_lt gn q; omega) (by rw [t1, t3]; omega) (by rw [t2, t3]; omega) (zF_cpy ⟨by omega, by omega⟩ ⟨by omega, by omega⟩ ⟨by omega, by omega⟩) (wK_set (by unfold NC; omega) (by
    rw [cK_fix hq]
    show (ad b, fixK ad ca rf b (σ.1 b) (bif Nat.beq b b then cpI (σ.2.2.2 4 a) (σ.2.1 b) sp dp n else σ.2.1 b)) = _
    rw [Nat.beq_refl]
    exact congrArg (Prod.mk (ad b)) (he _)) (fun k hk => cK_pF hk)) hframes hlocals hdg (fun H1 locs1 W1 => kk H1 locs1 ⟨W1, rpF Wd.2.1 (rcpI (rgZ Wd.2.1 ha) (fun j => Wd.2.1.2.1 b j) hc.1), Wd.2.2⟩)
theorem k_copySF (C : CallFix p m c cc nL s args gG own) (hls : ls.size = nL) (Wd : wXK D ad ca rf s σ H A H0 locs) (h1 : Cond.methodLink own index arraycopyName ∈ gG) (h2 : Cond.native arraycopyName ∈ gG) (h3 : Cond.static arraycopyName ∈ gG) (h4 : Cond.initialized "java/lang/System" ∈ gG) (a : Nat) {b : Int} (ha : (wK ad ca rf σ)[a]? = some (ad a, .inl (ca a, na, .inl (zF (σ.2.1 a))))) (ht : (tC ca)[a]? = some (ca a, .int)) (hb : 0 ≤ b ∧ b < 20) {sp dp n : Int} {f g : Int → Int} (hf : σ.2.1 a = f) (hg : σ.2.2.2 4 b = g) (hna : na ≤ 2147483647) (hc : 0 ≤ sp ∧ 0 ≤ dp ∧ 0 ≤ n ∧ sp + n ≤ (na : Int) ∧ dp + n ≤ 512) (hframes : 1 ≤ R.frames) (hlocals : (rest.map fun v => v.category).sum + (nativeFrameWords "java/lang/System" "arraycopy" 5 + 11) ≤ R.locals) (hdg : decode cc pc = .ok (.invokestatic index, 3))
    (kk : ∀ (H1 : Heap) (locs1 : List Loc), wXK D ad ca rf s (pZ σ 4 b (cpI f g sp dp n)) H1 A H0 locs1 → W p l e R s m args below meth c H1 locs1 cells slots Q (F0 m (pc + 3) ls rest)) : W p l e R s m args below meth c H locs cells slots Q (F0 m pc ls (.int (zI n) :: .int (zI dp) :: .ref (ad (207 + b.toNat)) :: .int (zI sp) :: .ref (ad a) :: rest)) := by
  subst hf; subst hg
  have gs : rng sp := ⟨by omega, by omega⟩
  have gd : rng dp := ⟨by omega, by omega⟩
  have gn : rng n := ⟨by omega, by omega⟩
  have t1 : (zI sp).toNatClampNeg = sp.toNat := zI_nat (n := 2147483648) ⟨by omega, by omega⟩ (Nat.le_refl _)
  have t2 : (zI dp).toNatClampNeg = dp.toNat := zI_nat (n := 2147483648) ⟨by omega, by omega⟩ (Nat.le_refl _)
  have t3 : (zI n).toNatClampNeg = n.toNat := zI_nat (n := 2147483648) ⟨by omega, by omega⟩ (Nat.le_refl _)
  exact k_copy C hls Wd.1 h1 h2 h3 h4 _ _ _ _ (wK ad ca rf (pZ σ 4 b (cpI (σ.2.1 a) (σ.2.2.2 4 b) sp dp n))) ha (cxForm hb) ht (tyForm hb) (fun q => by have := z0_lt gs q; omega) (fun q => by have := z0_lt gd q; omega) (fun q => by have := z0_lt gn q; omega) (by rw [t1, t3]; omega) (by rw [t2, t3]; omega) (zF_cpy ⟨by omega, by omega⟩ ⟨by omega, by omega⟩ ⟨by omega, by omega⟩) (wK_Z4 hb) hframes hlocals hdg (fun H1 locs1 W1 => kk H1 locs1 ⟨W1, rpZ Wd.2.1 (rcpI (fun j => Wd.2.1.2.1 a j) (rgZ Wd.2.1 hb) hc.1), Wd.2.2⟩)
theorem k_form (C : CallFix p m c cc nL s args gG own) (Wd : wXK D ad ca rf s σ H A H0 locs) {i : Int} (hi : 0 ≤ i ∧ i < 20) (hdg : decode cc pc = .ok (.aaload, 1))
    (kk : W p l e R s m args below meth c H locs cells slots Q (F0 m (pc + 1) ls (.ref (ad (207 + i.toNat)) :: rest))) : W p l e R s m args below meth c H locs cells slots Q (F0 m pc ls (.int (zI i) :: .ref (ad 30) :: rest)) :=
  k_aldg C Wd.1 30 30 (cx30 _) (tC_at' (by decide)) (zI_in (n := 20) hi (by decide)) (by
    rw [zI_nat (n := 20) hi (by decide), Wd.2.2.2.2.1 _ (by omega)]
    rfl) hdg kk
theorem k_putW12 (C : CallFix p m c cc nL s args gG own) (Wd : wXK D ad ca rf s σ H A H0 locs) {n : Int} (hn : 0 ≤ n ∧ n < 35) (hlink : Cond.fieldLink own index (TX1 0).1 (TX1 0).2.1 (TX1 0).2.2.1 ∈ gG) (hdg : decode cc pc = .ok (.putfield index, 3))
    (kk : ∀ (H1 : Heap) (locs1 : List Loc), wXK D ad ca rf s (pU σ 12 0 n) H1 A H0 locs1 → W p l e R s m args below meth c H1 locs1 cells slots Q (F0 m (pc + 3) ls rest)) : W p l e R s m args below meth c H locs cells slots Q (F0 m pc ls (.ref (ad (rowC n.toNat)) :: .ref (ad 12) :: rest)) :=
  k_putK C Wd KX1 12 0 (by decide) (cx12 _) ((cx12f (pU σ 12 0 n)).trans (by show Sum.inr (1, [rvW ad 12 n, Value.int (zI (σ.1 12 1)), Value.ref (ad 13), Value.ref (ad 14), Value.ref (ad 15), Value.ref (ad 16), Value.ref (ad 17), Value.ref (ad 18), Value.ref (ad 19), Value.ref (ad 20), Value.ref (ad 21), Value.ref (ad 22), Value.ref (ad 23), Value.ref (ad 24)]) = _; rw [rvW_ref hn]; rfl)) (by decide) hlink rfl rfl rfl (by show 0 < 14; decide) ⟨by omega, by omega⟩ hdg kk
theorem k_putW37 (C : CallFix p m c cc nL s args gG own) (Wd : wXK D ad ca rf s σ H A H0 locs) {n : Int} (hn : 0 ≤ n ∧ n < 35) (hlink : Cond.fieldLink own index (TX1 0).1 (TX1 0).2.1 (TX1 0).2.2.1 ∈ gG) (hdg : decode cc pc = .ok (.putfield index, 3))
    (kk : ∀ (H1 : Heap) (locs1 : List Loc), wXK D ad ca rf s (pU σ 37 0 n) H1 A H0 locs1 → W p l e R s m args below meth c H1 locs1 cells slots Q (F0 m (pc + 3) ls rest)) : W p l e R s m args below meth c H locs cells slots Q (F0 m pc ls (.ref (ad (rowC n.toNat)) :: .ref (ad 37) :: rest)) :=
  k_putK C Wd KX1 37 0 (by decide) (cx37 _) ((cx37f (pU σ 37 0 n)).trans (by show Sum.inr (1, [rvW ad 37 n, Value.int (zI (σ.1 37 1)), Value.ref (ad 38), Value.ref (ad 39), Value.ref (ad 40), Value.ref (ad 41), Value.ref (ad 42), Value.ref (ad 43), Value.ref (ad 44), Value.ref (ad 45), Value.ref (ad 46), Value.ref (ad 47), Value.ref (ad 48), Value.ref (ad 49)]) = _; rw [rvW_ref hn]; rfl)) (by decide) hlink rfl rfl rfl (by show 0 < 14; decide) ⟨by omega, by omega⟩ hdg kk
theorem k_putW54 (C : CallFix p m c cc nL s args gG own) (Wd : wXK D ad ca rf s σ H A H0 locs) {n : Int} (hn : 0 ≤ n ∧ n < 35) (hlink : Cond.fieldLink own index (TX1 0).1 (TX1 0).2.1 (TX1 0).2.2.1 ∈ gG) (hdg : decode cc pc = .ok (.putfield index, 3))
    (kk : ∀ (H1 : Heap) (locs1 : List Loc), wXK D ad ca rf s (pU σ 54 0 n) H1 A H0 locs1 → W p l e R s m args below meth c H1 locs1 cells slots Q (F0 m (pc + 3) ls rest)) : W p l e R s m args below meth c H locs cells slots Q (F0 m pc ls (.ref (ad (rowC n.toNat)) :: .ref (ad 54) :: rest)) :=
  k_putK C Wd KX1 54 0 (by decide) (cx54 _) ((cx54f (pU σ 54 0 n)).trans (by show Sum.inr (1, [rvW ad 54 n, Value.int (zI (σ.1 54 1)), Value.ref (ad 55), Value.ref (ad 56), Value.ref (ad 57), Value.ref (ad 58), Value.ref (ad 59), Value.ref (ad 60), Value.ref (ad 61), Value.ref (ad 62), Value.ref (ad 63), Value.ref (ad 64), Value.ref (ad 65), Value.ref (ad 66)]) = _; rw [rvW_ref hn]; rfl)) (by decide) hlink rfl rfl rfl (by show 0 < 14; decide) ⟨by omega, by omega⟩ hdg kk
theorem k_putW71 (C : CallFix p m c cc nL s args gG own) (Wd : wXK D ad ca rf s σ H A H0 locs) {n : Int} (hn : 0 ≤ n ∧ n < 35) (hlink : Cond.fieldLink own index (TX1 0).1 (TX1 0).2.1 (TX1 0).2.2.1 ∈ gG) (hdg : decode cc pc = .ok (.putfield index, 3))
    (kk : ∀ (H1 : Heap) (locs1 : List Loc), wXK D ad ca rf s (pU σ 71 0 n) H1 A H0 locs1 → W p l e R s m args below meth c H1 locs1 cells slots Q (F0 m (pc + 3) ls rest)) : W p l e R s m args below meth c H locs cells slots Q (F0 m pc ls (.ref (ad (rowC n.toNat)) :: .ref (ad 71) :: rest)) :=
  k_putK C Wd KX1 71 0 (by decide) (cx71 _) ((cx71f (pU σ 71 0 n)).trans (by show Sum.inr (1, [rvW ad 71 n, Value.int (zI (σ.1 71 1)), Value.ref (ad 72), Value.ref (ad 73), Value.ref (ad 74), Value.ref (ad 75), Value.ref (ad 76), Value.ref (ad 77), Value.ref (ad 78), Value.ref (ad 79), Value.ref (ad 80), Value.ref (ad 81), Value.ref (ad 82), Value.ref (ad 83)]) = _; rw [rvW_ref hn]; rfl)) (by decide) hlink rfl rfl rfl (by show 0 < 14; decide) ⟨by omega, by omega⟩ hdg kk
theorem k_putW88 (C : CallFix p m c cc nL s args gG own) (Wd : wXK D ad ca rf s σ H A H0 locs) {n : Int} (hn : 0 ≤ n ∧ n < 35) (hlink : Cond.fieldLink own index (TX1 0).1 (TX1 0).2.1 (TX1 0).2.2.1 ∈ gG) (hdg : decode cc pc = .ok (.putfield index, 3))
    (kk : ∀ (H1 : Heap) (locs1 : List Loc), wXK D ad ca rf s (pU σ 88 0 n) H1 A H0 locs1 → W p l e R s m args below meth c H1 locs1 cells slots Q (F0 m (pc + 3) ls rest)) : W p l e R s m args below meth c H locs cells slots Q (F0 m pc ls (.ref (ad (rowC n.toNat)) :: .ref (ad 88) :: rest)) :=
  k_putK C Wd KX1 88 0 (by decide) (cx88 _) ((cx88f (pU σ 88 0 n)).trans (by show Sum.inr (1, [rvW ad 88 n, Value.int (zI (σ.1 88 1)), Value.ref (ad 89), Value.ref (ad 90), Value.ref (ad 91), Value.ref (ad 92), Value.ref (ad 93), Value.ref (ad 94), Value.ref (ad 95), Value.ref (ad 96), Value.ref (ad 97), Value.ref (ad 98), Value.ref (ad 99), Value.ref (ad 100)]) = _; rw [rvW_ref hn]; rfl)) (by decide) hlink rfl rfl rfl (by show 0 < 14; decide) ⟨by omega, by omega⟩ hdg kk
variable {y : MethodName} {bytes : ByteArray} {maxL n : Nat} {ret : Option FieldType} {rm : Room} {As : List Value} {Qc : Array Value → State → Outcome → State → Prop} {mc ms : Nat} {free : Nat → Prop} {st0 : List Value} {b q0 : Nat} {r : vw_C}
theorem k_runVK (C : CallFix p m c cc nL s args gG own) (aks : aK s) (Wd : wXK D ad ca rf s σ H A H0 locs) (cs : csV own index Cn y bytes maxL ret n) (hM : Met l y (Cond.code y bytes maxL ret :: gG) rm (cPre D (tC ca) (wK ad ca rf σ) H.size (.ref b :: As)) Qc mc ms free) (he : (wK ad ca rf σ)[q0]? = some (b, .inr (ci, fs))) (hcl : classes[ci]? = some r) (hcn : r.1 = Cn) (hrc : rm.cells = mc) (hrs : rm.slots = ms) (hR : rm.frames + 1 ≤ R.frames ∧ 8 + (maxL + 11) + rm.locals ≤ R.locals) (hls : ls.size = nL) (hn : As.length = n) (hst : st0 = As.reverse ++ .ref b :: rest) (hW : (rest.map fun v => v.category).sum ≤ 8) (hf : cells + mc ≤ R.cells ∧ slots + ms ≤ R.slots) (hdg : decode cc pc = .ok (.invokevirtual index, 3)) :
    va_Run p l e R s m args below meth c H locs cells slots mc ms (F0 m pc ls st0) rest (Qc (Value.ref b :: As).toArray) free :=
  k_runV C aks Wd.1 cs hM (List.range NC) (wN_all _) ndR (List.range NC) (tC_all ca) q0 ci he hcl hcn hrc hrs hR hls hn hst hW hf hdg
theorem k_runVKS {sown : String} {ix : List Nat} {adK adV : Nat → Nat} {tq : Nat} (C : CallFix p m c cc nL s args gG own) (aks : aK s) (hE : sK sown ix adK adV tq A s s.heap) (Wd : wXK D ad ca rf s σ H A s.heap locs) (cs : csV own index Cn y bytes maxL ret n) (hM : Met l y (Cond.code y bytes maxL ret :: gG) rm (cPS sown ix adK adV tq D (tC ca) (wK ad ca rf σ) H.size (.ref b :: As)) Qc mc ms free) (he : (wK ad ca rf σ)[q0]? = some (b, .inr (ci, fs))) (hcl : classes[ci]? = some r) (hcn : r.1 = Cn) (hrc : rm.cells = mc) (hrs : rm.slots = ms) (hR : rm.frames + 1 ≤ R.frames ∧ 8 + (maxL + 11) + rm.locals ≤ R.locals) (hls : ls.size = nL) (hn : As.length = n) (hst : st0 = As.reverse ++ .ref b :: rest) (hW : (rest.map fun v => v.category).sum ≤ 8) (hf : cells + mc ≤ R.cells ∧ slots + ms ≤ R.slots) (hdg : decode cc pc = .ok (.invokevirtual index, 3)) :
    va_Run p l e R s m args below meth c H locs cells slots mc ms (F0 m pc ls st0) rest (Qc (Value.ref b :: As).toArray) free :=
  k_runVT C aks hE Wd.1 cs hM (List.range NC) (wN_all _) ndR (List.range NC) (tC_all ca) q0 ci he hcl hcn hrc hrs hR hls hn hst hW hf hdg
theorem k_cKi {post : Int → Sg → Prop} {av : Array Value} (Wd : wXK D ad ca rf s σ H A H0 locs)
    (hr : va_Run p l e R s m args below meth c H locs 0 0 0 0 (F0 m pc ls st0) rest (va_Qi (fun (r : Int32) (u : Sg) => (∃ x : Int, r = zI x ∧ rng x ∧ post x u) ∧ rngK u) (fun u t => cB D (va_A (wK ad ca rf σ) H.size) [] (wK ad ca rf u) t) (va_A (wK ad ca rf σ) H.size) av) (va_A (wK ad ca rf σ) H.size))
    (kk : ∀ (x : Int) (u : Sg) (H1 : Heap) (locs1 : List Loc), rng x → post x u → wXK D ad ca rf s u H1 A H0 locs1 → W p l e R s m args below meth c H1 locs1 0 0 Q (F0 m (pc + 3) ls (.int (zI x) :: rest))) : W p l e R s m args below meth c H locs 0 0 Q (F0 m pc ls st0) := by
  refine k_ci (t1 := fun _ => []) (w1 := fun u => wK ad ca rf u) Wd.1 (List.range NC) [] (wN_all _) (wr := []) rfl (by decide) (by intro i hi; cases hi) (cells' := 0) (slots' := 0) (by decide) (by decide) hr (fun r u H1 locs1 hp W1 => ?_)
  obtain ⟨⟨x, rfl, gx, hx⟩, hS⟩ := hp
  exact kk x u H1 locs1 gx hx ⟨by rw [List.append_nil] at W1; exact W1, hS, Wd.2.2⟩
theorem k_cKv {post : Sg → Prop} {av : Array Value} (Wd : wXK D ad ca rf s σ H A H0 locs)
    (hr : va_Run p l e R s m args below meth c H locs 0 0 0 0 (F0 m pc ls st0) rest (va_Qv (fun (u : Sg) => post u ∧ rngK u) (fun u t => cB D (va_A (wK ad ca rf σ) H.size) [] (wK ad ca rf u) t) (va_A (wK ad ca rf σ) H.size) av) (va_A (wK ad ca rf σ) H.size))
    (kk : ∀ (u : Sg) (H1 : Heap) (locs1 : List Loc), post u → wXK D ad ca rf s u H1 A H0 locs1 → W p l e R s m args below meth c H1 locs1 0 0 Q (F0 m (pc + 3) ls rest)) : W p l e R s m args below meth c H locs 0 0 Q (F0 m pc ls st0) := by
  refine k_cv (t1 := fun _ => []) (w1 := fun u => wK ad ca rf u) Wd.1 (List.range NC) [] (wN_all _) (wr := []) rfl (by decide) (by intro i hi; cases hi) (cells' := 0) (slots' := 0) (by decide) (by decide) hr (fun u H1 locs1 hp W1 => ?_)
  exact kk u H1 locs1 hp.1 ⟨by rw [List.append_nil] at W1; exact W1, hp.2, Wd.2.2⟩
theorem k_retKi {post : Int → Sg → Prop} {ty : FieldType} {v : Int32} (C : CallFix p m c cc nL s args gG own) (hr : meth.sig.returnType = some ty) (hlk : meth.locks = false) (hnr : narrow ty (.int v) = .int v) (Wd : wXK D ad ca rf s σ H A s.heap locs) (hp : ∃ x : Int, v = zI x ∧ rng x ∧ post x σ) (hdg : decode cc pc = .ok (.ireturn, 1)) :
    W p l e R s m args below meth c H locs 0 0 (MQ below (va_Qi (fun (r : Int32) (u : Sg) => (∃ x : Int, r = zI x ∧ rng x ∧ post x u) ∧ rngK u) (fun u t => cB D A [] (wK ad ca rf u) t) A) args s 0 0 A) (F0 m pc ls [.int v]) :=
  k_zret (w1 := fun u => wK ad ca rf u) (t1 := fun _ => []) C hr hlk hnr Wd.1 σ ⟨hp, Wd.2.1⟩ (List.range NC) (wN_all _) ndR [] rfl (Nat.le_refl _) (Nat.le_refl _) hdg
theorem k_retKv {post : Sg → Prop} (C : CallFix p m c cc nL s args gG own) (hr : meth.sig.returnType = none) (hlk : meth.locks = false) (Wd : wXK D ad ca rf s σ H A s.heap locs) (hp : post σ) (hdg : decode cc pc = .ok (.return_, 1)) :
    W p l e R s m args below meth c H locs 0 0 (MQ below (va_Qv (fun (u : Sg) => post u ∧ rngK u) (fun u t => cB D A [] (wK ad ca rf u) t) A) args s 0 0 A) (F0 m pc ls []) :=
  k_vret (w1 := fun u => wK ad ca rf u) (t1 := fun _ => []) C hr hlk Wd.1 σ ⟨hp, Wd.2.1⟩ (List.range NC) (wN_all _) ndR [] rfl (Nat.le_refl _) (Nat.le_refl _) hdg
end KK
def rfO (C : Nat → Nat) (ad : Nat → Nat) (n : Int) : Option Nat := if n < 0 then none else some (ad (C n.toNat))
theorem rfO_ref {C : Nat → Nat} {ad : Nat → Nat} {n N : Int} (h : 0 ≤ n ∧ n < N) : rfO C ad n = some (ad (C n.toNat)) := by unfold rfO; rw [if_neg (by omega)]
theorem rfO_nn {C : Nat → Nat} {ad : Nat → Nat} {n : Int} (h : 0 ≤ n) : rfO C ad n = some (ad (C n.toNat)) := by unfold rfO; rw [if_neg (by omega)]
theorem rfO_null {C : Nat → Nat} {ad : Nat → Nat} {n : Int} (h : n < 0) : rfO C ad n = none := by unfold rfO; rw [if_pos h]
def ziushr (x y : Int) : Int := (((zI x).toUInt32 >>> ((zI y).toUInt32 &&& Int32.toUInt32 31)).toInt32).toInt
theorem ziushr_eq (x y : Int) : ((zI x).toUInt32 >>> ((zI y).toUInt32 &&& Int32.toUInt32 31)).toInt32 = zI (ziushr x y) := zI_back _
theorem zmax_eq (x y : Int) (gx : rng x) (gy : rng y) : (if zI x < zI y then zI y else zI x) = zI (max x y) := by
  by_cases h : zI x < zI y
  · rw [if_pos h, Int.max_eq_right (by have := z_lt gx gy h; omega)]
  · rw [if_neg h, Int.max_eq_left (by have := z_nlt gx gy h; omega)]
theorem zmin_eq (x y : Int) (gx : rng x) (gy : rng y) : (if zI y < zI x then zI y else zI x) = zI (min x y) := by
  by_cases h : zI y < zI x
  · rw [if_pos h, Int.min_eq_right (by have := z_lt gy gx h; omega)]
  · rw [if_neg h, Int.min_eq_left (by have := z_nlt gy gx h; omega)]

