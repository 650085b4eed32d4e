section TS
def fldI (x : va_E) (j : Nat) : Int := match x with
  | .inr q => (match q.2.getD j .null with
    | .int i => i.toInt
    | _ => 0)
  | _ => 0
def fldV (x : va_E) (j : Nat) : Value := match x with
  | .inr q => q.2.getD j .null
  | _ => .null
def arrI (x : va_E) (i : Int) : Int := match x with
  | .inl (_, _, .inl f) => (f i.toNat).toInt
  | _ => 0
def arrR (x : va_E) (i : Nat) : Option Nat := match x with
  | .inl (_, _, .inr (.inr (.inr (.inr f)))) => f i
  | _ => none

theorem fldI_rng (x : va_E) (j : Nat) : rng (fldI x j) := by
  unfold fldI
  split
  · split
    · exact rng_toInt _
    · exact rng0
  · exact rng0
theorem arrI_rng (x : va_E) (i : Int) : rng (arrI x i) := by
  unfold arrI
  split
  · exact rng_toInt _
  · exact rng0
theorem zF_back (f : Nat → Int32) : zF (fun i => (f i.toNat).toInt) = f := by
  funext k
  show zI (f ((k : Int).toNat)).toInt = f k
  rw [← zI_back]
  rfl
theorem arr_back {c : Cl} {a n : Nat} {lo hi : Int} {e : ClassId} (h : kC a (eArr n lo hi e) c) : c = (a, .inl (e, n, .inl (zF (arrI c.2)))) := by
  obtain ⟨x, rfl, f, rfl, -⟩ := h.of
  show (a, Sum.inl (e, n, Sum.inl f)) = (a, Sum.inl (e, n, Sum.inl (zF (fun i => (f i.toNat).toInt))))
  rw [zF_back]
theorem ref_back {c : Cl} {a n : Nat} {e : ClassId} {g : Nat → Nat} (h : kC a (eRef n e g) c) : c = (a, .inl (e, n, .inr (.inr (.inr (.inr (arrR c.2)))))) ∧ ∀ i, i < n → arrR c.2 i = some (g i) := by
  obtain ⟨x, rfl, f, rfl, hf⟩ := h.of
  exact ⟨rfl, hf⟩
theorem eX0_back {c : Cl} {a : Nat} {b0 b1 : Nat} (h : kC a (eX0 b0 b1) c) : c = (a, .inr (0, [.ref b0, .ref b1])) := by
  obtain ⟨x, rfl, rfl⟩ := h.of
  rfl
theorem eX1_back {c : Cl} {a : Nat} {P : Value → Value → Prop} {b2 b3 b4 b5 b6 b7 b8 b9 b10 b11 b12 b13 : Nat} (h : kC a (eX1 P b2 b3 b4 b5 b6 b7 b8 b9 b10 b11 b12 b13) c) : c = (a, .inr (1, [fldV c.2 0, .int (zI (fldI c.2 1)), .ref b2, .ref b3, .ref b4, .ref b5, .ref b6, .ref b7, .ref b8, .ref b9, .ref b10, .ref b11, .ref b12, .ref b13])) := by
  obtain ⟨x, rfl, v0, i1, rfl, -⟩ := h.of
  show (a, Sum.inr (1, [v0, Value.int i1, Value.ref b2, Value.ref b3, Value.ref b4, Value.ref b5, Value.ref b6, Value.ref b7, Value.ref b8, Value.ref b9, Value.ref b10, Value.ref b11, Value.ref b12, Value.ref b13])) = (a, Sum.inr (1, [v0, Value.int (zI i1.toInt), Value.ref b2, Value.ref b3, Value.ref b4, Value.ref b5, Value.ref b6, Value.ref b7, Value.ref b8, Value.ref b9, Value.ref b10, Value.ref b11, Value.ref b12, Value.ref b13]))
  rw [← zI_back i1]
theorem eX2_back {c : Cl} {a : Nat} {b4 b5 : Nat} (h : kC a (eX2 b4 b5) c) : c = (a, .inr (2, [.int (zI (fldI c.2 0)), .int (zI (fldI c.2 1)), .int (zI (fldI c.2 2)), .int (zI (fldI c.2 3)), .ref b4, .ref b5])) := by
  obtain ⟨x, rfl, i0, i1, i2, i3, rfl⟩ := h.of
  show (a, Sum.inr (2, [Value.int i0, Value.int i1, Value.int i2, Value.int i3, Value.ref b4, Value.ref b5])) = (a, Sum.inr (2, [Value.int (zI i0.toInt), Value.int (zI i1.toInt), Value.int (zI i2.toInt), Value.int (zI i3.toInt), Value.ref b4, Value.ref b5]))
  rw [← zI_back i0, ← zI_back i1, ← zI_back i2, ← zI_back i3]
theorem eX3_back {c : Cl} {a : Nat} {b0 b1 b5 b6 : Nat} (h : kC a (eX3 b0 b1 b5 b6) c) : c = (a, .inr (3, [.ref b0, .ref b1, .int (zI (fldI c.2 2)), .int (zI (fldI c.2 3)), .int (zI (fldI c.2 4)), .ref b5, .ref b6])) := by
  obtain ⟨x, rfl, i2, i3, i4, rfl, -⟩ := h.of
  show (a, Sum.inr (3, [Value.ref b0, Value.ref b1, Value.int i2, Value.int i3, Value.int i4, Value.ref b5, Value.ref b6])) = (a, Sum.inr (3, [Value.ref b0, Value.ref b1, Value.int (zI i2.toInt), Value.int (zI i3.toInt), Value.int (zI i4.toInt), Value.ref b5, Value.ref b6]))
  rw [← zI_back i2, ← zI_back i3, ← zI_back i4]
theorem eX4_back {c : Cl} {a : Nat} {b0 b1 b2 b5 b6 b7 b8 b9 : Nat} (h : kC a (eX4 b0 b1 b2 b5 b6 b7 b8 b9) c) : c = (a, .inr (4, [.ref b0, .ref b1, .ref b2, .int (zI (fldI c.2 3)), .int (zI (fldI c.2 4)), .ref b5, .ref b6, .ref b7, .ref b8, .ref b9])) := by
  obtain ⟨x, rfl, i3, i4, rfl⟩ := h.of
  show (a, Sum.inr (4, [Value.ref b0, Value.ref b1, Value.ref b2, Value.int i3, Value.int i4, Value.ref b5, Value.ref b6, Value.ref b7, Value.ref b8, Value.ref b9])) = (a, Sum.inr (4, [Value.ref b0, Value.ref b1, Value.ref b2, Value.int (zI i3.toInt), Value.int (zI i4.toInt), Value.ref b5, Value.ref b6, Value.ref b7, Value.ref b8, Value.ref b9]))
  rw [← zI_back i3, ← zI_back i4]
theorem eX5_back {c : Cl} {a : Nat} {b2 b3 b4 b5 b6 : Nat} (h : kC a (eX5 b2 b3 b4 b5 b6) c) : c = (a, .inr (5, [.int (zI (fldI c.2 0)), .int (zI (fldI c.2 1)), .ref b2, .ref b3, .ref b4, .ref b5, .ref b6])) := by
  obtain ⟨x, rfl, i0, i1, rfl⟩ := h.of
  show (a, Sum.inr (5, [Value.int i0, Value.int i1, Value.ref b2, Value.ref b3, Value.ref b4, Value.ref b5, Value.ref b6])) = (a, Sum.inr (5, [Value.int (zI i0.toInt), Value.int (zI i1.toInt), Value.ref b2, Value.ref b3, Value.ref b4, Value.ref b5, Value.ref b6]))
  rw [← zI_back i0, ← zI_back i1]
theorem eX7_back {c : Cl} {a : Nat} {b0 b1 b2 b3 : Nat} (h : kC a (eX7 b0 b1 b2 b3) c) : c = (a, .inr (7, [.ref b0, .ref b1, .ref b2, .ref b3, .int (zI (fldI c.2 4))])) := by
  obtain ⟨x, rfl, i4, rfl⟩ := h.of
  show (a, Sum.inr (7, [Value.ref b0, Value.ref b1, Value.ref b2, Value.ref b3, Value.int i4])) = (a, Sum.inr (7, [Value.ref b0, Value.ref b1, Value.ref b2, Value.ref b3, Value.int (zI i4.toInt)]))
  rw [← zI_back i4]
theorem eX8_back {c : Cl} {a : Nat} {n : Nat} {b0 : Nat} (h : kC a (eX8 n b0) c) : c = (a, .inr (8, [.ref b0, .int (zI (fldI c.2 1))])) := by
  obtain ⟨x, rfl, i1, rfl, -⟩ := h.of
  show (a, Sum.inr (8, [Value.ref b0, Value.int i1])) = (a, Sum.inr (8, [Value.ref b0, Value.int (zI i1.toInt)]))
  rw [← zI_back i1]
theorem eX9_back {c : Cl} {a : Nat} {b0 b1 b3 b4 : Nat} (h : kC a (eX9 b0 b1 b3 b4) c) : c = (a, .inr (9, [.ref b0, .ref b1, .int (zI (fldI c.2 2)), .ref b3, .ref b4])) := by
  obtain ⟨x, rfl, i2, rfl⟩ := h.of
  show (a, Sum.inr (9, [Value.ref b0, Value.ref b1, Value.int i2, Value.ref b3, Value.ref b4])) = (a, Sum.inr (9, [Value.ref b0, Value.ref b1, Value.int (zI i2.toInt), Value.ref b3, Value.ref b4]))
  rw [← zI_back i2]
/-- the cells as exact states: kept cells as in σ -/
def sgO (σ : Sg) (cel : Nat → Cl) : Sg := (fun k j => bif kpB k then σ.1 k j else fldI (cel k).2 j, fun k => bif kpB k then σ.2.1 k else arrI (cel k).2, fun c n => bif Nat.beq c 0 then fldI (cel (rowC n.toNat)).2 1 else fldI (cel (ruleC n.toNat)).2 2, fun c n => bif Nat.beq c 0 then arrI (cel (rowC n.toNat + 1)).2 else bif Nat.beq c 1 then arrI (cel (227 + n.toNat)).2 else bif Nat.beq c 2 then arrI (cel (ruleC n.toNat + 5)).2 else bif Nat.beq c 3 then arrI (cel (ruleC n.toNat + 6)).2 else arrI (cel (207 + n.toNat)).2)
def rfX (cel : Nat → Cl) : RFt := (fun k => arrR (cel k).2, fun k => fldV (cel k).2 0)
variable {ad : Nat → Nat} {ca : Nat → ClassId} {rf : RFt} {σ u : Sg} {cel : Nat → Cl} {T : Value → Prop} {P : Nat → Value → Value → Prop}
theorem sgO_rng (h : rngK σ) : rngK (sgO σ cel) := by
  refine ⟨fun q j => ?_, fun q i => ?_, fun c n => ?_, fun c n i => ?_⟩
  · show rng (bif kpB q then σ.1 q j else fldI (cel q).2 j)
    cases kpB q
    · exact fldI_rng _ _
    · exact h.1 q j
  · show rng ((bif kpB q then σ.2.1 q else arrI (cel q).2) i)
    cases kpB q
    · exact arrI_rng _ _
    · exact h.2.1 q i
  · show rng (bif Nat.beq c 0 then fldI (cel (rowC (n : Int).toNat)).2 1 else fldI (cel (ruleC (n : Int).toNat)).2 2)
    cases Nat.beq c 0
    · exact fldI_rng _ _
    · exact fldI_rng _ _
  · show rng ((bif Nat.beq c 0 then arrI (cel (rowC (n : Int).toNat + 1)).2 else bif Nat.beq c 1 then arrI (cel (227 + (n : Int).toNat)).2 else bif Nat.beq c 2 then arrI (cel (ruleC (n : Int).toNat + 5)).2 else bif Nat.beq c 3 then arrI (cel (ruleC (n : Int).toNat + 6)).2 else arrI (cel (207 + (n : Int).toNat)).2) i)
    cases Nat.beq c 0
    · cases Nat.beq c 1
      · cases Nat.beq c 2
        · cases Nat.beq c 3
          · exact arrI_rng _ _
          · exact arrI_rng _ _
        · exact arrI_rng _ _
      · exact arrI_rng _ _
    · exact arrI_rng _ _
theorem rfX_ok (hI : InvC ad ca P cel) : RFok ad (rfX cel) := ⟨(ref_back (fx1 hI)).2, (ref_back (fx67 hI)).2, (ref_back (fx30 hI)).2, (ref_back (fx68 hI)).2⟩
theorem rowC_lo {n : Nat} (h : n < 11) : rowC n = 101 + 2 * n := if_pos h
theorem rowC_odd {r : Nat} : rowC (11 + 2 * r) = 123 + 7 * r + 1 := by
  unfold rowC; rw [if_neg (by omega)]; omega
theorem rowC_even {r : Nat} : rowC (12 + 2 * r) = 123 + 7 * r + 3 := by
  unfold rowC; rw [if_neg (by omega)]; omega
theorem capI_nat (n : Nat) : (capI n).toNat = if n < 8 then 480 else if n < 11 then 1000 else 40 := by
  unfold capI
  by_cases h : n < 8
  · rw [if_pos (show (n : Int) < 8 by omega), if_pos h]; rfl
  · rw [if_neg (show ¬ (n : Int) < 8 by omega), if_neg h]
    by_cases h2 : n < 11
    · rw [if_pos (show (n : Int) < 11 by omega), if_pos h2]; rfl
    · rw [if_neg (show ¬ (n : Int) < 11 by omega), if_neg h2]; rfl
theorem row_cases {n : Nat} (h : n < 35) : n < 11 ∨ (∃ r, r < 12 ∧ n = 11 + 2 * r) ∨ ∃ r, r < 12 ∧ n = 12 + 2 * r := by
  by_cases h1 : n < 11
  · exact Or.inl h1
  · by_cases h2 : (n - 11) % 2 = 0
    · exact Or.inr (Or.inl ⟨(n - 11) / 2, by omega, by omega⟩)
    · exact Or.inr (Or.inr ⟨(n - 11) / 2, by omega, by omega⟩)
theorem shRow (hI : InvC ad ca P cel) {n : Nat} (h : n < 35) : kC (ad (rowC n)) (eX8 (capI n).toNat (ad (rowC n + 1))) (cel (rowC n)) := by
  rw [capI_nat]
  rcases row_cases h with h1 | ⟨r, hr, rfl⟩ | ⟨r, hr, rfl⟩
  · have := frow0 hI h1
    unfold capR at this
    rw [rowC_lo h1]
    by_cases h8 : n < 8
    · rw [if_pos h8] at this ⊢; exact this
    · rw [if_neg h8] at this ⊢; rw [if_pos h1]; exact this
  · rw [rowC_odd, if_neg (by omega), if_neg (by omega)]; exact frule1 hI hr
  · rw [rowC_even, if_neg (by omega), if_neg (by omega)]; exact frule3 hI hr
theorem shRowc (hI : InvC ad ca P cel) {n : Nat} (h : n < 35) : kC (ad (rowC n + 1)) (eArr (capI n).toNat (-2147483648) 2147483647 (ca (rowC n + 1))) (cel (rowC n + 1)) := by
  rw [capI_nat]
  rcases row_cases h with h1 | ⟨r, hr, rfl⟩ | ⟨r, hr, rfl⟩
  · have := frow1 hI h1
    unfold capR at this
    rw [rowC_lo h1]
    by_cases h8 : n < 8
    · rw [if_pos h8] at this ⊢; exact this
    · rw [if_neg h8] at this ⊢; rw [if_pos h1]; exact this
  · rw [rowC_odd, if_neg (by omega), if_neg (by omega)]; exact frule2 hI hr
  · rw [rowC_even, if_neg (by omega), if_neg (by omega)]; exact frule4 hI hr
theorem famK_5 {Y : Nat → Int → Int} {Z : Nat → Int → Int → Int} {r : Nat} (h : r < 12) : famK ad ca (ruleC r + 5) Y Z = .inl (ca (ruleC r + 5), 3, .inl (zF (Z 2 r))) := by
  unfold ruleC famK
  rw [if_neg (by omega), if_pos (by omega), if_neg (by omega), if_neg (by omega), if_neg (by omega), if_neg (by omega), if_neg (by omega), if_pos (by omega), show (123 + 7 * r + 5 - 123) / 7 = r by omega]
theorem famK_6 {Y : Nat → Int → Int} {Z : Nat → Int → Int → Int} {r : Nat} (h : r < 12) : famK ad ca (ruleC r + 6) Y Z = .inl (ca (ruleC r + 6), 3, .inl (zF (Z 3 r))) := by
  unfold ruleC famK
  rw [if_neg (by omega), if_pos (by omega), if_neg (by omega), if_neg (by omega), if_neg (by omega), if_neg (by omega), if_neg (by omega), if_neg (by omega), show (123 + 7 * r + 6 - 123) / 7 = r by omega]
theorem famK_form {Y : Nat → Int → Int} {Z : Nat → Int → Int → Int} {i : Nat} (h : i < 20) : famK ad ca (207 + i) Y Z = .inl (ca (207 + i), 512, .inl (zF (Z 4 i))) := by
  unfold famK
  rw [if_neg (by omega), if_neg (by omega), if_pos (by omega), show 207 + i - 207 = i by omega]
theorem fam_cases {k : Nat} (h1 : 101 ≤ k) (h2 : k < NC) : (∃ n, n < 35 ∧ k = rowC n) ∨ (∃ n, n < 35 ∧ k = rowC n + 1) ∨ (∃ r, r < 12 ∧ k = ruleC r) ∨ (∃ r, r < 12 ∧ k = ruleC r + 5) ∨ (∃ r, r < 12 ∧ k = ruleC r + 6) ∨ (∃ i, i < 20 ∧ k = 207 + i) ∨ ∃ i, i < 6 ∧ k = 227 + i := by
  have h2 : k < 233 := h2
  by_cases c1 : k < 123
  · by_cases c2 : (k - 101) % 2 = 0
    · exact Or.inl ⟨(k - 101) / 2, by omega, by rw [rowC_lo (by omega)]; omega⟩
    · exact Or.inr (Or.inl ⟨(k - 101) / 2, by omega, by rw [rowC_lo (by omega)]; omega⟩)
  by_cases c3 : k < 207
  · have e : k = 123 + 7 * ((k - 123) / 7) + (k - 123) % 7 := by omega
    have r12 : (k - 123) / 7 < 12 := by omega
    generalize (k - 123) / 7 = r at e r12
    have hd : (k - 123) % 7 < 7 := by omega
    generalize (k - 123) % 7 = d at e hd
    match d, hd with
    | 0, _ => exact Or.inr (Or.inr (Or.inl ⟨r, r12, by unfold ruleC; omega⟩))
    | 1, _ => exact Or.inl ⟨11 + 2 * r, by omega, by rw [rowC_odd]; exact e⟩
    | 2, _ => exact Or.inr (Or.inl ⟨11 + 2 * r, by omega, by rw [rowC_odd]; omega⟩)
    | 3, _ => exact Or.inl ⟨12 + 2 * r, by omega, by rw [rowC_even]; exact e⟩
    | 4, _ => exact Or.inr (Or.inl ⟨12 + 2 * r, by omega, by rw [rowC_even]; omega⟩)
    | 5, _ => exact Or.inr (Or.inr (Or.inr (Or.inl ⟨r, r12, by unfold ruleC; omega⟩)))
    | 6, _ => exact Or.inr (Or.inr (Or.inr (Or.inr (Or.inl ⟨r, r12, by unfold ruleC; omega⟩))))
    | d + 7, hd => exact absurd hd (by omega)
  by_cases c4 : k < 227
  · exact Or.inr (Or.inr (Or.inr (Or.inr (Or.inr (Or.inl ⟨k - 207, by omega, by omega⟩)))))
  · exact Or.inr (Or.inr (Or.inr (Or.inr (Or.inr (Or.inr ⟨k - 227, by omega, by omega⟩)))))
theorem kpB_fam {k : Nat} (h : 101 ≤ k) : kpB k = false := by
  unfold kpB
  rw [beqF (by omega), beqF (by omega), beqF (by omega), beqF (by omega), beqF (by omega), beqF (by omega), beqF (by omega), beqF (by omega)]
  rfl
theorem ruleC_ge {r : Nat} : 101 ≤ ruleC r := by unfold ruleC; omega

set_option maxHeartbeats 4000000 in
set_option maxRecDepth 20000 in
theorem sgO_fix (hI : InvC ad ca P cel) (hk : ∀ k, kpB k = true → cel k = cK ad ca rf σ k) : ∀ k, k < 101 → cel k = cK ad ca (rfX cel) (sgO σ cel) k := by
  intro k h
  match k, h with
  | 0, _ => exact (hk 0 rfl).trans rfl
  | 1, _ => exact (ref_back (fx1 hI)).1.trans rfl
  | 2, _ => exact (hk 2 rfl).trans rfl
  | 3, _ => exact (hk 3 rfl).trans rfl
  | 4, _ => exact (hk 4 rfl).trans rfl
  | 5, _ => exact (hk 5 rfl).trans rfl
  | 6, _ => exact (hk 6 rfl).trans rfl
  | 7, _ => exact (hk 7 rfl).trans rfl
  | 8, _ => exact (eX3_back (fx8 hI)).trans rfl
  | 9, _ => exact (arr_back (fx9 hI)).trans rfl
  | 10, _ => exact (arr_back (fx10 hI)).trans rfl
  | 11, _ => exact (arr_back (fx11 hI)).trans rfl
  | 12, _ => exact (eX1_back (fx12 hI)).trans rfl
  | 13, _ => exact (arr_back (fx13 hI)).trans rfl
  | 14, _ => exact (arr_back (fx14 hI)).trans rfl
  | 15, _ => exact (arr_back (fx15 hI)).trans rfl
  | 16, _ => exact (arr_back (fx16 hI)).trans rfl
  | 17, _ => exact (arr_back (fx17 hI)).trans rfl
  | 18, _ => exact (arr_back (fx18 hI)).trans rfl
  | 19, _ => exact (arr_back (fx19 hI)).trans rfl
  | 20, _ => exact (arr_back (fx20 hI)).trans rfl
  | 21, _ => exact (arr_back (fx21 hI)).trans rfl
  | 22, _ => exact (arr_back (fx22 hI)).trans rfl
  | 23, _ => exact (arr_back (fx23 hI)).trans rfl
  | 24, _ => exact (arr_back (fx24 hI)).trans rfl
  | 25, _ => exact (eX5_back (fx25 hI)).trans rfl
  | 26, _ => exact (arr_back (fx26 hI)).trans rfl
  | 27, _ => exact (arr_back (fx27 hI)).trans rfl
  | 28, _ => exact (arr_back (fx28 hI)).trans rfl
  | 29, _ => exact (arr_back (fx29 hI)).trans rfl
  | 30, _ => exact (ref_back (fx30 hI)).1.trans rfl
  | 31, _ => exact (eX4_back (fx31 hI)).trans rfl
  | 32, _ => exact (eX2_back (fx32 hI)).trans rfl
  | 33, _ => exact (eX3_back (fx33 hI)).trans rfl
  | 34, _ => exact (arr_back (fx34 hI)).trans rfl
  | 35, _ => exact (arr_back (fx35 hI)).trans rfl
  | 36, _ => exact (arr_back (fx36 hI)).trans rfl
  | 37, _ => exact (eX1_back (fx37 hI)).trans rfl
  | 38, _ => exact (arr_back (fx38 hI)).trans rfl
  | 39, _ => exact (arr_back (fx39 hI)).trans rfl
  | 40, _ => exact (arr_back (fx40 hI)).trans rfl
  | 41, _ => exact (arr_back (fx41 hI)).trans rfl
  | 42, _ => exact (arr_back (fx42 hI)).trans rfl
  | 43, _ => exact (arr_back (fx43 hI)).trans rfl
  | 44, _ => exact (arr_back (fx44 hI)).trans rfl
  | 45, _ => exact (arr_back (fx45 hI)).trans rfl
  | 46, _ => exact (arr_back (fx46 hI)).trans rfl
  | 47, _ => exact (arr_back (fx47 hI)).trans rfl
  | 48, _ => exact (arr_back (fx48 hI)).trans rfl
  | 49, _ => exact (arr_back (fx49 hI)).trans rfl
  | 50, _ => exact (eX3_back (fx50 hI)).trans rfl
  | 51, _ => exact (arr_back (fx51 hI)).trans rfl
  | 52, _ => exact (arr_back (fx52 hI)).trans rfl
  | 53, _ => exact (arr_back (fx53 hI)).trans rfl
  | 54, _ => exact (eX1_back (fx54 hI)).trans rfl
  | 55, _ => exact (arr_back (fx55 hI)).trans rfl
  | 56, _ => exact (arr_back (fx56 hI)).trans rfl
  | 57, _ => exact (arr_back (fx57 hI)).trans rfl
  | 58, _ => exact (arr_back (fx58 hI)).trans rfl
  | 59, _ => exact (arr_back (fx59 hI)).trans rfl
  | 60, _ => exact (arr_back (fx60 hI)).trans rfl
  | 61, _ => exact (arr_back (fx61 hI)).trans rfl
  | 62, _ => exact (arr_back (fx62 hI)).trans rfl
  | 63, _ => exact (arr_back (fx63 hI)).trans rfl
  | 64, _ => exact (arr_back (fx64 hI)).trans rfl
  | 65, _ => exact (arr_back (fx65 hI)).trans rfl
  | 66, _ => exact (arr_back (fx66 hI)).trans rfl
  | 67, _ => exact (ref_back (fx67 hI)).1.trans rfl
  | 68, _ => exact (ref_back (fx68 hI)).1.trans rfl
  | 69, _ => exact (hk 69 rfl).trans rfl
  | 70, _ => exact (eX0_back (fx70 hI)).trans rfl
  | 71, _ => exact (eX1_back (fx71 hI)).trans rfl
  | 72, _ => exact (arr_back (fx72 hI)).trans rfl
  | 73, _ => exact (arr_back (fx73 hI)).trans rfl
  | 74, _ => exact (arr_back (fx74 hI)).trans rfl
  | 75, _ => exact (arr_back (fx75 hI)).trans rfl
  | 76, _ => exact (arr_back (fx76 hI)).trans rfl
  | 77, _ => exact (arr_back (fx77 hI)).trans rfl
  | 78, _ => exact (arr_back (fx78 hI)).trans rfl
  | 79, _ => exact (arr_back (fx79 hI)).trans rfl
  | 80, _ => exact (arr_back (fx80 hI)).trans rfl
  | 81, _ => exact (arr_back (fx81 hI)).trans rfl
  | 82, _ => exact (arr_back (fx82 hI)).trans rfl
  | 83, _ => exact (arr_back (fx83 hI)).trans rfl
  | 84, _ => exact (eX7_back (fx84 hI)).trans rfl
  | 85, _ => exact (arr_back (fx85 hI)).trans rfl
  | 86, _ => exact (arr_back (fx86 hI)).trans rfl
  | 87, _ => exact (arr_back (fx87 hI)).trans rfl
  | 88, _ => exact (eX1_back (fx88 hI)).trans rfl
  | 89, _ => exact (arr_back (fx89 hI)).trans rfl
  | 90, _ => exact (arr_back (fx90 hI)).trans rfl
  | 91, _ => exact (arr_back (fx91 hI)).trans rfl
  | 92, _ => exact (arr_back (fx92 hI)).trans rfl
  | 93, _ => exact (arr_back (fx93 hI)).trans rfl
  | 94, _ => exact (arr_back (fx94 hI)).trans rfl
  | 95, _ => exact (arr_back (fx95 hI)).trans rfl
  | 96, _ => exact (arr_back (fx96 hI)).trans rfl
  | 97, _ => exact (arr_back (fx97 hI)).trans rfl
  | 98, _ => exact (arr_back (fx98 hI)).trans rfl
  | 99, _ => exact (arr_back (fx99 hI)).trans rfl
  | 100, _ => exact (arr_back (fx100 hI)).trans rfl
  | k + 101, h => exact absurd h (by omega)
theorem sgO_fam (hI : InvC ad ca P cel) : ∀ k, 101 ≤ k → k < NC → cel k = cK ad ca (rfX cel) (sgO σ cel) k := by
  intro k h1 h2
  rw [cK_fam h1]
  rcases fam_cases h1 h2 with ⟨n, hn, rfl⟩ | ⟨n, hn, rfl⟩ | ⟨r, hr, rfl⟩ | ⟨r, hr, rfl⟩ | ⟨r, hr, rfl⟩ | ⟨i, hi, rfl⟩ | ⟨i, hi, rfl⟩
  · rw [famK_row hn]; exact eX8_back (shRow hI hn)
  · rw [famK_rowc hn]; exact arr_back (shRowc hI hn)
  · rw [famK_rule hr]; exact eX9_back (frule0 hI hr)
  · rw [famK_5 hr]; exact arr_back (frule5 hI hr)
  · rw [famK_6 hr]; exact arr_back (frule6 hI hr)
  · rw [famK_form hi]; exact arr_back (fform0 hI hi)
  · rw [famK_item hi]; exact arr_back (fitem0 hI hi)
theorem sgO_cel (hI : InvC ad ca P cel) (hk : ∀ k, kpB k = true → cel k = cK ad ca rf σ k) : ∀ k, k < NC → cel k = cK ad ca (rfX cel) (sgO σ cel) k := by
  intro k h
  by_cases c : k < 101
  · exact sgO_fix hI hk k c
  · exact sgO_fam hI k (by omega) h
theorem InvC_cg {cel' : Nat → Cl} (hI : InvC ad ca P cel) (h : ∀ k, k < NC → cel k = cel' k) : InvC ad ca P cel' := fun k hk => by
  rw [← h k hk]; exact hI k hk
theorem wN_cg {N : Nat} {cel cel' : Nat → Cl} (h : ∀ k, k < N → cel k = cel' k) : wN N cel = wN N cel' := List.map_congr_left (fun k hk => h k (List.mem_range.mp hk))
/-- what a reading method keeps, and what its end must hold -/
def FrX (σ u : Sg) : Prop := (∀ k, k < 101 → kpB k = false → u.1 k = σ.1 k ∧ u.2.1 k = σ.2.1 k) ∧ u.2.2.2 2 = σ.2.2.2 2 ∧ u.2.2.2 3 = σ.2.2.2 3
def OkX (u : Sg) : Prop := RdOk u ∧ RowOk u ∧ (0 ≤ u.1 0 1 ∧ u.1 0 1 ≤ 12) ∧ (0 ≤ u.1 3 1 ∧ u.1 3 1 ≤ 800) ∧ ∀ j : Nat, 0 ≤ u.2.1 69 j ∧ u.2.1 69 j ≤ 8
theorem sh_all (g : rngK σ) {k n : Nat} {e : ClassId} : eArr n (-2147483648) 2147483647 e (.inl (e, n, .inl (zF (σ.2.1 k)))) := ⟨_, rfl, cr_all _⟩
theorem inv_row {n : Nat} {b0 : Nat} {v : Int} (g : rng v) (h : 0 ≤ v ∧ v ≤ (n : Int)) : eX8 n b0 (.inr (8, [.ref b0, .int (zI v)])) := ⟨zI v, rfl, by rw [zI_toInt g]; exact h.1, by rw [zI_toInt g]; exact h.2⟩
theorem inv_fixed (hI : InvC ad ca (pTp T) (cK ad ca rf σ)) (g : rngK u) (fr : FrX σ u) (ok : OkX u) {k : Nat} (h : k < 101) (hk : kpB k = false) : shC ad ca (pTp tTT) k (cK ad ca rf u k) := by
  have e : cK ad ca rf u k = cK ad ca rf σ k := by
    rw [cK_fix h, cK_fix h, (fr.1 k h hk).1, (fr.1 k h hk).2]
  rw [e]
  have hP : pTp T k = pTp tTT k := by
    unfold pTp
    by_cases c3 : k = 3
    · rw [c3] at hk; cases hk
    · rw [beqF c3]; rfl
  have := hI k (Nat.lt_trans h (by decide))
  rw [shP_eq hP] at this
  exact this
theorem ok_cap {n : Nat} (h : n < 35) (ok : RowOk u) (g : rngK u) : 0 ≤ u.2.2.1 0 n ∧ u.2.2.1 0 n ≤ (((capI n).toNat : Nat) : Int) := by
  obtain ⟨a, b⟩ := ok n (by omega) (by omega)
  rw [Int.toNat_of_nonneg (capI_pos n).1]
  exact ⟨a, b⟩
theorem fS_row {n : Nat} (h : n < 35) {x : va_E} (hx : eX8 (capI n).toNat (ad (rowC n + 1)) x) : shC ad ca P (rowC n) (ad (rowC n), x) := by
  refine ⟨rfl, ?_⟩
  show shE ad ca P (rowC n) x
  rw [capI_nat] at hx
  rcases row_cases h with h1 | ⟨r, hr, rfl⟩ | ⟨r, hr, rfl⟩
  · rw [rowC_lo h1] at hx ⊢
    rw [sh_row h1]
    unfold capR
    by_cases h8 : n < 8
    · rw [if_pos h8] at hx ⊢; exact hx
    · rw [if_neg h8, if_pos h1] at hx; rw [if_neg h8]; exact hx
  · rw [rowC_odd] at hx ⊢
    rw [if_neg (by omega), if_neg (by omega)] at hx
    rw [sh_rule1 hr]; exact hx
  · rw [rowC_even] at hx ⊢
    rw [if_neg (by omega), if_neg (by omega)] at hx
    rw [sh_rule3 hr]; exact hx
theorem fS_rowc {n : Nat} (h : n < 35) {x : va_E} (hx : eArr (capI n).toNat (-2147483648) 2147483647 (ca (rowC n + 1)) x) : shC ad ca P (rowC n + 1) (ad (rowC n + 1), x) := by
  refine ⟨rfl, ?_⟩
  show shE ad ca P (rowC n + 1) x
  rw [capI_nat] at hx
  rcases row_cases h with h1 | ⟨r, hr, rfl⟩ | ⟨r, hr, rfl⟩
  · rw [rowC_lo h1] at hx ⊢
    rw [sh_rowc h1]
    unfold capR
    by_cases h8 : n < 8
    · rw [if_pos h8] at hx ⊢; exact hx
    · rw [if_neg h8, if_pos h1] at hx; rw [if_neg h8]; exact hx
  · rw [rowC_odd] at hx ⊢
    rw [if_neg (by omega), if_neg (by omega)] at hx
    rw [show 123 + 7 * r + 1 + 1 = 123 + 7 * r + 2 by omega] at hx ⊢
    rw [sh_rule2 hr]; exact hx
  · rw [rowC_even] at hx ⊢
    rw [if_neg (by omega), if_neg (by omega)] at hx
    rw [show 123 + 7 * r + 3 + 1 = 123 + 7 * r + 4 by omega] at hx ⊢
    rw [sh_rule4 hr]; exact hx
theorem fS_rule {r : Nat} (h : r < 12) {x : va_E} (hx : eX9 (ad (ruleC r + 1)) (ad (ruleC r + 3)) (ad (ruleC r + 5)) (ad (ruleC r + 6)) x) : shC ad ca P (ruleC r) (ad (ruleC r), x) := by
  refine ⟨rfl, ?_⟩
  show shE ad ca P (123 + 7 * r) x
  rw [sh_rule0 h]; exact hx
theorem fS_5 {r : Nat} (h : r < 12) {x : va_E} (hx : eArr 3 (-1) 5000 (ca (ruleC r + 5)) x) : shC ad ca P (ruleC r + 5) (ad (ruleC r + 5), x) := by
  refine ⟨rfl, ?_⟩
  show shE ad ca P (123 + 7 * r + 5) x
  rw [sh_rule5 h]; exact hx
theorem fS_6 {r : Nat} (h : r < 12) {x : va_E} (hx : eArr 3 (-1) 5000 (ca (ruleC r + 6)) x) : shC ad ca P (ruleC r + 6) (ad (ruleC r + 6), x) := by
  refine ⟨rfl, ?_⟩
  show shE ad ca P (123 + 7 * r + 6) x
  rw [sh_rule6 h]; exact hx
theorem fS_form {i : Nat} (h : i < 20) {x : va_E} (hx : eArr 512 (-2147483648) 2147483647 (ca (207 + i)) x) : shC ad ca P (207 + i) (ad (207 + i), x) := by
  refine ⟨rfl, ?_⟩
  show shE ad ca P (207 + i) x
  rw [sh_form h]; exact hx
theorem fS_item {i : Nat} (h : i < 6) {x : va_E} (hx : eArr 8 (-2147483648) 2147483647 (ca (227 + i)) x) : shC ad ca P (227 + i) (ad (227 + i), x) := by
  refine ⟨rfl, ?_⟩
  show shE ad ca P (227 + i) x
  rw [sh_item h]; exact hx
set_option maxHeartbeats 4000000 in
theorem inv_of (hI : InvC ad ca (pTp T) (cK ad ca rf σ)) (g : rngK u) (fr : FrX σ u) (ok : OkX u) : InvC ad ca (pTp tTT) (cK ad ca rf u) := by
  intro k hN
  by_cases hf : k < 101
  · by_cases hk : kpB k = true
    · have hc : k = 0 ∨ k = 2 ∨ k = 3 ∨ k = 4 ∨ k = 5 ∨ k = 6 ∨ k = 7 ∨ k = 69 := by
        unfold kpB at hk
        simp only [Bool.or_eq_true] at hk
        rcases hk with ((((((q | q) | q) | q) | q) | q) | q) | q <;> have := Nat.eq_of_beq_eq_true q <;> omega
      obtain ⟨⟨r1, r2⟩, ⟨r3, r4⟩, r5, r6⟩ := ok.1
      obtain ⟨c0, c12⟩ := ok.2.2.1
      obtain ⟨t0, t8⟩ := ok.2.2.2.1
      have z : ∀ q j, (zI (u.1 q j)).toInt = u.1 q j := fun q j => zI_toInt (g.1 q j)
      rcases hc with rfl | rfl | rfl | rfl | rfl | rfl | rfl | rfl
      · exact ⟨rfl, zI (u.1 0 1), rfl, by rw [z]; exact c0, by rw [z]; exact c12⟩
      · exact ⟨rfl, zI (u.1 2 1), zI (u.1 2 2), rvR ad (u.1 2 3), rvN ruleC ad (u.1 2 4), zI (u.1 2 5), zI (u.1 2 6), zI (u.1 2 7), zI (u.1 2 8), zI (u.1 2 9), zI (u.1 2 10), zI (u.1 2 11), zI (u.1 2 12), zI (u.1 2 13), rfl, ⟨_, rfl⟩, by rw [z]; exact r1, by rw [z]; exact r2, by rw [z]; exact r3, by rw [z]; exact r4, by rw [z]; exact r5, by rw [z]; exact r6⟩
      · exact ⟨rfl, zI (u.1 3 1), zI (u.1 3 2), zI (u.1 3 3), zI (u.1 3 4), zI (u.1 3 5), rfl, trivial, by rw [z]; exact t0, by rw [z]; exact t8⟩
      · exact ⟨rfl, zF (u.2.1 4), rfl, cr_all _⟩
      · exact ⟨rfl, zF (u.2.1 5), rfl, cr_all _⟩
      · exact ⟨rfl, zF (u.2.1 6), rfl, cr_all _⟩
      · exact ⟨rfl, zF (u.2.1 7), rfl, cr_all _⟩
      · refine ⟨rfl, zF (u.2.1 69), rfl, fun j => ?_⟩
        show 0 ≤ (zI (u.2.1 69 j)).toInt ∧ (zI (u.2.1 69 j)).toInt ≤ 8
        rw [zI_toInt (g.2.1 69 j)]
        exact ok.2.2.2.2 j
    · exact inv_fixed hI g fr ok hf (Bool.eq_false_iff.mpr hk)
  · have h1 : 101 ≤ k := by omega
    have hN := hN
    rw [cK_fam h1]
    rcases fam_cases h1 hN with ⟨n, hn, rfl⟩ | ⟨n, hn, rfl⟩ | ⟨r, hr, rfl⟩ | ⟨r, hr, rfl⟩ | ⟨r, hr, rfl⟩ | ⟨i, hi, rfl⟩ | ⟨i, hi, rfl⟩
    · rw [famK_row hn]; exact fS_row hn (inv_row (g.2.2.1 0 n) (ok_cap hn ok.2.1 g))
    · rw [famK_rowc hn]; exact fS_rowc hn ⟨_, rfl, cr_all _⟩
    · rw [famK_rule hr]; exact fS_rule hr ⟨_, rfl⟩
    · have hs := frule5 hI hr
      have e : cK ad ca rf σ (123 + 7 * r + 5) = _ := cK_fam (k := ruleC r + 5) (by have := ruleC_ge (r := r); omega)
      rw [e, famK_5 hr] at hs
      rw [famK_5 hr, fr.2.1]; exact fS_5 hr hs.2
    · have hs := frule6 hI hr
      have e : cK ad ca rf σ (123 + 7 * r + 6) = _ := cK_fam (k := ruleC r + 6) (by have := ruleC_ge (r := r); omega)
      rw [e, famK_6 hr] at hs
      rw [famK_6 hr, fr.2.2]; exact fS_6 hr hs.2
    · rw [famK_form hi]; exact fS_form hi ⟨_, rfl, cr_all _⟩
    · rw [famK_item hi]; exact fS_item hi ⟨_, rfl, cr_all _⟩
theorem ok_of (hI : InvC ad ca P (cK ad ca rf σ)) (g : rngK σ) : OkX σ := by
  have z : ∀ q j, (zI (σ.1 q j)).toInt = σ.1 q j := fun q j => zI_toInt (g.1 q j)
  refine ⟨?_, ?_, ?_, ?_, ?_⟩
  · obtain ⟨-, i1, i2, v3, v4, i5, i6, i7, i8, i9, i10, i11, i12, i13, e, -, a1, a2, a3, a4, a5, a6⟩ := fx2 hI
    have e7 : (zI (σ.1 2 7)).toInt = i7.toInt := congrArg (fun x => fldI x 7) e
    have e9 : (zI (σ.1 2 9)).toInt = i9.toInt := congrArg (fun x => fldI x 9) e
    have e13 : (zI (σ.1 2 13)).toInt = i13.toInt := congrArg (fun x => fldI x 13) e
    rw [z] at e7 e9 e13
    unfold RdOk
    rw [e7, e9, e13]
    exact ⟨⟨a1, a2⟩, ⟨a3, a4⟩, a5, a6⟩
  · intro n n0 n35
    obtain ⟨m, rfl⟩ : ∃ m : Nat, n = m := ⟨n.toNat, (Int.toNat_of_nonneg n0).symm⟩
    have hm : m < 35 := by omega
    obtain ⟨-, i1, e, a1, a2⟩ := shRow hI hm
    rw [cK_fam rowC_ge, famK_row hm] at e
    have e1 : (zI (σ.2.2.1 0 m)).toInt = i1.toInt := congrArg (fun x => fldI x 1) e
    rw [zI_toInt (g.2.2.1 0 m)] at e1
    rw [e1]
    rw [Int.toNat_of_nonneg (capI_pos m).1] at a2
    exact ⟨a1, a2⟩
  · obtain ⟨-, i1, e, a1, a2⟩ := fx0 hI
    have e1 : (zI (σ.1 0 1)).toInt = i1.toInt := congrArg (fun x => fldI x 1) e
    rw [z] at e1
    rw [e1]; exact ⟨a1, a2⟩
  · obtain ⟨-, i1, i2, i3, i4, i5, e, -, a1, a2⟩ := fx3 hI
    have e1 : (zI (σ.1 3 1)).toInt = i1.toInt := congrArg (fun x => fldI x 1) e
    rw [z] at e1
    rw [e1]; exact ⟨a1, a2⟩
  · intro j
    obtain ⟨-, f, e, a⟩ := fx69 hI
    have e1 : (zI (σ.2.1 69 j)).toInt = (f j).toInt := congrArg (fun x => arrI x j) e
    rw [zI_toInt (g.2.1 69 j)] at e1
    rw [e1]; exact a j
end TS
