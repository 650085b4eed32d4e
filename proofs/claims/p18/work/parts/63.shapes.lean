def eArr (n : Nat) (lo hi : Int) (e : ClassId) (x : va_E) : Prop := ∃ f : Nat → Int32, x = .inl (e, n, .inl f) ∧ ∀ j : Nat, lo ≤ (f j).toInt ∧ (f j).toInt ≤ hi
def eRef (n : Nat) (e : ClassId) (g : Nat → Nat) (x : va_E) : Prop := ∃ f : Nat → Option Nat, x = .inl (e, n, .inr (.inr (.inr (.inr f)))) ∧ ∀ i, i < n → f i = some (g i)
def kC (a : Nat) (E : va_E → Prop) (c : Cl) : Prop := c.1 = a ∧ E c.2
theorem kC.of {a : Nat} {E : va_E → Prop} {c : Cl} (h : kC a E c) : ∃ x, c = (a, x) ∧ E x := ⟨c.2, by rw [← h.1], h.2⟩
theorem ShL.cons {p : Cl → Prop} {ps : List (Cl → Prop)} {cs : List Cl} (h : ShL (p :: ps) cs) : ∃ c cs', cs = c :: cs' ∧ p c ∧ ShL ps cs' := by
  cases cs with
  | nil => exact h.elim
  | cons c cs => exact ⟨c, cs, rfl, h.1, h.2⟩
theorem ShL.nil {cs : List Cl} (h : ShL [] cs) : cs = [] := by
  cases cs with
  | nil => rfl
  | cons c cs => exact h.elim
theorem cr_all (f : Nat → Int32) : ∀ j : Nat, (-2147483648 : Int) ≤ (f j).toInt ∧ (f j).toInt ≤ 2147483647 := fun j => by have := kz_rng (f j); omega
def eX0 (b0 b1 : Nat) (x : va_E) : Prop := x = .inr (0, [.ref b0, .ref b1])
def eX1 (P : Value → Value → Prop) (b2 b3 b4 b5 b6 b7 b8 b9 b10 b11 b12 b13 : Nat) (x : va_E) : Prop := ∃ (v0 : Value) (i1 : Int32), x = .inr (1, [v0, .int i1, .ref b2, .ref b3, .ref b4, .ref b5, .ref b6, .ref b7, .ref b8, .ref b9, .ref b10, .ref b11, .ref b12, .ref b13]) ∧ P v0 .null ∧ 0 ≤ i1.toInt ∧ i1.toInt ≤ 40
def eX2 (b4 b5 : Nat) (x : va_E) : Prop := ∃ (i0 : Int32) (i1 : Int32) (i2 : Int32) (i3 : Int32), x = .inr (2, [.int i0, .int i1, .int i2, .int i3, .ref b4, .ref b5])
def eX3 (b0 b1 b5 b6 : Nat) (x : va_E) : Prop := ∃ (i2 : Int32) (i3 : Int32) (i4 : Int32), x = .inr (3, [.ref b0, .ref b1, .int i2, .int i3, .int i4, .ref b5, .ref b6]) ∧ 0 ≤ i2.toInt ∧ i2.toInt ≤ 100
def eX4 (b0 b1 b2 b5 b6 b7 b8 b9 : Nat) (x : va_E) : Prop := ∃ (i3 : Int32) (i4 : Int32), x = .inr (4, [.ref b0, .ref b1, .ref b2, .int i3, .int i4, .ref b5, .ref b6, .ref b7, .ref b8, .ref b9])
def eX5 (b2 b3 b4 b5 b6 : Nat) (x : va_E) : Prop := ∃ (i0 : Int32) (i1 : Int32), x = .inr (5, [.int i0, .int i1, .ref b2, .ref b3, .ref b4, .ref b5, .ref b6])
def eX6 (P : Value → Value → Prop) (b0 b14 b15 b16 : Nat) (x : va_E) : Prop := ∃ (i1 : Int32) (i2 : Int32) (v3 : Value) (v4 : Value) (i5 : Int32) (i6 : Int32) (i7 : Int32) (i8 : Int32) (i9 : Int32) (i10 : Int32) (i11 : Int32) (i12 : Int32) (i13 : Int32), x = .inr (6, [.ref b0, .int i1, .int i2, v3, v4, .int i5, .int i6, .int i7, .int i8, .int i9, .int i10, .int i11, .int i12, .int i13, .ref b14, .ref b15, .ref b16]) ∧ P v3 v4 ∧ 0 ≤ i7.toInt ∧ i7.toInt ≤ 40 ∧ 0 ≤ i9.toInt ∧ i9.toInt ≤ 1000 ∧ 0 ≤ i13.toInt ∧ i13.toInt ≤ 8
def eX7 (b0 b1 b2 b3 : Nat) (x : va_E) : Prop := ∃ (i4 : Int32), x = .inr (7, [.ref b0, .ref b1, .ref b2, .ref b3, .int i4])
def eX8 (n : Nat) (b0 : Nat) (x : va_E) : Prop := ∃ (i1 : Int32), x = .inr (8, [.ref b0, .int i1]) ∧ 0 ≤ i1.toInt ∧ i1.toInt ≤ (n : Int)
def eX9 (b0 b1 b3 b4 : Nat) (x : va_E) : Prop := ∃ (i2 : Int32), x = .inr (9, [.ref b0, .ref b1, .int i2, .ref b3, .ref b4])
def eX10 (P : Value → Value → Prop) (b0 : Nat) (x : va_E) : Prop := ∃ (i1 : Int32) (i2 : Int32) (i3 : Int32) (i4 : Int32) (i5 : Int32), x = .inr (10, [.ref b0, .int i1, .int i2, .int i3, .int i4, .int i5]) ∧ P (.int i1) .null ∧ 0 ≤ i1.toInt ∧ i1.toInt ≤ 800
def eX11 (b0 b2 b3 b4 b5 b6 b7 : Nat) (x : va_E) : Prop := ∃ (i1 : Int32), x = .inr (11, [.ref b0, .int i1, .ref b2, .ref b3, .ref b4, .ref b5, .ref b6, .ref b7]) ∧ 0 ≤ i1.toInt ∧ i1.toInt ≤ 12
def capR (i : Nat) : Nat := if i < 8 then 480 else 1000
def fixE (ad : Nat → Nat) (ca : Nat → ClassId) (P : Nat → Value → Value → Prop) : List (va_E → Prop) := [eX11 (ad 1) (ad 117) (ad 2) (ad 8) (ad 25) (ad 31) (ad 84), eRef 6 (ca 1) (fun i => ad (101 + 2 * i)), eX6 (P 2) (ad 3) (ad 5) (ad 6) (ad 7), eX10 (P 3) (ad 4), eArr 800 (-2147483648) 2147483647 (ca 4), eArr 8 (-2147483648) 2147483647 (ca 5), eArr 8 (-2147483648) 2147483647 (ca 6), eArr 8 (-2147483648) 2147483647 (ca 7), eX3 (ad 12) (ad 9) (ad 10) (ad 11), eArr 100 (-2147483648) 2147483647 (ca 9), eArr 6 (-2147483648) 2147483647 (ca 10), eArr 300 (-2147483648) 2147483647 (ca 11), eX1 (P 12) (ad 13) (ad 14) (ad 15) (ad 16) (ad 17) (ad 18) (ad 19) (ad 20) (ad 21) (ad 22) (ad 23) (ad 24), eArr 40 (-2147483648) 2147483647 (ca 13), eArr 40 (-2147483648) 2147483647 (ca 14), eArr 40 (0) 2000 (ca 15), eArr 40 (0) 2000 (ca 16), eArr 40 (-2147483648) 2147483647 (ca 17), eArr 40 (-2147483648) 2147483647 (ca 18), eArr 40 (-2147483648) 2147483647 (ca 19), eArr 40 (-2147483648) 2147483647 (ca 20), eArr 40 (-2147483648) 2147483647 (ca 21), eArr 40 (-2147483648) 2147483647 (ca 22), eArr 40 (-2147483648) 2147483647 (ca 23), eArr 480 (-2147483648) 2147483647 (ca 24), eX5 (ad 26) (ad 27) (ad 30) (ad 28) (ad 29), eArr 3 (-2147483648) 2147483647 (ca 26), eArr 40 (-2147483648) 2147483647 (ca 27), eArr 512 (-2147483648) 2147483647 (ca 28), eArr 512 (-2147483648) 2147483647 (ca 29), eRef 20 (ca 30) (fun i => ad (207 + i)), eX4 (ad 32) (ad 119) (ad 113) (ad 67) (ad 68) (ad 69) (ad 70) (ad 115), eX2 (ad 33) (ad 50), eX3 (ad 37) (ad 34) (ad 35) (ad 36), eArr 100 (-2147483648) 2147483647 (ca 34), eArr 6 (-2147483648) 2147483647 (ca 35), eArr 300 (-2147483648) 2147483647 (ca 36), eX1 (P 37) (ad 38) (ad 39) (ad 40) (ad 41) (ad 42) (ad 43) (ad 44) (ad 45) (ad 46) (ad 47) (ad 48) (ad 49), eArr 40 (-2147483648) 2147483647 (ca 38), eArr 40 (-2147483648) 2147483647 (ca 39), eArr 40 (0) 2000 (ca 40), eArr 40 (0) 2000 (ca 41), eArr 40 (-2147483648) 2147483647 (ca 42), eArr 40 (-2147483648) 2147483647 (ca 43), eArr 40 (-2147483648) 2147483647 (ca 44), eArr 40 (-2147483648) 2147483647 (ca 45), eArr 40 (-2147483648) 2147483647 (ca 46), eArr 40 (-2147483648) 2147483647 (ca 47), eArr 40 (-2147483648) 2147483647 (ca 48), eArr 480 (-2147483648) 2147483647 (ca 49), eX3 (ad 54) (ad 51) (ad 52) (ad 53), eArr 100 (-2147483648) 2147483647 (ca 51), eArr 6 (-2147483648) 2147483647 (ca 52), eArr 300 (-2147483648) 2147483647 (ca 53), eX1 (P 54) (ad 55) (ad 56) (ad 57) (ad 58) (ad 59) (ad 60) (ad 61) (ad 62) (ad 63) (ad 64) (ad 65) (ad 66), eArr 40 (-2147483648) 2147483647 (ca 55), eArr 40 (-2147483648) 2147483647 (ca 56), eArr 40 (0) 2000 (ca 57), eArr 40 (0) 2000 (ca 58), eArr 40 (-2147483648) 2147483647 (ca 59), eArr 40 (-2147483648) 2147483647 (ca 60), eArr 40 (-2147483648) 2147483647 (ca 61), eArr 40 (-2147483648) 2147483647 (ca 62), eArr 40 (-2147483648) 2147483647 (ca 63), eArr 40 (-2147483648) 2147483647 (ca 64), eArr 40 (-2147483648) 2147483647 (ca 65), eArr 480 (-2147483648) 2147483647 (ca 66), eRef 12 (ca 67) (fun i => ad (123 + 7 * i)), eRef 6 (ca 68) (fun i => ad (227 + i)), eArr 6 (0) 8 (ca 69), eX0 (ad 121) (ad 71), eX1 (P 71) (ad 72) (ad 73) (ad 74) (ad 75) (ad 76) (ad 77) (ad 78) (ad 79) (ad 80) (ad 81) (ad 82) (ad 83), eArr 40 (-2147483648) 2147483647 (ca 72), eArr 40 (-2147483648) 2147483647 (ca 73), eArr 40 (0) 2000 (ca 74), eArr 40 (0) 2000 (ca 75), eArr 40 (-2147483648) 2147483647 (ca 76), eArr 40 (-2147483648) 2147483647 (ca 77), eArr 40 (-2147483648) 2147483647 (ca 78), eArr 40 (-2147483648) 2147483647 (ca 79), eArr 40 (-2147483648) 2147483647 (ca 80), eArr 40 (-2147483648) 2147483647 (ca 81), eArr 40 (-2147483648) 2147483647 (ca 82), eArr 480 (-2147483648) 2147483647 (ca 83), eX7 (ad 88) (ad 85) (ad 86) (ad 87), eArr 6 (-2147483648) 2147483647 (ca 85), eArr 6 (-2147483648) 2147483647 (ca 86), eArr 6 (-2147483648) 2147483647 (ca 87), eX1 (P 88) (ad 89) (ad 90) (ad 91) (ad 92) (ad 93) (ad 94) (ad 95) (ad 96) (ad 97) (ad 98) (ad 99) (ad 100), eArr 40 (-2147483648) 2147483647 (ca 89), eArr 40 (-2147483648) 2147483647 (ca 90), eArr 40 (0) 2000 (ca 91), eArr 40 (0) 2000 (ca 92), eArr 40 (-2147483648) 2147483647 (ca 93), eArr 40 (-2147483648) 2147483647 (ca 94), eArr 40 (-2147483648) 2147483647 (ca 95), eArr 40 (-2147483648) 2147483647 (ca 96), eArr 40 (-2147483648) 2147483647 (ca 97), eArr 40 (-2147483648) 2147483647 (ca 98), eArr 40 (-2147483648) 2147483647 (ca 99), eArr 480 (-2147483648) 2147483647 (ca 100)]
def famE (ad : Nat → Nat) (ca : Nat → ClassId) (k : Nat) : va_E → Prop :=
  if k < 123 then (if (k - 101) % 2 = 0 then eX8 (capR ((k - 101) / 2)) (ad (k + 1)) else eArr (capR ((k - 101) / 2)) (-2147483648) 2147483647 (ca k))
  else if k < 207 then
    (if (k - 123) % 7 = 0 then eX9 (ad (k + 1)) (ad (k + 3)) (ad (k + 5)) (ad (k + 6)) else if (k - 123) % 7 = 1 ∨ (k - 123) % 7 = 3 then eX8 40 (ad (k + 1)) else if (k - 123) % 7 = 2 ∨ (k - 123) % 7 = 4 then eArr 40 (-2147483648) 2147483647 (ca k) else eArr 3 (-1) 5000 (ca k))
  else if k < 227 then eArr 512 (-2147483648) 2147483647 (ca k) else eArr 8 (-2147483648) 2147483647 (ca k)
def shE (ad : Nat → Nat) (ca : Nat → ClassId) (P : Nat → Value → Value → Prop) (k : Nat) : va_E → Prop := if k < 101 then (fixE ad ca P).getD k (fun _ => False) else famE ad ca k
def shC (ad : Nat → Nat) (ca : Nat → ClassId) (P : Nat → Value → Value → Prop) (k : Nat) : Cl → Prop := kC (ad k) (shE ad ca P k)
abbrev NC : Nat := 233
def tyC (k : Nat) : FieldType := if k = 1 then .object RX8 else if k = 67 then .object RX9 else if k = 30 ∨ k = 68 then .array .int else .int
def tC (ca : Nat → ClassId) : List (ClassId × FieldType) := (List.range NC).map (fun k => (ca k, tyC k))
def PR (v _ : Value) : Prop := ∃ q : Nat, v = .ref q
def PTr (_ _ : Value) : Prop := True
def pTp (T : Value → Prop) (k : Nat) : Value → Value → Prop := bif Nat.beq k 2 then PR else bif Nat.beq k 3 then (fun v _ => T v) else PTr
def tTT (_ : Value) : Prop := True
def setP (P : Nat → Value → Value → Prop) (i : Nat) (p : Value → Value → Prop) (k : Nat) : Value → Value → Prop := bif Nat.beq k i then p else P k
def InvC (ad : Nat → Nat) (ca : Nat → ClassId) (P : Nat → Value → Value → Prop) (cel : Nat → Cl) : Prop := ∀ k, k < NC → shC ad ca P k (cel k)
section SHC
variable {ad : Nat → Nat} {ca : Nat → ClassId} {P P' : Nat → Value → Value → Prop}
theorem sh_fam {k : Nat} (h : 101 ≤ k) : shE ad ca P k = famE ad ca k := if_neg (by omega)
theorem sh_row {i : Nat} (h : i < 11) : shE ad ca P (101 + 2 * i) = eX8 (capR i) (ad (101 + 2 * i + 1)) := by
  rw [sh_fam (by omega)]; unfold famE
  rw [if_pos (by omega), if_pos (by omega), show (101 + 2 * i - 101) / 2 = i by omega]
theorem sh_rowc {i : Nat} (h : i < 11) : shE ad ca P (101 + 2 * i + 1) = eArr (capR i) (-2147483648) 2147483647 (ca (101 + 2 * i + 1)) := by
  rw [sh_fam (by omega)]; unfold famE
  rw [if_pos (by omega), if_neg (by omega), show (101 + 2 * i + 1 - 101) / 2 = i by omega]
theorem sh_rule0 {r : Nat} (h : r < 12) : shE ad ca P (123 + 7 * r) = eX9 (ad (123 + 7 * r + 1)) (ad (123 + 7 * r + 3)) (ad (123 + 7 * r + 5)) (ad (123 + 7 * r + 6)) := by
  rw [sh_fam (by omega)]; unfold famE
  rw [if_neg (by omega), if_pos (by omega), if_pos (by omega)]
theorem sh_rule1 {r : Nat} (h : r < 12) : shE ad ca P (123 + 7 * r + 1) = eX8 40 (ad (123 + 7 * r + 1 + 1)) := by
  rw [sh_fam (by omega)]; unfold famE
  rw [if_neg (by omega), if_pos (by omega), if_neg (by omega), if_pos (by omega)]
theorem sh_rule3 {r : Nat} (h : r < 12) : shE ad ca P (123 + 7 * r + 3) = eX8 40 (ad (123 + 7 * r + 3 + 1)) := by
  rw [sh_fam (by omega)]; unfold famE
  rw [if_neg (by omega), if_pos (by omega), if_neg (by omega), if_pos (by omega)]
theorem sh_rule2 {r : Nat} (h : r < 12) : shE ad ca P (123 + 7 * r + 2) = eArr 40 (-2147483648) 2147483647 (ca (123 + 7 * r + 2)) := by
  rw [sh_fam (by omega)]; unfold famE
  rw [if_neg (by omega), if_pos (by omega), if_neg (by omega), if_neg (by omega), if_pos (by omega)]
theorem sh_rule4 {r : Nat} (h : r < 12) : shE ad ca P (123 + 7 * r + 4) = eArr 40 (-2147483648) 2147483647 (ca (123 + 7 * r + 4)) := by
  rw [sh_fam (by omega)]; unfold famE
  rw [if_neg (by omega), if_pos (by omega), if_neg (by omega), if_neg (by omega), if_pos (by omega)]
theorem sh_rule5 {r : Nat} (h : r < 12) : shE ad ca P (123 + 7 * r + 5) = eArr 3 (-1) 5000 (ca (123 + 7 * r + 5)) := by
  rw [sh_fam (by omega)]; unfold famE
  rw [if_neg (by omega), if_pos (by omega), if_neg (by omega), if_neg (by omega), if_neg (by omega)]
theorem sh_rule6 {r : Nat} (h : r < 12) : shE ad ca P (123 + 7 * r + 6) = eArr 3 (-1) 5000 (ca (123 + 7 * r + 6)) := by
  rw [sh_fam (by omega)]; unfold famE
  rw [if_neg (by omega), if_pos (by omega), if_neg (by omega), if_neg (by omega), if_neg (by omega)]
theorem sh_form {i : Nat} (h : i < 20) : shE ad ca P (207 + i) = eArr 512 (-2147483648) 2147483647 (ca (207 + i)) := by
  rw [sh_fam (by omega)]; unfold famE
  rw [if_neg (by omega), if_neg (by omega), if_pos (by omega)]
theorem sh_item {i : Nat} (h : i < 6) : shE ad ca P (227 + i) = eArr 8 (-2147483648) 2147483647 (ca (227 + i)) := by
  rw [sh_fam (by omega)]; unfold famE
  rw [if_neg (by omega), if_neg (by omega), if_neg (by omega)]
theorem tyC_fam {k : Nat} (h : 101 ≤ k) : tyC k = .int := by
  unfold tyC
  rw [if_neg (by omega), if_neg (by omega), if_neg (by omega)]
theorem tC_pick (ks : List Nat) (h : ∀ k ∈ ks, k < NC) : ks.filterMap (fun i => (tC ca)[i]?) = ks.map (fun k => (ca k, tyC k)) := by
  refine fm_of ?_
  rw [List.map_map]
  exact List.map_congr_left (fun k hk => by simp [tC, h k hk])
theorem sh_P {k : Nat} (h : P k = P' k) : shE ad ca P k = shE ad ca P' k := by
  unfold shE
  by_cases hk : k < 101
  · rw [if_pos hk, if_pos hk]
    unfold fixE
    match k, h, hk with
    | 0, h, _ => rfl
    | 1, h, _ => rfl
    | 2, h, _ => exact congrArg (fun z => eX6 z (ad 3) (ad 5) (ad 6) (ad 7)) h
    | 3, h, _ => exact congrArg (fun z => eX10 z (ad 4)) h
    | 4, h, _ => rfl
    | 5, h, _ => rfl
    | 6, h, _ => rfl
    | 7, h, _ => rfl
    | 8, h, _ => rfl
    | 9, h, _ => rfl
    | 10, h, _ => rfl
    | 11, h, _ => rfl
    | 12, h, _ => exact congrArg (fun z => eX1 z (ad 13) (ad 14) (ad 15) (ad 16) (ad 17) (ad 18) (ad 19) (ad 20) (ad 21) (ad 22) (ad 23) (ad 24)) h
    | 13, h, _ => rfl
    | 14, h, _ => rfl
    | 15, h, _ => rfl
    | 16, h, _ => rfl
    | 17, h, _ => rfl
    | 18, h, _ => rfl
    | 19, h, _ => rfl
    | 20, h, _ => rfl
    | 21, h, _ => rfl
    | 22, h, _ => rfl
    | 23, h, _ => rfl
    | 24, h, _ => rfl
    | 25, h, _ => rfl
    | 26, h, _ => rfl
    | 27, h, _ => rfl
    | 28, h, _ => rfl
    | 29, h, _ => rfl
    | 30, h, _ => rfl
    | 31, h, _ => rfl
    | 32, h, _ => rfl
    | 33, h, _ => rfl
    | 34, h, _ => rfl
    | 35, h, _ => rfl
    | 36, h, _ => rfl
    | 37, h, _ => exact congrArg (fun z => eX1 z (ad 38) (ad 39) (ad 40) (ad 41) (ad 42) (ad 43) (ad 44) (ad 45) (ad 46) (ad 47) (ad 48) (ad 49)) h
    | 38, h, _ => rfl
    | 39, h, _ => rfl
    | 40, h, _ => rfl
    | 41, h, _ => rfl
    | 42, h, _ => rfl
    | 43, h, _ => rfl
    | 44, h, _ => rfl
    | 45, h, _ => rfl
    | 46, h, _ => rfl
    | 47, h, _ => rfl
    | 48, h, _ => rfl
    | 49, h, _ => rfl
    | 50, h, _ => rfl
    | 51, h, _ => rfl
    | 52, h, _ => rfl
    | 53, h, _ => rfl
    | 54, h, _ => exact congrArg (fun z => eX1 z (ad 55) (ad 56) (ad 57) (ad 58) (ad 59) (ad 60) (ad 61) (ad 62) (ad 63) (ad 64) (ad 65) (ad 66)) h
    | 55, h, _ => rfl
    | 56, h, _ => rfl
    | 57, h, _ => rfl
    | 58, h, _ => rfl
    | 59, h, _ => rfl
    | 60, h, _ => rfl
    | 61, h, _ => rfl
    | 62, h, _ => rfl
    | 63, h, _ => rfl
    | 64, h, _ => rfl
    | 65, h, _ => rfl
    | 66, h, _ => rfl
    | 67, h, _ => rfl
    | 68, h, _ => rfl
    | 69, h, _ => rfl
    | 70, h, _ => rfl
    | 71, h, _ => exact congrArg (fun z => eX1 z (ad 72) (ad 73) (ad 74) (ad 75) (ad 76) (ad 77) (ad 78) (ad 79) (ad 80) (ad 81) (ad 82) (ad 83)) h
    | 72, h, _ => rfl
    | 73, h, _ => rfl
    | 74, h, _ => rfl
    | 75, h, _ => rfl
    | 76, h, _ => rfl
    | 77, h, _ => rfl
    | 78, h, _ => rfl
    | 79, h, _ => rfl
    | 80, h, _ => rfl
    | 81, h, _ => rfl
    | 82, h, _ => rfl
    | 83, h, _ => rfl
    | 84, h, _ => rfl
    | 85, h, _ => rfl
    | 86, h, _ => rfl
    | 87, h, _ => rfl
    | 88, h, _ => exact congrArg (fun z => eX1 z (ad 89) (ad 90) (ad 91) (ad 92) (ad 93) (ad 94) (ad 95) (ad 96) (ad 97) (ad 98) (ad 99) (ad 100)) h
    | 89, h, _ => rfl
    | 90, h, _ => rfl
    | 91, h, _ => rfl
    | 92, h, _ => rfl
    | 93, h, _ => rfl
    | 94, h, _ => rfl
    | 95, h, _ => rfl
    | 96, h, _ => rfl
    | 97, h, _ => rfl
    | 98, h, _ => rfl
    | 99, h, _ => rfl
    | 100, h, _ => rfl
    | k + 101, _, hk => exact absurd hk (by omega)
  · rw [if_neg hk, if_neg hk]
end SHC
