theorem kz_shl3 {l v w : Int32} (h0 : 0 ≤ l.toInt) (h1 : l.toInt ≤ 2) (e1 : 3 * l = v) (e2 : 1 <<< (v &&& 31) = w) : 0 ≤ w.toInt ∧ w.toInt ≤ 64 := by
  have hl : l = 0 ∨ l = 1 ∨ l = 2 := by
    rcases (by omega : l.toInt = 0 ∨ l.toInt = 1 ∨ l.toInt = 2) with h | h | h
    · exact Or.inl (kz_inj (h.trans (by decide)))
    · exact Or.inr (Or.inl (kz_inj (h.trans (by decide))))
    · exact Or.inr (Or.inr (kz_inj (h.trans (by decide))))
  rcases hl with rfl | rfl | rfl <;> subst e1 <;> subst e2 <;> decide
