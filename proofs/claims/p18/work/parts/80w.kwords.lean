theorem rng_max {x y : Int} (gx : rng x) (gy : rng y) : rng (max x y) := by
  rcases Int.le_total x y with h | h
  · rw [Int.max_eq_right h]; exact gy
  · rw [Int.max_eq_left h]; exact gx
theorem rng_min {x y : Int} (gx : rng x) (gy : rng y) : rng (min x y) := by
  rcases Int.le_total x y with h | h
  · rw [Int.min_eq_left h]; exact gx
  · rw [Int.min_eq_right h]; exact gy
theorem rowC_inj {a b : Nat} (ha : a < 35) (hb : b < 35) (h : rowC a = rowC b) : a = b := by
  unfold rowC at h; split at h <;> split at h <;> omega
theorem rowC_eq {D : va_G} {ad : Nat → Nat} {ca : Nat → ClassId} {rf : Nat → Nat → Option Nat} {s : State} {σ : Sg} {H H0 : Heap} {A : Nat → Prop} {locs : List Loc} (Wd : wX D (tC ca) s (wK ad ca rf σ) H A H0 locs) {a b : Int} (ha : 0 ≤ a ∧ a < 35) (hb : 0 ≤ b ∧ b < 35) (h : ad (rowC a.toNat) = ad (rowC b.toNat)) : a = b := by
  have := Wd.2.2.1.1 _ _ _ _ (cxRow ha) (cxRow hb) h
  have := rowC_inj (nNk (N := 35) ha) (nNk (N := 35) hb) this
  omega
theorem rowC_ne {ad : Nat → Nat} {a b : Int} (h : ¬ ad (rowC a.toNat) = ad (rowC b.toNat)) : a ≠ b := fun q => h (by rw [q])

