theorem k_shr0 (x : Int32) : (0 : Int32) >>> x = 0 := by
  first | exact Int32.zero_shiftRight | exact Int32.zero_shiftRight _ | (apply Int32.toBitVec_inj.mp; simp)
theorem k_all6 (f : Nat → Int32) (v : Int32) (h0 : f 0 = v) (h1 : f 1 = v) (h2 : f 2 = v) (h3 : f 3 = v) (h4 : f 4 = v) (h5 : f 5 = v) {i : Int32} (h : vp_in i 6) : f i.toNatClampNeg = v := by
  have hlt : i.toNatClampNeg < 6 := Nat.not_le.mp fun q => h (Or.inr q)
  rcases (by omega : i.toNatClampNeg = 0 ∨ i.toNatClampNeg = 1 ∨ i.toNatClampNeg = 2 ∨ i.toNatClampNeg = 3 ∨ i.toNatClampNeg = 4 ∨ i.toNatClampNeg = 5) with e | e | e | e | e | e <;> rw [e] <;> assumption
theorem k_sub {D : va_G} {tys t1 : List (ClassId × FieldType)} {s : State} {ws w1 : va_W} {H H0 : Heap} {A : Nat → Prop} {locs : List Loc} (Wd : wX D tys s ws H A H0 locs) (is : List Nat) (hI : is.map (fun i => ws[i]?) = w1.map some) (hn : va_nd is = true) (ts : List Nat) (hT : ts.filterMap (fun i => tys[i]?) = t1) : wX D t1 s w1 H A H0 locs := by
  have h1 : is.filterMap (fun i => ws[i]?) = w1 := by
    have := congrArg (List.filterMap id) hI
    rw [List.filterMap_map, List.filterMap_map] at this
    simpa using this
  exact ⟨Wd.1.sub ts hT, Wd.2.1.sub is h1, Wd.2.2.1.sub is hn hI, Wd.2.2.2.1, Wd.2.2.2.2⟩
theorem kz_rng (x : Int32) : -2147483648 ≤ x.toInt ∧ x.toInt < 2147483648 := by
  have h1 := Int32.le_toInt x
  have h2 := Int32.toInt_lt x
  omega
