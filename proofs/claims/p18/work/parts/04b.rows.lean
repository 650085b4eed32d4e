theorem k_shr0 (x : Int32) : (0 : Int32) >>> x = 0 := by
  first | exact Int32.zero_shiftRight | exact Int32.zero_shiftRight _ | (apply Int32.toBitVec_inj.mp; simp)
theorem k_all6 (f : Nat → Int32) (v : Int32) (h0 : f 0 = v) (h1 : f 1 = v) (h2 : f 2 = v) (h3 : f 3 = v) (h4 : f 4 = v) (h5 : f 5 = v) {i : Int32} (h : vp_in i 6) : f i.toNatClampNeg = v := by
  have hlt : i.toNatClampNeg < 6 := Nat.not_le.mp fun q => h (Or.inr q)
  rcases (by omega : i.toNatClampNeg = 0 ∨ i.toNatClampNeg = 1 ∨ i.toNatClampNeg = 2 ∨ i.toNatClampNeg = 3 ∨ i.toNatClampNeg = 4 ∨ i.toNatClampNeg = 5) with e | e | e | e | e | e <;> rw [e] <;> assumption
theorem k_sub {D : va_G} {tys t1 : List (ClassId × FieldType)} {s : State} {ws w1 : va_W} {H H0 : Heap} {A : Nat → Prop} {locs : List Loc} (Wd : wX D tys s ws H A H0 locs) (is : List Nat) (hI : is.map (fun i => ws[i]?) = w1.map some) (hn : va_nd is = true) (ts : List Nat) (hT : ts.filterMap (fun i => tys[i]?) = t1) : wX D t1 s w1 H A H0 locs := by
  have h1 : is.filterMap (fun i => ws[i]?) = w1 := by
    have := congrArg (List.filterMap id) hI
    rw [List.filterMap_map, List.filterMap_map] at this
    simpa using this
  exact ⟨Wd.1.sub ts hT, Wd.2.1.sub is h1, Wd.2.2.1.sub is hn hI, Wd.2.2.2.1, Wd.2.2.2.2⟩
theorem kz_rng (x : Int32) : -2147483648 ≤ x.toInt ∧ x.toInt < 2147483648 := by
  have h1 := Int32.le_toInt x
  have h2 := Int32.toInt_lt x
  omega
section K2R
variable {p : Program} {l : Launch} {e : Env} {R : Room} {s : State} {m : MethodId} {args : Array Value} {below : List Frame} {meth : Method} {c : Code} {H : Heap} {locs : List Loc} {cells slots : Nat} {Q : State → Prop}
theorem k_cutA {X : Type} (inv : X → Heap → List Loc → Array Slot → Prop) (fr : X → Array Slot → JFrame) {g : JFrame}
    (hJ : ∀ (u : X) (H : Heap) (locs : List Loc) (ls : Array Slot), inv u H locs ls → W p l e R s m args below meth c H locs cells slots Q (fr u ls))
    (k : (∀ (u : X) (H : Heap) (locs : List Loc) (ls : Array Slot), inv u H locs ls → W p l e R s m args below meth c H locs cells slots Q (fr u ls)) → W p l e R s m args below meth c H locs cells slots Q g) : W p l e R s m args below meth c H locs cells slots Q g := k hJ
theorem k_loopA {X : Type} (inv : X → Heap → List Loc → Array Slot → Prop) (fr : X → Array Slot → JFrame) (mu : X → Nat)
    (step : ∀ (u : X) (H : Heap) (locs : List Loc) (ls : Array Slot), inv u H locs ls → (∀ (u' : X) (H' : Heap) (locs' : List Loc) (ls' : Array Slot), inv u' H' locs' ls' → mu u' < mu u → W p l e R s m args below meth c H' locs' cells slots Q (fr u' ls')) → W p l e R s m args below meth c H locs cells slots Q (fr u ls)) :
    ∀ (u : X) (H : Heap) (locs : List Loc) (ls : Array Slot), inv u H locs ls → W p l e R s m args below meth c H locs cells slots Q (fr u ls) := by
  have K : ∀ (n : Nat) (u : X) (H : Heap) (locs : List Loc) (ls : Array Slot), mu u < n → inv u H locs ls → W p l e R s m args below meth c H locs cells slots Q (fr u ls) := by
    intro n
    induction n with
    | zero => intro u H locs ls h; exact absurd h (Nat.not_lt_zero _)
    | succ n ih => intro u H locs ls h hi; exact step u H locs ls hi (fun u' H' locs' ls' hi' hm => ih u' H' locs' ls' (by omega) hi')
  exact fun u H locs ls hi => K _ u H locs ls (Nat.lt_succ_self _) hi
variable {cc : ByteArray} {pc nL : Nat} {ls : Array Slot} {rest : List Value} {D : va_G} {A : Nat → Prop} {tys : List (ClassId × FieldType)} {ws : va_W} {H0 : Heap} {own : String} {index : Nat}
theorem k_copy (C : CallFix p m c cc nL s args gG own) (hls : ls.size = nL) (Wd : wX D tys s ws H A H0 locs) (h1 : Cond.methodLink own index arraycopyName ∈ gG) (h2 : Cond.native arraycopyName ∈ gG) (h3 : Cond.static arraycopyName ∈ gG) (h4 : Cond.initialized "java/lang/System" ∈ gG) (q0 q1 t0 t1 : Nat) {a0 a1 : Nat} {c0 c1 : ClassId} {n0 n1 : Nat} {f g g' : Nat → Int32} (ws' : va_W) (ha0 : ws[q0]? = some (a0, .inl (c0, n0, .inl f))) (ha1 : ws[q1]? = some (a1, .inl (c1, n1, .inl g))) (ht0 : tys[t0]? = some (c0, .int)) (ht1 : tys[t1]? = some (c1, .int)) {sp dp n : Int32} (s1 : ¬ sp < 0) (s2 : ¬ dp < 0) (s3 : ¬ n < 0) (s4 : sp.toNatClampNeg + n.toNatClampNeg ≤ n0) (s5 : dp.toNatClampNeg + n.toNatClampNeg ≤ n1) (hg : va_cpy f g sp.toNatClampNeg dp.toNatClampNeg n.toNatClampNeg = g') (hws : ws.set q1 (a1, .inl (c1, n1, .inl g')) = ws') (hframes : 1 ≤ R.frames) (hlocals : (rest.map fun v => v.category).sum + (nativeFrameWords "java/lang/System" "arraycopy" 5 + 11) ≤ R.locals) (hdg : decode cc pc = .ok (.invokestatic index, 3))
    (kk : ∀ (H1 : Heap) (locs1 : List Loc), wX D tys s ws' H1 A H0 locs1 → W p l e R s m args below meth c H1 locs1 cells slots Q (F0 m (pc + 3) ls rest)) : W p l e R s m args below meth c H locs cells slots Q (F0 m pc ls (.int n :: .int dp :: .ref a1 :: .int sp :: .ref a0 :: rest)) := by
  subst hg
  subst hws
  exact va_copyi C.1 C.2.1 (C.2.2.1.trans hls.symm) C.2.2.2.1 (C.2.2.2.2 _ h1) (C.2.2.2.2 _ h2) (C.2.2.2.2 _ h3) (C.2.2.2.2 _ h4) Wd.1 Wd.2.1 Wd.2.2.1 Wd.2.2.2.1 q0 q1 t0 t1 ha0 ha1 ht0 ht1 rfl s1 s2 s3 s4 s5 (fun _ _ => rfl) hframes hlocals hdg (fun H1 locs1 hP hD hS => kk H1 locs1 ⟨Wd.1, hP, hD, hS, Wd.2.2.2.2⟩)
end K2R
theorem kz_addv {x y v : Int32} (e : x + y = v) (h1 : -2147483648 ≤ x.toInt + y.toInt) (h2 : x.toInt + y.toInt < 2147483648) : v.toInt = x.toInt + y.toInt := by
  have h := kz_addI (a := x) (b := y)
  rw [e] at h
  omega
theorem kz_addc {x k v : Int32} {n : Int} (e : x + k = v) (hk : k.toInt = n) (h1 : -2147483648 ≤ x.toInt + n) (h2 : x.toInt + n < 2147483648) : v.toInt = x.toInt + n := by
  subst hk
  exact kz_addv e h1 h2
theorem kz_cadd {y k v : Int32} {n : Int} (e : k + y = v) (hk : k.toInt = n) (h1 : -2147483648 ≤ n + y.toInt) (h2 : n + y.toInt < 2147483648) : v.toInt = n + y.toInt := by
  subst hk
  exact kz_addv e h1 h2
theorem kz_subv {x y v : Int32} (e : x - y = v) (h1 : -2147483648 ≤ x.toInt - y.toInt) (h2 : x.toInt - y.toInt < 2147483648) : v.toInt = x.toInt - y.toInt := by
  have h := kz_subI (a := x) (b := y)
  rw [e] at h
  omega
theorem kz_subc {x k v : Int32} {n : Int} (e : x - k = v) (hk : k.toInt = n) (h1 : -2147483648 ≤ x.toInt - n) (h2 : x.toInt - n < 2147483648) : v.toInt = x.toInt - n := by
  subst hk
  exact kz_subv e h1 h2
theorem kz_csub {y k v : Int32} {n : Int} (e : k - y = v) (hk : k.toInt = n) (h1 : -2147483648 ≤ n - y.toInt) (h2 : n - y.toInt < 2147483648) : v.toInt = n - y.toInt := by
  subst hk
  exact kz_subv e h1 h2
theorem kz_max {x y v : Int32} (e : (if x < y then y else x) = v) : x.toInt ≤ v.toInt ∧ y.toInt ≤ v.toInt ∧ (v.toInt = x.toInt ∨ v.toInt = y.toInt) := by
  split at e
  · next h => have := kz_lt h; subst e; omega
  · next h => have := kz_nlt h; subst e; omega
theorem kz_min {x y v : Int32} (e : (if y < x then y else x) = v) : v.toInt ≤ x.toInt ∧ v.toInt ≤ y.toInt ∧ (v.toInt = x.toInt ∨ v.toInt = y.toInt) := by
  split at e
  · next h => have := kz_lt h; subst e; omega
  · next h => have := kz_nlt h; subst e; omega
theorem kz_len {n : Nat} {v : Int32} (e : Int32.ofNat n = v) (h : n < 2147483648) : v.toInt = (n : Int) := by
  subst e
  exact nI_toInt h
theorem kz_nn {x : Int32} (h : 0 ≤ x.toInt) : ¬ x < 0 := fun q => by
  have := kz_lt q
  have t : (0 : Int32).toInt = 0 := by decide
  omega
theorem kz_cp {x n : Int32} {m : Nat} (h1 : 0 ≤ x.toInt) (h2 : 0 ≤ n.toInt) (h3 : x.toInt + n.toInt ≤ (m : Int)) : x.toNatClampNeg + n.toNatClampNeg ≤ m := by
  have e1 : (x.toNatClampNeg : Int) = x.toInt := Int.toNat_of_nonneg h1
  have e2 : (n.toNatClampNeg : Int) = n.toInt := Int.toNat_of_nonneg h2
  omega
theorem kz_01 {v : Int32} (h0 : 0 ≤ v.toInt) (h1 : v.toInt ≤ 1) : v = 0 ∨ v = 1 := by
  rcases (by omega : v.toInt = 0 ∨ v.toInt = 1) with h | h
  · exact Or.inl (kz_inj (h.trans (by decide)))
  · exact Or.inr (kz_inj (h.trans (by decide)))
theorem k_nb {v : Int32} (h0 : 0 ≤ v.toInt) (h1 : v.toInt ≤ 1) : narrow .boolean (.int v) = .int v := by
  rcases kz_01 h0 h1 with rfl | rfl <;> rfl
theorem k_fb {v : Int32} (h0 : 0 ≤ v.toInt) (h1 : v.toInt ≤ 1) : fits .boolean (.int v) = true := by
  rcases kz_01 h0 h1 with rfl | rfl <;> rfl
theorem cr_upd {f f' : Nat → Int32} {lo hi : Int} {k : Nat} {x : Int32} (h : ∀ j : Nat, lo ≤ (f j).toInt ∧ (f j).toInt ≤ hi) (e : upd f k x = f') (h1 : lo ≤ x.toInt) (h2 : x.toInt ≤ hi) : ∀ j : Nat, lo ≤ (f' j).toInt ∧ (f' j).toInt ≤ hi := by
  subst e
  intro j
  unfold upd
  split
  · exact ⟨h1, h2⟩
  · exact h j
