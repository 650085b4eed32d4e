abbrev classes : List vw_C := [(RX0, TX0, 2), (RX1, TX1, 14), (RX2, TX2, 6), (RX3, TX3, 7), (RX4, TX4, 10), (RX5, TX5, 7), (RX6, TX6, 17), (RX7, TX7, 5), (RX8, TX8, 2), (RX9, TX9, 5), (RX10, TX10, 6), (RX11, TX11, 8), (RX12, TX12, 56)]
/-- what the tables say of arrays over references -/
def aK (U : State) : Prop := va_AO RX8 U ∧ va_AO RX9 U ∧ va_AOA .int U ∧ va_Nw (.methodLinkNest RX7 71 yX11_isVariable RX11) U
theorem va_AOA.moved {ty : FieldType} {u U : State} (hvm : u.vm.Alike U.vm) (h : va_AOA ty u) : va_AOA ty U := by
  obtain ⟨comp, c, k, h1, h2, h3, h4, h5⟩ := Jvm.Stand.arrayOver_specB h
  obtain ⟨k', hk', he⟩ := hvm.2.2 _ _ h3
  have hi0 := (va_idx_bare (vm := U.vm) (comp := comp)).symm.trans ((by first | rw [hvm.bare_eq] | rw [← hvm.bare_eq] : _ = _).trans ((va_idx_bare (vm := u.vm) (comp := comp)).trans h2))
  have hi : (U.vm.classes.findIdx? fun (x : Class) => match x.kind with | .array component _ => component == comp | _ => false) = some c := hi0
  have hkind : k'.kind = .array comp (.array ty) := by rw [he]; exact h4
  have f1 : U.vm.findClass (FieldType.array ty).toString = some comp := by rw [hvm.findClass]; exact h1
  have f2 : U.vm.findClass ("[" ++ (FieldType.array ty).toString) = some c := by rw [hvm.findClass]; exact h5
  unfold va_AOA Cond.before Cond.holds
  simp only [Cond.value]
  rw [f1, Option.bind_some]
  refine (congrArg (fun o : Option Nat => (o.bind (fun c => (U.vm.classes[c]?).map fun (k : Class) => match k.kind with | .array _ ty' => decide (ty' = FieldType.array ty) && decide (U.vm.findClass ("[" ++ (FieldType.array ty).toString) = some c) | _ => false) == some true)) hi).trans ?_
  simp [hk', hkind, f2]
theorem aK.same {u U : State} (hv : u.vm = U.vm) (hvm : u.vm.Alike U.vm) (h : aK u) : aK U := ⟨h.1.moved hvm, h.2.1.moved hvm, h.2.2.1.moved hvm, va_Nw.same (by decide) hv h.2.2.2⟩
theorem aK.warm {u U : State} (hW : u.WarmedH U.vm) (h : aK u) : aK U := ⟨h.1.moved hW.alike, h.2.1.moved hW.alike, h.2.2.1.moved hW.alike, va_Nw.warmM hW h.2.2.2⟩
/-- the world of a walk: cells ws at heap H, the cells that may change A, the heap at the entry H0 -/
def wX (D : va_G) (tys : List (ClassId × FieldType)) (s : State) (ws : va_W) (H : Heap) (A : Nat → Prop) (H0 : Heap) (locs : List Loc) : Prop :=
  va_K D classes tys s ∧ va_P D classes ws H ∧ va_D A ws ∧ va_S A H0 H locs ∧ ∀ q : Nat, H0.size ≤ q → A q
def clsOK (ci : Nat) (C : String) (T : u_T) (N : Nat) (ty : Nat → FieldType) : Prop :=
  classes[ci]? = some (C, T, N) ∧ (∀ w ∈ u_ws C T N, w ∈ gG) ∧ (∀ k, k < N → parseFieldDescriptor (T k).2.2.1 = some (ty k)) ∧ (∀ a, a < N → ∀ b, b < N → a ≠ b → (T a).2.1 ≠ (T b).2.1)
/-- a method's start: arguments av, the cells ws, sz cells in all -/
def cPre (D : va_G) (tys : List (ClassId × FieldType)) (ws : va_W) (sz : Nat) (av : List Value) : Array Value → State → Prop :=
  va_Pc av (fun U => U.heap.size = sz ∧ va_P D classes ws U.heap ∧ va_K D classes tys U ∧ va_D (fun _ => True) ws ∧ aK U)
/-- the world behind a method -/
def cB (D : va_G) (A : Nat → Prop) (tys : List (ClassId × FieldType)) (ws : va_W) (t : State) : Prop := va_P D classes ws t.heap ∧ va_K D classes tys t ∧ va_D A ws
theorem cPre_blind {D : va_G} {tys : List (ClassId × FieldType)} {ws : va_W} {sz : Nat} {av : List Value} : FrameBlind (cPre D tys ws sz av) := by
  intro a U g mk q
  obtain ⟨q0, q1, qP, qK, qD, qA⟩ := q
  exact ⟨q0, q1, qP, va_K.moved (u := U) (U := U.calling g mk a) (Vm.Alike.refl U.vm) qK, qD, aK.same (u := U) (U := U.calling g mk a) rfl (Vm.Alike.refl U.vm) qA⟩
theorem k_enter {D : va_G} {tys : List (ClassId × FieldType)} {ws : va_W} {sz : Nat} {av : List Value} {args : Array Value} {s : State} (h : cPre D tys ws sz av args s) : args = av.toArray ∧ aK s ∧ s.heap.size = sz ∧ wX D tys s ws s.heap (va_A ws sz) s.heap [] := by
  obtain ⟨q0, q1, qP, qK, qD, qA⟩ := h
  exact ⟨q0, qA, q1, qK, qP, qD.self, va_S.rf, fun q h => Or.inr (by rw [← q1]; exact h)⟩
theorem k_pre {D : va_G} {tys tc : List (ClassId × FieldType)} {s : State} {ws wc : va_W} {H H0 : Heap} {A : Nat → Prop} {locs : List Loc} (Wd : wX D tys s ws H A H0 locs) (aks : aK s) (isC : List Nat) (hC : isC.map (fun i => ws[i]?) = wc.map some) (hn : va_nd isC = true) (tC : List Nat) (hT : tC.filterMap (fun i => tys[i]?) = tc) (av : List Value) :
    ∀ U : State, U.heap = H → s.WarmedH U.vm → cPre D tc wc H.size av av.toArray U := by
  intro U hU hW
  have h1 : isC.filterMap (fun i => ws[i]?) = wc := by
    have := congrArg (List.filterMap id) hC
    rw [List.filterMap_map, List.filterMap_map] at this
    simpa using this
  exact ⟨rfl, by rw [hU], by rw [hU]; exact Wd.2.1.sub isC h1, va_K.moved hW.alike (Wd.1.sub tC hT), (Wd.2.2.1.sub isC hn hC).weaken (fun _ _ _ _ => trivial), aK.warm hW aks⟩
section KR
variable {p : Program} {l : Launch} {e : Env} {R : Room} {s : State} {m : MethodId} {args : Array Value} {below : List Frame} {meth : Method} {c : Code} {H : Heap} {locs : List Loc} {cells slots : Nat} {Q : State → Prop}
variable {cc : ByteArray} {pc nL : Nat} {ls : Array Slot} {rest : List Value} {D : va_G} {A : Nat → Prop} {a : Nat} {tys : List (ClassId × FieldType)} {ws : va_W} {H0 : Heap} {own : String}
variable {ci N index : Nat} {Cn : String} {T : u_T} {ty : Nat → FieldType} {fs : List Value}
theorem k_get (C : CallFix p m c cc nL s args gG own) (Wd : wX D tys s ws H A H0 locs) (KC : clsOK ci Cn T N ty) (q0 k : Nat) {v : Value} (he : ws[q0]? = some (a, .inr (ci, fs))) (hk : k < N) (hlink : Cond.fieldLink own index (T k).1 (T k).2.1 (T k).2.2.1 ∈ gG) (hv : fs[k]? = some v) (hdg : decode cc pc = .ok (.getfield index, 3))
    (kk : W p l e R s m args below meth c H locs cells slots Q (F0 m (pc + 3) ls (v :: rest))) : W p l e R s m args below meth c H locs cells slots Q (F0 m pc ls (.ref a :: rest)) :=
  va_get C.1 C.2.1 C.2.2.2.2 KC.2.1 C.2.2.2.1 Wd.1 Wd.2.1 q0 he KC.1 k hk (C.2.2.2.2 _ hlink) (fun _ h => h) hv hdg kk
theorem k_put (C : CallFix p m c cc nL s args gG own) (Wd : wX D tys s ws H A H0 locs) (KC : clsOK ci Cn T N ty) (q0 k : Nat) {v : Value} (ws' : va_W) (he : ws[q0]? = some (a, .inr (ci, fs))) (hk : k < N) (hlink : Cond.fieldLink own index (T k).1 (T k).2.1 (T k).2.2.1 ∈ gG) (hfin : (T k).2.2.2 = false) (hn : narrow (ty k) v = v) (hfit : fits (ty k) v = true) (hl : k < fs.length) (hws : ws.set q0 (a, .inr (ci, fs.set k v)) = ws') (hdg : decode cc pc = .ok (.putfield index, 3))
    (kk : ∀ (H1 : Heap) (locs1 : List Loc), wX D tys s ws' H1 A H0 locs1 → W p l e R s m args below meth c H1 locs1 cells slots Q (F0 m (pc + 3) ls rest)) : W p l e R s m args below meth c H locs cells slots Q (F0 m pc ls (v :: .ref a :: rest)) := by
  subst hws
  exact va_put C.1 C.2.1 C.2.2.2.2 KC.2.1 ty KC.2.2.1 KC.2.2.2 C.2.2.2.1 Wd.1 Wd.2.1 Wd.2.2.1 Wd.2.2.2.1 q0 he KC.1 k hk (C.2.2.2.2 _ hlink) (fun _ h => h) hfin (KC.2.2.1 k hk) hn hfit hl hdg (fun H1 locs1 hP hD hS => kk H1 locs1 ⟨Wd.1, hP, hD, hS, Wd.2.2.2.2⟩)
theorem k_putF (C : CallFix p m c cc nL s args gG own) (Wd : wX D tys s ws H A H0 locs) (KC : clsOK ci Cn T N ty) (q0 k : Nat) {v : Value} (ws' : va_W) (he : ws[q0]? = some (a, .inr (ci, fs))) (hk : k < N) (hlink : Cond.fieldLink own index (T k).1 (T k).2.1 (T k).2.2.1 ∈ gG) (hfin : (T k).2.2.2 = true) (hin : meth.name = "<init>") (hdecl : (T k).1 = own) (hn : narrow (ty k) v = v) (hfit : fits (ty k) v = true) (hl : k < fs.length) (hws : ws.set q0 (a, .inr (ci, fs.set k v)) = ws') (hdg : decode cc pc = .ok (.putfield index, 3))
    (kk : ∀ (H1 : Heap) (locs1 : List Loc), wX D tys s ws' H1 A H0 locs1 → W p l e R s m args below meth c H1 locs1 cells slots Q (F0 m (pc + 3) ls rest)) : W p l e R s m args below meth c H locs cells slots Q (F0 m pc ls (v :: .ref a :: rest)) := by
  subst hws
  exact va_putF C.1 C.2.1 C.2.2.2.2 KC.2.1 ty KC.2.2.1 KC.2.2.2 C.2.2.2.1 Wd.1 Wd.2.1 Wd.2.2.1 Wd.2.2.2.1 q0 he KC.1 k hk (C.2.2.2.2 _ hlink) (fun _ h => h) hfin hin hdecl (KC.2.2.1 k hk) hn hfit hl hdg (fun H1 locs1 hP hD hS => kk H1 locs1 ⟨Wd.1, hP, hD, hS, Wd.2.2.2.2⟩)
theorem k_iald (C : CallFix p m c cc nL s args gG own) (Wd : wX D tys s ws H A H0 locs) (q0 t0 : Nat) {cA : ClassId} {n : Nat} {f : Nat → Int32} (ha : ws[q0]? = some (a, .inl (cA, n, .inl f))) (ht : tys[t0]? = some (cA, .int)) {i v : Int32} (hin : vp_in i n) (hv : f i.toNatClampNeg = v) (hdg : decode cc pc = .ok (.iaload, 1))
    (kk : W p l e R s m args below meth c H locs cells slots Q (F0 m (pc + 1) ls (.int v :: rest))) : W p l e R s m args below meth c H locs cells slots Q (F0 m pc ls (.int i :: .ref a :: rest)) := by
  subst hv
  exact va_iald C.1 C.2.1 Wd.1 Wd.2.1 q0 t0 ha ht hin hdg kk
theorem k_iast (C : CallFix p m c cc nL s args gG own) (Wd : wX D tys s ws H A H0 locs) (q0 t0 : Nat) {cA : ClassId} {n : Nat} {f f' : Nat → Int32} (ws' : va_W) (ha : ws[q0]? = some (a, .inl (cA, n, .inl f))) (ht : tys[t0]? = some (cA, .int)) {i x : Int32} (hin : vp_in i n) (hf : upd f i.toNatClampNeg x = f') (hws : ws.set q0 (a, .inl (cA, n, .inl f')) = ws') (hdg : decode cc pc = .ok (.iastore, 1))
    (kk : ∀ (H1 : Heap) (locs1 : List Loc), wX D tys s ws' H1 A H0 locs1 → W p l e R s m args below meth c H1 locs1 cells slots Q (F0 m (pc + 1) ls rest)) : W p l e R s m args below meth c H locs cells slots Q (F0 m pc ls (.int x :: .int i :: .ref a :: rest)) := by
  subst hf
  subst hws
  exact va_iast C.1 C.2.1 Wd.1 Wd.2.1 Wd.2.2.1 Wd.2.2.2.1 q0 t0 ha ht hin hdg (fun H1 locs1 hP hD hS => kk H1 locs1 ⟨Wd.1, hP, hD, hS, Wd.2.2.2.2⟩)
theorem k_alen (C : CallFix p m c cc nL s args gG own) (Wd : wX D tys s ws H A H0 locs) (q0 t0 : Nat) {cA : ClassId} {x : vp_A} (ha : ws[q0]? = some (a, .inl (cA, x))) {ty : FieldType} (ht : tys[t0]? = some (cA, ty)) {v : Int32} (hv : Int32.ofNat x.1 = v) (hdg : decode cc pc = .ok (.arraylength, 1))
    (kk : W p l e R s m args below meth c H locs cells slots Q (F0 m (pc + 1) ls (.int v :: rest))) : W p l e R s m args below meth c H locs cells slots Q (F0 m pc ls (.ref a :: rest)) :=
  va_alen C.1 C.2.1 Wd.1 Wd.2.1 q0 t0 ha ht hv hdg kk
theorem k_aldq (C : CallFix p m c cc nL s args gG own) (Wd : wX D tys s ws H A H0 locs) (q0 t0 : Nat) {cA : ClassId} {E : String} {n : Nat} {f : Nat → Option Nat} (ha : ws[q0]? = some (a, .inl (cA, n, .inr (.inr (.inr (.inr f)))))) (ht : tys[t0]? = some (cA, .object E)) {i : Int32} {v : Value} (hin : vp_in i n) (hv : va_rf (f i.toNatClampNeg) = v) (hdg : decode cc pc = .ok (.aaload, 1))
    (kk : W p l e R s m args below meth c H locs cells slots Q (F0 m (pc + 1) ls (v :: rest))) : W p l e R s m args below meth c H locs cells slots Q (F0 m pc ls (.int i :: .ref a :: rest)) := by
  subst hv
  exact va_aldq C.1 C.2.1 Wd.1 Wd.2.1 q0 t0 ha ht hin hdg kk
/-- a row out of an array of arrays -/
theorem k_aldg (C : CallFix p m c cc nL s args gG own) (Wd : wX D tys s ws H A H0 locs) (q0 t0 : Nat) {cA : ClassId} {te : FieldType} {n : Nat} {f : Nat → Option Nat} (ha : ws[q0]? = some (a, .inl (cA, n, .inr (.inr (.inr (.inr f)))))) (ht : tys[t0]? = some (cA, .array te)) {i : Int32} {v : Value} (hin : vp_in i n) (hv : va_rf (f i.toNatClampNeg) = v) (hdg : decode cc pc = .ok (.aaload, 1))
    (kk : W p l e R s m args below meth c H locs cells slots Q (F0 m (pc + 1) ls (v :: rest))) : W p l e R s m args below meth c H locs cells slots Q (F0 m pc ls (.int i :: .ref a :: rest)) := by
  subst hv
  have hlt : i.toNatClampNeg < n := Nat.not_le.mp fun q => hin (Or.inr q)
  exact W.aald (v := va_rf (f i.toNatClampNeg)) (ty := .array te) C.1 C.2.1 (Wd.2.1 q0 _ ha) ((Wd.1.2 t0 _ ht).1 n (fun j => va_rf (f j))) rfl (fun q => by cases q) (by show ¬ (i < 0 ∨ (arrV _ _ _).slots.size ≤ _); rw [arrV_size]; exact hin) (by show (arrV _ _ _).slots[_]? = _; rw [arrV_read _ _ hlt]) rfl rfl hdg kk
theorem k_astq (C : CallFix p m c cc nL s args gG own) (Wd : wX D tys s ws H A H0 locs) (q0 t0 qk cj : Nat) {cA : ClassId} {r : vw_C} {n v : Nat} {vs : List Value} {f f' : Nat → Option Nat} (ws' : va_W) (ha : ws[q0]? = some (a, .inl (cA, n, .inr (.inr (.inr (.inr f)))))) (ht : tys[t0]? = some (cA, .object r.1)) (hv : ws[qk]? = some (v, .inr (cj, vs))) (hc : classes[cj]? = some r) {i : Int32} (hin : vp_in i n) (hf : va_up f i.toNatClampNeg (some v) = f') (hws : ws.set q0 (a, .inl (cA, n, .inr (.inr (.inr (.inr f'))))) = ws') (hdg : decode cc pc = .ok (.aastore, 1))
    (kk : ∀ (H1 : Heap) (locs1 : List Loc), wX D tys s ws' H1 A H0 locs1 → W p l e R s m args below meth c H1 locs1 cells slots Q (F0 m (pc + 1) ls rest)) : W p l e R s m args below meth c H locs cells slots Q (F0 m pc ls (.ref v :: .int i :: .ref a :: rest)) := by
  subst hf
  subst hws
  exact va_astq C.1 C.2.1 Wd.1 Wd.2.1 Wd.2.2.1 Wd.2.2.2.1 q0 t0 qk cj ha ht hv hc hin hdg (fun H1 locs1 hP hD hS => kk H1 locs1 ⟨Wd.1, hP, hD, hS, Wd.2.2.2.2⟩)
theorem k_newa (C : CallFix p m c cc nL s args gG own) (Wd : wX D tys s ws H A H0 locs) (harr : Cond.arrayClass (newarray.typeOf .int) ∈ gG) {n : Int32} (N' : Nat) (hn : ¬ n < 0) (hN : n.toNatClampNeg = N') (hbytes : N' * 4 ≤ 536870912) {cells' slots' : Nat} (hcells : cells + 1 ≤ R.cells) (hslots : slots + N' ≤ R.slots) (hc' : cells + 1 ≤ cells') (hs' : slots + N' ≤ slots') (hdg : decode cc pc = .ok (.newarray .int, 2))
    (kk : ∀ (q : Nat) (cA : ClassId) (H1 : Heap), wX D (tys ++ [(cA, .int)]) s (ws ++ [(q, .inl (cA, N', .inl (fun _ => 0)))]) H1 A H0 locs → W p l e R s m args below meth c H1 locs cells' slots' Q (F0 m (pc + 2) ls (.ref q :: rest))) : W p l e R s m args below meth c H locs cells slots Q (F0 m pc ls (.int n :: rest)) :=
  va_newa (a0 := (N', .inl (fun _ => 0))) (ty := .int) C.1 C.2.1 (C.2.2.2.2 _ harr) rfl Wd.1 Wd.2.1 Wd.2.2.1 Wd.2.2.2.1 Wd.2.2.2.2 (fun _ => rfl) hn hN hbytes hcells hslots hdg (fun q cA H1 hK hP hD hS => W.widen hc' hs' (kk q cA H1 ⟨hK, hP, hD, hS, Wd.2.2.2.2⟩))
theorem k_newz (C : CallFix p m c cc nL s args gG own) (Wd : wX D tys s ws H A H0 locs) (harr : Cond.arrayClass (newarray.typeOf .boolean) ∈ gG) {n : Int32} (N' : Nat) (hn : ¬ n < 0) (hN : n.toNatClampNeg = N') (hbytes : N' * componentBytes .boolean ≤ 536870912) {cells' slots' : Nat} (hcells : cells + 1 ≤ R.cells) (hslots : slots + N' ≤ R.slots) (hc' : cells + 1 ≤ cells') (hs' : slots + N' ≤ slots') (hdg : decode cc pc = .ok (.newarray .boolean, 2))
    (kk : ∀ (q : Nat) (cA : ClassId) (H1 : Heap), wX D (tys ++ [(cA, .boolean)]) s (ws ++ [(q, .inl (cA, N', .inl (fun _ => 0)))]) H1 A H0 locs → W p l e R s m args below meth c H1 locs cells' slots' Q (F0 m (pc + 2) ls (.ref q :: rest))) : W p l e R s m args below meth c H locs cells slots Q (F0 m pc ls (.int n :: rest)) :=
  va_newa (a0 := (N', .inl (fun _ => 0))) (ty := .boolean) C.1 C.2.1 (C.2.2.2.2 _ harr) rfl Wd.1 Wd.2.1 Wd.2.2.1 Wd.2.2.2.1 Wd.2.2.2.2 (fun _ => rfl) hn hN hbytes hcells hslots hdg (fun q cA H1 hK hP hD hS => W.widen hc' hs' (kk q cA H1 ⟨hK, hP, hD, hS, Wd.2.2.2.2⟩))
theorem k_newq (C : CallFix p m c cc nL s args gG own) (Wd : wX D tys s ws H A H0 locs) {E : String} (hclink : Cond.classLink own index E ∈ gG) (hover : va_AO E s) {n : Int32} (N' : Nat) (hn : ¬ n < 0) (hN : n.toNatClampNeg = N') (hbytes : N' * 4 ≤ 536870912) {cells' slots' : Nat} (hcells : cells + 1 ≤ R.cells) (hslots : slots + N' ≤ R.slots) (hc' : cells + 1 ≤ cells') (hs' : slots + N' ≤ slots') (hdg : decode cc pc = .ok (.anewarray index, 3))
    (kk : ∀ (q : Nat) (cA : ClassId) (H1 : Heap), wX D (tys ++ [(cA, .object E)]) s (ws ++ [(q, .inl (cA, N', .inr (.inr (.inr (.inr (fun _ => none))))))]) H1 A H0 locs → W p l e R s m args below meth c H1 locs cells' slots' Q (F0 m (pc + 3) ls (.ref q :: rest))) : W p l e R s m args below meth c H locs cells slots Q (F0 m pc ls (.int n :: rest)) :=
  va_newq C.1 C.2.1 C.2.2.2.1 (C.2.2.2.2 _ hclink) hover Wd.1 Wd.2.1 Wd.2.2.1 Wd.2.2.2.1 Wd.2.2.2.2 hn hN hbytes hcells hslots hdg (fun q cA H1 hK hP hD hS => W.widen hc' hs' (kk q cA H1 ⟨hK, hP, hD, hS, Wd.2.2.2.2⟩))
theorem k_new (C : CallFix p m c cc nL s args gG own) (Wd : wX D tys s ws H A H0 locs) (KC : clsOK ci Cn T N ty) (hcl : Cond.classLink own index Cn ∈ gG) (hinst : Cond.instantiable Cn N ∈ gG) (hini : Cond.initialized Cn ∈ gG) (fs : List Value) (hfs : (List.range N).all (fun j => decide (defaultValue (ty j) = vp_V fs j)) = true) {cells' slots' : Nat} (hcells : cells + 1 ≤ R.cells) (hslots : slots + N ≤ R.slots) (hc' : cells + 1 ≤ cells') (hs' : slots + N ≤ slots') (hdg : decode cc pc = .ok (.new index, 3))
    (kk : ∀ (q : Nat) (H1 : Heap), wX D tys s (ws ++ [(q, .inr (ci, fs))]) H1 A H0 locs → W p l e R s m args below meth c H1 locs cells' slots' Q (F0 m (pc + 3) ls (.ref q :: rest))) : W p l e R s m args below meth c H locs cells slots Q (F0 m pc ls rest) :=
  va_new C.1 C.2.1 C.2.2.2.2 KC.2.1 ty KC.2.2.1 C.2.2.2.1 (C.2.2.2.2 _ hcl) (C.2.2.2.2 _ hinst) (C.2.2.2.2 _ hini) Wd.1 Wd.2.1 Wd.2.2.1 Wd.2.2.2.1 Wd.2.2.2.2 KC.1 (fun j hj => of_decide_eq_true (List.all_eq_true.mp hfs j (List.mem_range.mpr hj))) hcells hslots hdg (fun q H1 hP hD hS => W.widen hc' hs' (kk q H1 ⟨Wd.1, hP, hD, hS, Wd.2.2.2.2⟩))
theorem k_zald (C : CallFix p m c cc nL s args gG own) (Wd : wX D tys s ws H A H0 locs) (q0 t0 : Nat) {cA : ClassId} {n : Nat} {f : Nat → Int32} (ha : ws[q0]? = some (a, .inl (cA, n, .inl f))) (ht : tys[t0]? = some (cA, .boolean)) {i v : Int32} (hin : vp_in i n) (hv : f i.toNatClampNeg = v) (hdg : decode cc pc = .ok (.baload, 1))
    (kk : W p l e R s m args below meth c H locs cells slots Q (F0 m (pc + 1) ls (.int v :: rest))) : W p l e R s m args below meth c H locs cells slots Q (F0 m pc ls (.int i :: .ref a :: rest)) := by
  subst hv
  exact va_zald C.1 C.2.1 Wd.1 Wd.2.1 q0 t0 ha ht hin hdg kk
theorem k_oinit (C : CallFix p m c cc nL s args gG own) (hls : ls.size = nL) (h1 : Cond.methodLink own index objectInit ∈ gG) (h2 : Cond.instanceMethod objectInit ∈ gG) (h3 : Cond.code objectInit ⟨#[0xb1]⟩ 1 none ∈ gG) (hf : 1 ≤ R.frames) (hl : (rest.map fun v => v.category).sum + 12 ≤ R.locals) (hdg : decode cc pc = .ok (.invokespecial index, 3))
    (kk : W p l e R s m args below meth c H locs cells slots Q (F0 m (pc + 3) ls rest)) : W p l e R s m args below meth c H locs cells slots Q (F0 m pc ls (.ref a :: rest)) :=
  W.objInit C.1 C.2.1 C.2.2.2.1 (C.2.2.2.2 _ h1) (C.2.2.2.2 _ h2) (C.2.2.2.2 _ h3) rfl (hls.trans C.2.2.1.symm) rfl hdg hf (by show 0 + _ + 12 ≤ _; rw [Nat.zero_add]; exact hl) (W.eq rfl kk)
theorem k_mmax (C : CallFix p m c cc nL s args gG own) (hls : ls.size = nL) (h1 : Cond.methodLink own index Lib.Math.max.name ∈ gG) (h2 : Cond.static Lib.Math.max.name ∈ gG) (h3 : Cond.initialized "java/lang/Math" ∈ gG) (h4 : Cond.code Lib.Math.max.name Lib.Math.max.code 2 (some .int) ∈ gG) (hf : 1 ≤ R.frames) (hl : (rest.map fun v => v.category).sum + 13 ≤ R.locals) (hc : cells ≤ R.cells) (hs : slots ≤ R.slots) {x y v : Int32} (hv : (if x < y then y else x) = v) (hdg : decode cc pc = .ok (.invokestatic index, 3))
    (kk : W p l e R s m args below meth c H locs cells slots Q (F0 m (pc + 3) ls (.int v :: rest))) : W p l e R s m args below meth c H locs cells slots Q (F0 m pc ls (.int y :: .int x :: rest)) := by
  subst hv
  exact va_mmax C.1 C.2.1 (C.2.2.1.trans hls.symm) C.2.2.2.1 (C.2.2.2.2 _ h1) (C.2.2.2.2 _ h2) (C.2.2.2.2 _ h3) (C.2.2.2.2 _ h4) hf hl hc hs hdg kk
theorem k_mmin (C : CallFix p m c cc nL s args gG own) (hls : ls.size = nL) (h1 : Cond.methodLink own index Lib.Math.min.name ∈ gG) (h2 : Cond.static Lib.Math.min.name ∈ gG) (h3 : Cond.initialized "java/lang/Math" ∈ gG) (h4 : Cond.code Lib.Math.min.name Lib.Math.min.code 2 (some .int) ∈ gG) (hf : 1 ≤ R.frames) (hl : (rest.map fun v => v.category).sum + 13 ≤ R.locals) (hc : cells ≤ R.cells) (hs : slots ≤ R.slots) {x y v : Int32} (hv : (if y < x then y else x) = v) (hdg : decode cc pc = .ok (.invokestatic index, 3))
    (kk : W p l e R s m args below meth c H locs cells slots Q (F0 m (pc + 3) ls (.int v :: rest))) : W p l e R s m args below meth c H locs cells slots Q (F0 m pc ls (.int y :: .int x :: rest)) := by
  subst hv
  exact va_mmin C.1 C.2.1 (C.2.2.1.trans hls.symm) C.2.2.2.1 (C.2.2.2.2 _ h1) (C.2.2.2.2 _ h2) (C.2.2.2.2 _ h3) (C.2.2.2.2 _ h4) hf hl hc hs hdg kk
theorem k_join {g g0 : JFrame} (hJ : W p l e R s m args below meth c H locs cells slots Q g) (hk : W p l e R s m args below meth c H locs cells slots Q g → W p l e R s m args below meth c H locs cells slots Q g0) : W p l e R s m args below meth c H locs cells slots Q g0 := hk hJ
/-- a loop: its state is a number x that grows to at most 'top', a thing u, heap and locals -/
theorem k_loop {X : Type} (inv : Int32 → X → Heap → List Loc → Array Slot → Prop) (pcH : Nat) (top : Int)
    (step : ∀ (x : Int32) (u : X) (H : Heap) (locs : List Loc) (ls : Array Slot), inv x u H locs ls → (∀ (x' : Int32) (u' : X) (H' : Heap) (locs' : List Loc) (ls' : Array Slot), inv x' u' H' locs' ls' → (top - x'.toInt).toNat < (top - x.toInt).toNat → W p l e R s m args below meth c H' locs' cells slots Q (F0 m pcH ls' [])) → W p l e R s m args below meth c H locs cells slots Q (F0 m pcH ls [])) :
    ∀ (x : Int32) (u : X) (H : Heap) (locs : List Loc) (ls : Array Slot), inv x u H locs ls → W p l e R s m args below meth c H locs cells slots Q (F0 m pcH ls []) := by
  have K : ∀ (n : Nat) (x : Int32) (u : X) (H : Heap) (locs : List Loc) (ls : Array Slot), (top - x.toInt).toNat < n → inv x u H locs ls → W p l e R s m args below meth c H locs cells slots Q (F0 m pcH ls []) := by
    intro n
    induction n with
    | zero => intro x u H locs ls h; exact absurd h (Nat.not_lt_zero _)
    | succ n ih => intro x u H locs ls h hi; exact step x u H locs ls hi (fun x' u' H' locs' ls' hi' hm => ih x' u' H' locs' ls' (by omega) hi')
  exact fun x u H locs ls hi => K _ x u H locs ls (Nat.lt_succ_self _) hi
theorem k_locals {vs : List Value} {n : Nat} (h : (lg_sl vs).length ≤ n) (lv' : List (Nat × Value)) (hl : lv_args 0 vs = lv') (kk : ∀ ls : Array Slot, lv_has ls n lv' → W p l e R s m args below meth c H locs cells slots Q (F0 m 0 ls [])) : W p l e R s m args below meth c H locs cells slots Q (entryFrame m vs.toArray n) := by
  subst hl
  rw [lg_entry_eq]
  exact kk _ (lv_entry vs h)
theorem k_iadd (C : CallFix p m c cc nL s args gG own) {x y v : Int32} (hv : x + y = v) (hdg : decode cc pc = .ok (.iadd, 1)) (kk : W p l e R s m args below meth c H locs cells slots Q (F0 m (pc + 1) ls (.int v :: rest))) : W p l e R s m args below meth c H locs cells slots Q (F0 m pc ls (.int y :: .int x :: rest)) := by
  subst hv
  exact lv_iadd C.1 C.2.1 hdg kk
theorem k_isub (C : CallFix p m c cc nL s args gG own) {x y v : Int32} (hv : x - y = v) (hdg : decode cc pc = .ok (.isub, 1)) (kk : W p l e R s m args below meth c H locs cells slots Q (F0 m (pc + 1) ls (.int v :: rest))) : W p l e R s m args below meth c H locs cells slots Q (F0 m pc ls (.int y :: .int x :: rest)) := by
  subst hv
  exact lv_isub C.1 C.2.1 hdg kk
theorem k_imul (C : CallFix p m c cc nL s args gG own) {x y v : Int32} (hv : x * y = v) (hdg : decode cc pc = .ok (.imul, 1)) (kk : W p l e R s m args below meth c H locs cells slots Q (F0 m (pc + 1) ls (.int v :: rest))) : W p l e R s m args below meth c H locs cells slots Q (F0 m pc ls (.int y :: .int x :: rest)) := by
  subst hv
  exact lv_imul C.1 C.2.1 hdg kk
theorem k_iand (C : CallFix p m c cc nL s args gG own) {x y v : Int32} (hv : x &&& y = v) (hdg : decode cc pc = .ok (.iand, 1)) (kk : W p l e R s m args below meth c H locs cells slots Q (F0 m (pc + 1) ls (.int v :: rest))) : W p l e R s m args below meth c H locs cells slots Q (F0 m pc ls (.int y :: .int x :: rest)) := by
  subst hv
  exact lv_iand C.1 C.2.1 hdg kk
theorem k_ior (C : CallFix p m c cc nL s args gG own) {x y v : Int32} (hv : x ||| y = v) (hdg : decode cc pc = .ok (.ior, 1)) (kk : W p l e R s m args below meth c H locs cells slots Q (F0 m (pc + 1) ls (.int v :: rest))) : W p l e R s m args below meth c H locs cells slots Q (F0 m pc ls (.int y :: .int x :: rest)) := by
  subst hv
  exact lv_ior C.1 C.2.1 hdg kk
theorem k_ixor (C : CallFix p m c cc nL s args gG own) {x y v : Int32} (hv : x ^^^ y = v) (hdg : decode cc pc = .ok (.ixor, 1)) (kk : W p l e R s m args below meth c H locs cells slots Q (F0 m (pc + 1) ls (.int v :: rest))) : W p l e R s m args below meth c H locs cells slots Q (F0 m pc ls (.int y :: .int x :: rest)) := by
  subst hv
  exact lv_ixor C.1 C.2.1 hdg kk
theorem k_ishl (C : CallFix p m c cc nL s args gG own) {x y v : Int32} (hv : x <<< (y &&& 31) = v) (hdg : decode cc pc = .ok (.ishl, 1)) (kk : W p l e R s m args below meth c H locs cells slots Q (F0 m (pc + 1) ls (.int v :: rest))) : W p l e R s m args below meth c H locs cells slots Q (F0 m pc ls (.int y :: .int x :: rest)) := by
  subst hv
  exact lv_ishl C.1 C.2.1 hdg kk
theorem k_ishr (C : CallFix p m c cc nL s args gG own) {x y v : Int32} (hv : x >>> (y &&& 31) = v) (hdg : decode cc pc = .ok (.ishr, 1)) (kk : W p l e R s m args below meth c H locs cells slots Q (F0 m (pc + 1) ls (.int v :: rest))) : W p l e R s m args below meth c H locs cells slots Q (F0 m pc ls (.int y :: .int x :: rest)) := by
  subst hv
  exact lv_ishr C.1 C.2.1 hdg kk
theorem k_idiv (C : CallFix p m c cc nL s args gG own) {x y v : Int32} (hne : ¬ y = 0) (hv : x / y = v) (hdg : decode cc pc = .ok (.idiv, 1)) (kk : W p l e R s m args below meth c H locs cells slots Q (F0 m (pc + 1) ls (.int v :: rest))) : W p l e R s m args below meth c H locs cells slots Q (F0 m pc ls (.int y :: .int x :: rest)) := by
  subst hv
  exact lv_idiv C.1 C.2.1 hdg hne kk
theorem k_irem (C : CallFix p m c cc nL s args gG own) {x y v : Int32} (hne : ¬ y = 0) (hv : x - x / y * y = v) (hdg : decode cc pc = .ok (.irem, 1)) (kk : W p l e R s m args below meth c H locs cells slots Q (F0 m (pc + 1) ls (.int v :: rest))) : W p l e R s m args below meth c H locs cells slots Q (F0 m pc ls (.int y :: .int x :: rest)) := by
  subst hv
  exact lv_irem C.1 C.2.1 hdg hne kk
end KR
section KC
variable {p : Program} {l : Launch} {e : Env} {R : Room} {s : State} {m : MethodId} {args : Array Value} {below : List Frame} {meth : Method} {c : Code} {H : Heap} {locs : List Loc} {cells slots : Nat} {Q : State → Prop}
variable {cc bytes : ByteArray} {pc nL maxL : Nat} {ls : Array Slot} {rest st0 As : List Value} {D : va_G} {A : Nat → Prop} {b : Nat} {tys tc : List (ClassId × FieldType)} {ws wc wr : va_W} {H0 : Heap} {own Cn : String} {y : MethodName} {ret : Option FieldType} {rm : Room} {mc ms n index : Nat} {Qc : Array Value → State → Outcome → State → Prop} {free : Addr → Prop} {S : Type}
/-- what a call site needs of the tables -/
def csV (own : String) (idx : Nat) (Cn : String) (y : MethodName) (bytes : ByteArray) (maxL : Nat) (ret : Option FieldType) (n : Nat) : Prop := GoodIn gG (wsV own idx Cn y (Cond.code y bytes maxL ret :: gG)) ∧ (y.cls = Cn ∧ y.cls ≠ "java/lang/invoke/MethodHandle" ∧ y.cls ≠ "java/lang/invoke/VarHandle" ∧ (parseMethodDescriptor y.desc).map (fun d => d.parameters.length) = some n)
def csS (own : String) (idx : Nat) (y : MethodName) (bytes : ByteArray) (maxL : Nat) (ret : Option FieldType) (n : Nat) : Prop := GoodIn gG (va_wsS own idx y (Cond.code y bytes maxL ret :: gG)) ∧ (y.cls ≠ "java/lang/invoke/MethodHandle" ∧ y.cls ≠ "java/lang/invoke/VarHandle" ∧ (parseMethodDescriptor y.desc).map (fun d => d.parameters.length) = some n)
def csI (own : String) (idx : Nat) (y : MethodName) (bytes : ByteArray) (maxL : Nat) (n : Nat) : Prop := GoodIn gG (Cond.code y bytes maxL none :: gG) ∧ Cond.initialized y.cls ∈ gG ∧ Cond.methodLink own idx y ∈ gG ∧ Cond.instanceMethod y ∈ gG ∧ y.name = "<init>" ∧ (y.cls ≠ "java/lang/invoke/MethodHandle" ∧ y.cls ≠ "java/lang/invoke/VarHandle" ∧ (parseMethodDescriptor y.desc).map (fun d => d.parameters.length) = some n)
theorem gG_self (w : Cond) (h : w ∈ gG) : w ∈ gG ∧ ((w.onTables && w.keeps) = true ∨ ∃ ty, w = .arrayClass ty) := ⟨h, good_of_word (List.mem_filter.mp h).2⟩
theorem gV {Cn : String} {idx : Nat} (h1 : Cond.methodLink own idx y ∈ gG) (h2 : Cond.instanceMethod y ∈ gG) (h3 : Cond.selects Cn y y ∈ gG) (h4 : Cond.initialized Cn ∈ gG) (h5 : Cond.code y bytes maxL ret ∈ gG) : GoodIn gG (wsV own idx Cn y (Cond.code y bytes maxL ret :: gG)) := by
  intro w h
  refine gG_self w ?_
  rcases List.mem_append.mp h with h | h
  · rcases List.mem_cons.mp h with rfl | h
    · exact h1
    rcases List.mem_cons.mp h with rfl | h
    · exact h2
    rcases List.mem_cons.mp h with rfl | h
    · exact h3
    rcases List.mem_cons.mp h with rfl | h
    · exact h4
    exact absurd h List.not_mem_nil
  · rcases List.mem_cons.mp h with rfl | h
    · exact h5
    · exact h
theorem gS {idx : Nat} (h1 : Cond.methodLink own idx y ∈ gG) (h2 : Cond.static y ∈ gG) (h4 : Cond.initialized y.cls ∈ gG) (h5 : Cond.code y bytes maxL ret ∈ gG) : GoodIn gG (va_wsS own idx y (Cond.code y bytes maxL ret :: gG)) := by
  intro w h
  refine gG_self w ?_
  rcases List.mem_append.mp h with h | h
  · rcases List.mem_cons.mp h with rfl | h
    · exact h1
    rcases List.mem_cons.mp h with rfl | h
    · exact h2
    rcases List.mem_cons.mp h with rfl | h
    · exact h4
    exact absurd h List.not_mem_nil
  · rcases List.mem_cons.mp h with rfl | h
    · exact h5
    · exact h
theorem gI (h5 : Cond.code y bytes maxL ret ∈ gG) : GoodIn gG (Cond.code y bytes maxL ret :: gG) := by
  intro w h
  refine gG_self w ?_
  rcases List.mem_cons.mp h with rfl | h
  · exact h5
  · exact h
theorem k_runV (C : CallFix p m c cc nL s args gG own) (aks : aK s) (Wd : wX D tys s ws H A H0 locs) (cs : csV own index Cn y bytes maxL ret n) (hM : Met l y (Cond.code y bytes maxL ret :: gG) rm (cPre D tc wc H.size (.ref b :: As)) Qc mc ms free) (isC : List Nat) (hC : isC.map (fun i => ws[i]?) = wc.map some) (hnd : va_nd isC = true) (tC : List Nat) (hT : tC.filterMap (fun i => tys[i]?) = tc) (q0 ci : Nat) {r : vw_C} {fs : List Value} (he : ws[q0]? = some (b, .inr (ci, fs))) (hcl : classes[ci]? = some r) (hcn : r.1 = Cn) (hrc : rm.cells = mc) (hrs : rm.slots = ms) (hR : rm.frames + 1 ≤ R.frames ∧ 8 + (maxL + 11) + rm.locals ≤ R.locals) (hls : ls.size = nL) (hn : As.length = n) (hst : st0 = As.reverse ++ .ref b :: rest) (hW : (rest.map fun v => v.category).sum ≤ 8) (hf : cells + mc ≤ R.cells ∧ slots + ms ≤ R.slots) (hdg : decode cc pc = .ok (.invokevirtual index, 3)) :
    va_Run p l e R s m args below meth c H locs cells slots mc ms (F0 m pc ls st0) rest (Qc (Value.ref b :: As).toArray) free := by
  subst hcn
  exact va_runV C hM (cwV n C.2.2.2.2 cs.1 rfl hrc hrs cs.2 hR) ⟨cPre_blind, va_recv Wd.1 Wd.2.1 hcl he, k_pre Wd aks isC hC hnd tC hT _⟩ rfl hn hls hst (lv_room hW) hdg hf
theorem k_runS (C : CallFix p m c cc nL s args gG own) (aks : aK s) (Wd : wX D tys s ws H A H0 locs) (cs : csS own index y bytes maxL ret n) (hM : Met l y (Cond.code y bytes maxL ret :: gG) rm (cPre D tc wc H.size As) Qc mc ms free) (isC : List Nat) (hC : isC.map (fun i => ws[i]?) = wc.map some) (hnd : va_nd isC = true) (tC : List Nat) (hT : tC.filterMap (fun i => tys[i]?) = tc) (hrc : rm.cells = mc) (hrs : rm.slots = ms) (hR : rm.frames + 1 ≤ R.frames ∧ 8 + (maxL + 11) + rm.locals ≤ R.locals) (hls : ls.size = nL) (hn : As.length = n) (hst : st0 = As.reverse ++ rest) (hW : (rest.map fun v => v.category).sum ≤ 8) (hf : cells + mc ≤ R.cells ∧ slots + ms ≤ R.slots) (hdg : decode cc pc = .ok (.invokestatic index, 3)) :
    va_Run p l e R s m args below meth c H locs cells slots mc ms (F0 m pc ls st0) rest (Qc As.toArray) free :=
  va_runS C hM (va_cwS n C.2.2.2.2 cs.1 rfl hrc hrs cs.2 hR) ⟨cPre_blind, k_pre Wd aks isC hC hnd tC hT _⟩ rfl hn hls hst (lv_room hW) hdg hf
def csN (own : String) (idx : Nat) (host : String) (y : MethodName) (bytes : ByteArray) (maxL : Nat) (ret : Option FieldType) (n : Nat) : Prop := GoodIn gG (Cond.code y bytes maxL ret :: gG) ∧ Cond.static y ∈ gG ∧ Cond.initialized y.cls ∈ gG ∧ (y.cls ≠ "java/lang/invoke/MethodHandle" ∧ y.cls ≠ "java/lang/invoke/VarHandle" ∧ (parseMethodDescriptor y.desc).map (fun d => d.parameters.length) = some n)
theorem k_runN {host : String} (C : CallFix p m c cc nL s args gG own) (aks : aK s) (Wd : wX D tys s ws H A H0 locs) (hl : va_Nw (.methodLinkNest own index y host) s) (cs : csN own index host y bytes maxL ret n) (hM : Met l y (Cond.code y bytes maxL ret :: gG) rm (cPre D tc wc H.size As) Qc mc ms free) (isC : List Nat) (hC : isC.map (fun i => ws[i]?) = wc.map some) (hnd : va_nd isC = true) (tC : List Nat) (hT : tC.filterMap (fun i => tys[i]?) = tc) (hrc : rm.cells = mc) (hrs : rm.slots = ms) (hR : rm.frames + 1 ≤ R.frames ∧ 8 + (maxL + 11) + rm.locals ≤ R.locals) (hls : ls.size = nL) (hn : As.length = n) (hst : st0 = As.reverse ++ rest) (hW : (rest.map fun v => v.category).sum ≤ 8) (hf : cells + mc ≤ R.cells ∧ slots + ms ≤ R.slots) (hdg : decode cc pc = .ok (.invokestatic index, 3)) :
    va_Run p l e R s m args below meth c H locs cells slots mc ms (F0 m pc ls st0) rest (Qc As.toArray) free :=
  va_runSN C hM ⟨va_cnB n C.2.2.2.2 cs.1 rfl hrc hrs hl (C.2.2.2.2 _ cs.2.2.1) cs.2.2.2 hR, C.2.2.2.2 _ cs.2.1, trivial⟩ ⟨cPre_blind, k_pre Wd aks isC hC hnd tC hT _⟩ rfl hn hls hst (lv_room hW) hdg hf
theorem k_runI (C : CallFix p m c cc nL s args gG own) (aks : aK s) (Wd : wX D tys s ws H A H0 locs) (cs : csI own index y bytes maxL n) (hM : Met l y (Cond.code y bytes maxL none :: gG) rm (cPre D tc wc H.size (.ref b :: As)) Qc mc ms free) (isC : List Nat) (hC : isC.map (fun i => ws[i]?) = wc.map some) (hnd : va_nd isC = true) (tC : List Nat) (hT : tC.filterMap (fun i => tys[i]?) = tc) (hrc : rm.cells = mc) (hrs : rm.slots = ms) (hR : rm.frames + 1 ≤ R.frames ∧ 8 + (maxL + 11) + rm.locals ≤ R.locals) (hls : ls.size = nL) (hn : As.length = n) (hst : st0 = As.reverse ++ .ref b :: rest) (hW : (rest.map fun v => v.category).sum ≤ 8) (hf : cells + mc ≤ R.cells ∧ slots + ms ≤ R.slots) (hdg : decode cc pc = .ok (.invokespecial index, 3)) :
    va_Run p l e R s m args below meth c H locs cells slots mc ms (F0 m pc ls st0) rest (Qc (Value.ref b :: As).toArray) free :=
  va_runI C hM (cwI n C.2.2.2.2 cs.1 rfl hrc hrs (C.2.2.2.2 _ cs.2.1) (C.2.2.2.2 _ cs.2.2.1) (C.2.2.2.2 _ cs.2.2.2.1) cs.2.2.2.2.1 cs.2.2.2.2.2 hR) ⟨cPre_blind, k_pre Wd aks isC hC hnd tC hT _⟩ rfl hn hls hst (lv_room hW) hdg hf
theorem k_after {post : S → State → Prop} {H1 : Heap} {locs1 : List Loc} {t : State} {w1 : va_W} {t1 : List (ClassId × FieldType)} (Wd : wX D tys s ws H A H0 locs) (isC isR : List Nat) (hC : isC.map (fun i => ws[i]?) = wc.map some) (hR : isR.map (fun i => ws[i]?) = wr.map some) (hn : va_nd isR = true) (hdis : ∀ i ∈ isR, i ∉ isC)
    (ht : t.heap = H1) (hvm : s.vm.Alike t.vm) (hB : cB D (va_A wc H.size) t1 w1 t) (hk : ∀ q : Nat, q < H.size → ¬ va_A wc H.size q → H1[q]? = H[q]?) (hS : va_S A H0 H1 locs1) : wX D (tys ++ t1) s (wr ++ w1) H1 A H0 locs1 := by
  obtain ⟨hP1, hK1, hD1⟩ := hB
  rw [ht] at hP1
  have hFc := va_free (wc := wc) Wd.2.2.1 Wd.2.2.2.1 Wd.2.2.2.2 isC hC
  obtain ⟨hP, hD⟩ := va_join Wd.2.1 Wd.2.2.1 isC isR hC hR hn hdis hk hFc hP1 hD1
  exact ⟨Wd.1.app (va_K.moved hvm.symm hK1), hP, hD, hS, Wd.2.2.2.2⟩
theorem k_ci {post : Int32 → S → Prop} {w1 : S → va_W} {t1 : S → List (ClassId × FieldType)} {av : Array Value} (Wd : wX D tys s ws H A H0 locs) (isC isR : List Nat) (hC : isC.map (fun i => ws[i]?) = wc.map some) (hR : isR.map (fun i => ws[i]?) = wr.map some) (hn : va_nd isR = true) (hdis : ∀ i ∈ isR, i ∉ isC) {cells' slots' : Nat} (hc' : cells + mc ≤ cells') (hs' : slots + ms ≤ slots')
    (hr : va_Run p l e R s m args below meth c H locs cells slots mc ms (F0 m pc ls st0) rest (va_Qi post (fun u t => cB D (va_A wc H.size) (t1 u) (w1 u) t) (va_A wc H.size) av) (va_A wc H.size))
    (kk : ∀ (r : Int32) (u : S) (H1 : Heap) (locs1 : List Loc), post r u → wX D (tys ++ t1 u) s (wr ++ w1 u) H1 A H0 locs1 → W p l e R s m args below meth c H1 locs1 cells' slots' Q (F0 m (pc + 3) ls (.int r :: rest))) : W p l e R s m args below meth c H locs cells slots Q (F0 m pc ls st0) := by
  have hFc := va_free (wc := wc) Wd.2.2.1 Wd.2.2.2.1 Wd.2.2.2.2 isC hC
  exact va_calli hr Wd.2.2.2.1 (fun q _ h => hFc q h) hFc (fun r u t H1 locs1 ht hvm hw hB hz1 hk1 hS => W.widen hc' hs' (kk r u H1 locs1 hw (k_after (S := S) (post := fun _ _ => True) Wd isC isR hC hR hn hdis ht hvm hB hk1 hS)))
theorem k_cv {post : S → Prop} {w1 : S → va_W} {t1 : S → List (ClassId × FieldType)} {av : Array Value} (Wd : wX D tys s ws H A H0 locs) (isC isR : List Nat) (hC : isC.map (fun i => ws[i]?) = wc.map some) (hR : isR.map (fun i => ws[i]?) = wr.map some) (hn : va_nd isR = true) (hdis : ∀ i ∈ isR, i ∉ isC) {cells' slots' : Nat} (hc' : cells + mc ≤ cells') (hs' : slots + ms ≤ slots')
    (hr : va_Run p l e R s m args below meth c H locs cells slots mc ms (F0 m pc ls st0) rest (va_Qv post (fun u t => cB D (va_A wc H.size) (t1 u) (w1 u) t) (va_A wc H.size) av) (va_A wc H.size))
    (kk : ∀ (u : S) (H1 : Heap) (locs1 : List Loc), post u → wX D (tys ++ t1 u) s (wr ++ w1 u) H1 A H0 locs1 → W p l e R s m args below meth c H1 locs1 cells' slots' Q (F0 m (pc + 3) ls rest)) : W p l e R s m args below meth c H locs cells slots Q (F0 m pc ls st0) := by
  have hFc := va_free (wc := wc) Wd.2.2.1 Wd.2.2.2.1 Wd.2.2.2.2 isC hC
  exact va_callv hr Wd.2.2.2.1 (fun q _ h => hFc q h) hFc (fun u t H1 locs1 ht hvm hw hB hz1 hk1 hS => W.widen hc' hs' (kk u H1 locs1 hw (k_after (S := S) (post := fun _ _ => True) Wd isC isR hC hR hn hdis ht hvm hB hk1 hS)))
/-- a call that changes nothing, back with a number, nothing, or a reference -/
theorem va_Run.flat {Qa : State → Outcome → State → Prop} (h : va_Run p l e R s m args below meth c H locs cells slots mc ms (F0 m pc ls st0) rest Qa free) : CallRun p l e R s m args below meth c H locs cells slots mc ms (F0 m pc ls st0) rest Qa free := by
  intro T hT X
  obtain ⟨v, st₀, t, T', L, h0, X', hL, e1, e2, hq, st⟩ := h T hT X
  exact ⟨v, st₀, t, T', L, h0, X', hL, e1, hq, st⟩
theorem k_pi {post : Int32 → Prop} {av : Array Value} (hr : va_Run p l e R s m args below meth c H locs cells slots 0 0 (F0 m pc ls st0) rest (vp_Si post av) (fun _ => False))
    (kk : ∀ r : Int32, post r → W p l e R s m args below meth c H locs cells slots Q (F0 m (pc + 3) ls (.int r :: rest))) : W p l e R s m args below meth c H locs cells slots Q (F0 m pc ls st0) := vp_callSi hr.flat kk
theorem k_pv {post : Unit → Prop} {av : Array Value} (hr : va_Run p l e R s m args below meth c H locs cells slots 0 0 (F0 m pc ls st0) rest (va_Sv post av) (fun _ => False))
    (kk : post () → W p l e R s m args below meth c H locs cells slots Q (F0 m (pc + 3) ls rest)) : W p l e R s m args below meth c H locs cells slots Q (F0 m pc ls st0) := va_csv hr.flat (fun h => kk h)
theorem k_pq {post : Option Nat → Prop} {av : Array Value} (hr : va_Run p l e R s m args below meth c H locs cells slots 0 0 (F0 m pc ls st0) rest (va_Sq post av) (fun _ => False))
    (kk : ∀ r : Option Nat, post r → W p l e R s m args below meth c H locs cells slots Q (F0 m (pc + 3) ls (va_rf r :: rest))) : W p l e R s m args below meth c H locs cells slots Q (F0 m pc ls st0) := va_csq hr.flat kk
theorem k_end {w1 : va_W} {t1 : List (ClassId × FieldType)} (Wd : wX D tys s ws H A s.heap locs) (is : List Nat) (hI : is.map (fun i => ws[i]?) = w1.map some) (hnd : va_nd is = true) (ts : List Nat) (hT : ts.filterMap (fun i => tys[i]?) = t1) {t : State} (ht : t.heap = H) (hW : s.WarmedH t.vm) : cB D A t1 w1 t ∧ va_F A s t := by
  have h1 : is.filterMap (fun i => ws[i]?) = w1 := by
    have := congrArg (List.filterMap id) hI
    rw [List.filterMap_map, List.filterMap_map] at this
    simpa using this
  exact ⟨⟨by rw [ht]; exact Wd.2.1.sub is h1, va_K.moved hW.alike (Wd.1.sub ts hT), Wd.2.2.1.sub is hnd hI⟩, Wd.2.2.2.1.F ht⟩
theorem k_zret {post : Int32 → S → Prop} {w1 : S → va_W} {t1 : S → List (ClassId × FieldType)} {ty : FieldType} {v : Int32} (C : CallFix p m c cc nL s args gG own) (hr : meth.sig.returnType = some ty) (hlk : meth.locks = false) (hnr : narrow ty (.int v) = .int v) (Wd : wX D tys s ws H A s.heap locs) (u : S) (hp : post v u) (is : List Nat) (hI : is.map (fun i => ws[i]?) = (w1 u).map some) (hnd : va_nd is = true) (ts : List Nat) (hT : ts.filterMap (fun i => tys[i]?) = t1 u) (h1 : cells ≤ mc) (h2 : slots ≤ ms) (hdg : decode cc pc = .ok (.ireturn, 1)) :
    W p l e R s m args below meth c H locs cells slots (MQ below (va_Qi post (fun u t => cB D A (t1 u) (w1 u) t) A) args s mc ms A) (F0 m pc ls [.int v]) :=
  W.widen h1 h2 (W.zret (ty := ty) C.1 C.2.1 hr hnr (fun t ht hW => ⟨⟨v, u, rfl, hp, (k_end Wd is hI hnd ts hT ht hW).1⟩, (k_end Wd is hI hnd ts hT ht hW).2⟩) Wd.2.2.2.1.2.2 hdg hlk)
theorem k_vret {post : S → Prop} {w1 : S → va_W} {t1 : S → List (ClassId × FieldType)} (C : CallFix p m c cc nL s args gG own) (hr : meth.sig.returnType = none) (hlk : meth.locks = false) (Wd : wX D tys s ws H A s.heap locs) (u : S) (hp : post u) (is : List Nat) (hI : is.map (fun i => ws[i]?) = (w1 u).map some) (hnd : va_nd is = true) (ts : List Nat) (hT : ts.filterMap (fun i => tys[i]?) = t1 u) (h1 : cells ≤ mc) (h2 : slots ≤ ms) (hdg : decode cc pc = .ok (.return_, 1)) :
    W p l e R s m args below meth c H locs cells slots (MQ below (va_Qv post (fun u t => cB D A (t1 u) (w1 u) t) A) args s mc ms A) (F0 m pc ls []) :=
  W.widen h1 h2 (W.vret C.1 C.2.1 hr (fun t ht hW => ⟨⟨u, rfl, hp, (k_end Wd is hI hnd ts hT ht hW).1⟩, (k_end Wd is hI hnd ts hT ht hW).2⟩) Wd.2.2.2.1.2.2 hdg hlk)
theorem k_zretP {post : Int32 → Prop} {ty : FieldType} {v : Int32} (C : CallFix p m c cc nL s args gG own) (hr : meth.sig.returnType = some ty) (hlk : meth.locks = false) (hnr : narrow ty (.int v) = .int v) (hp : post v) (hdg : decode cc pc = .ok (.ireturn, 1)) :
    W p l e R s m args below meth c s.heap [] 0 0 (MQ below (vp_Si post) args s 0 0 (fun _ => False)) (F0 m pc ls [.int v]) :=
  W.zret (ty := ty) C.1 C.2.1 hr hnr (fun t ht _ => ⟨v, rfl, hp, ht⟩) (fun _ h => absurd h List.not_mem_nil) hdg hlk
theorem k_vretP {post : Unit → Prop} (C : CallFix p m c cc nL s args gG own) (hr : meth.sig.returnType = none) (hlk : meth.locks = false) (hp : post ()) (hdg : decode cc pc = .ok (.return_, 1)) :
    W p l e R s m args below meth c s.heap [] 0 0 (MQ below (va_Sv post) args s 0 0 (fun _ => False)) (F0 m pc ls []) :=
  W.vret C.1 C.2.1 hr (fun t ht _ => ⟨rfl, hp, ht⟩) (fun _ h => absurd h List.not_mem_nil) hdg hlk
theorem k_aretP {post : Option Nat → Prop} {rn : String} {v : Value} (r : Option Nat) (hv : v = va_rf r) (C : CallFix p m c cc nL s args gG own) (hr : meth.sig.returnType = some (.object rn)) (hlk : meth.locks = false) (hp : post r) (hdg : decode cc pc = .ok (.areturn, 1)) :
    W p l e R s m args below meth c s.heap [] 0 0 (MQ below (va_Sq post) args s 0 0 (fun _ => False)) (F0 m pc ls [v]) := by
  subst hv
  exact W.aret C.1 C.2.1 hr (Or.inl ⟨rn, rfl⟩) (va_rf_or r) (fun t ht _ => ⟨r, rfl, hp, ht⟩) (fun _ h => absurd h List.not_mem_nil) hdg hlk
end KC
theorem upd0 (k : Nat) : upd (fun _ => 0) k 0 = fun _ => (0 : Int32) := by
  funext j
  unfold upd
  split <;> rfl
theorem kz_lt {a b : Int32} (h : a < b) : a.toInt < b.toInt := Int32.lt_iff_toInt_lt.mp h
theorem kz_le {a b : Int32} (h : a ≤ b) : a.toInt ≤ b.toInt := Int32.le_iff_toInt_le.mp h
theorem kz_nlt {a b : Int32} (h : ¬ a < b) : b.toInt ≤ a.toInt := Int.not_lt.mp (fun q => h (Int32.lt_iff_toInt_lt.mpr q))
theorem kz_nle {a b : Int32} (h : ¬ a ≤ b) : b.toInt < a.toInt := Int.not_le.mp (fun q => h (Int32.le_iff_toInt_le.mpr q))
theorem kz_eq {a b : Int32} (h : a = b) : a.toInt = b.toInt := by rw [h]
theorem kz_ne {a b : Int32} (h : ¬ a = b) : ¬ a.toInt = b.toInt := fun q => h (Int32.toInt_inj.mp q)
theorem kz_inj {a b : Int32} (h : a.toInt = b.toInt) : a = b := Int32.toInt_inj.mp h
theorem kz_subI {a b : Int32} : (a.toInt - b.toInt < -2147483648 ∨ 2147483648 ≤ a.toInt - b.toInt) ∨ (a - b).toInt = a.toInt - b.toInt := by
  have h := Int32.toInt_sub a b
  by_cases h1 : a.toInt - b.toInt < -2147483648 ∨ 2147483648 ≤ a.toInt - b.toInt
  · exact Or.inl h1
  · refine Or.inr ?_
    rw [h]
    apply Int.bmod_eq_of_le
    · omega
    · omega
theorem kz_addI {a b : Int32} : (a.toInt + b.toInt < -2147483648 ∨ 2147483648 ≤ a.toInt + b.toInt) ∨ (a + b).toInt = a.toInt + b.toInt := by
  have h := Int32.toInt_add a b
  by_cases h1 : a.toInt + b.toInt < -2147483648 ∨ 2147483648 ≤ a.toInt + b.toInt
  · exact Or.inl h1
  · refine Or.inr ?_
    rw [h]
    apply Int.bmod_eq_of_le
    · omega
    · omega
section KM
variable {p : Program} {l : Launch} {e : Env} {R : Room} {s : State} {m : MethodId} {args : Array Value} {below : List Frame} {meth : Method} {c : Code} {H : Heap} {locs : List Loc} {cells slots : Nat} {Q : State → Prop}
variable {cc : ByteArray} {pc nL : Nat} {ls : Array Slot} {rest : List Value} {D : va_G} {A : Nat → Prop} {tys : List (ClassId × FieldType)} {ws : va_W} {H0 : Heap} {own : String} {index : Nat}
theorem k_mna (C : CallFix p m c cc nL s args gG own) (Wd : wX D tys s ws H A H0 locs) (hclink : Cond.classLink own index "[[I" ∈ gG) (hover : va_AOA .int s) (harr : Cond.arrayClass .int ∈ gG) (t0 : Nat) {cy : ClassId} (ht : tys[t0]? = some (cy, .int)) {n k : Int32} (N' K' : Nat) (hn : ¬ n < 0) (hk : ¬ k < 0) (hN : n.toNatClampNeg = N') (hM : k.toNatClampNeg = K') (hb1 : N' * 4 ≤ 536870912) (hb2 : K' * 4 ≤ 536870912) {cells' slots' : Nat} (hcells : cells + (1 + N') ≤ R.cells) (hslots : slots + (N' + N' * K') ≤ R.slots) (hc' : cells + 1 + N' ≤ cells') (hs' : slots + N' + N' * K' ≤ slots') (hdg : decode cc pc = .ok (.multianewarray index 2, 4))
    (kk : ∀ (q : Nat) (r : Nat → Nat) (cA : ClassId) (H1 : Heap), wX D (tys ++ [(cA, .array .int)]) s ((ws ++ [(q, .inl (cA, N', .inr (.inr (.inr (.inr (fun i => if i < N' then some (r i) else none))))))]) ++ ((List.range N').map r).map (fun a => (a, .inl (cy, K', .inl (fun _ => 0))))) H1 A H0 locs → W p l e R s m args below meth c H1 locs cells' slots' Q (F0 m (pc + 4) ls (.ref q :: rest))) : W p l e R s m args below meth c H locs cells slots Q (F0 m pc ls (.int k :: .int n :: rest)) := by
  have e0 : ws ++ va_pl [] (fun _ => (.inl (cy, (K', .inl (fun _ => 0))) : va_E)) = ws := List.append_nil ws
  refine va_mna (X := ws) (L := []) (f := fun _ => .inl (cy, (K', .inl (fun _ => 0)))) (z := (K', .inl (fun _ => 0))) (ty := .int) (cy := cy) C.1 C.2.1 C.2.2.2.1 (C.2.2.2.2 _ hclink) hover (C.2.2.2.2 _ harr) ((Wd.1.2 t0 _ ht).2) Wd.1 (by rw [e0]; exact Wd.2.1) (by rw [e0]; exact Wd.2.2.1) Wd.2.2.2.1 Wd.2.2.2.2 hn hk hN hM hb1 hb2 (by omega) rfl rfl hcells hslots (fun _ => arrV_new _ _ _) hdg (fun q r cA H1 hinj hnl hK hP hD hS => ?_)
  refine W.widen hc' hs' (kk q r cA H1 ⟨hK, ?_, ?_, hS, Wd.2.2.2.2⟩)
  · rw [← vr_rows (fun a _ h => absurd h List.not_mem_nil)] at hP
    exact hP
  · rw [← vr_rows (fun a _ h => absurd h List.not_mem_nil)] at hD
    exact hD
end KM
