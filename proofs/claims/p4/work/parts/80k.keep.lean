section LK
variable {ad : Nat → Nat} {ca : Nat → ClassId} {P P' : Nat → Value → Value → Prop} {cel : Nat → Cl} {kq : Nat → Cl}
/-- the cells that only the reading methods, item and clear change -/
def kpB (k : Nat) : Bool := Nat.beq k 0 || Nat.beq k 2 || Nat.beq k 3 || Nat.beq k 4 || Nat.beq k 5 || Nat.beq k 6 || Nat.beq k 7 || Nat.beq k 69
def nkB (is : List Nat) : Bool := is.all (fun k => !kpB k)
theorem nkB_out {is : List Nat} (h : nkB is = true) {k : Nat} (hk : kpB k = true) : k ∉ is := fun q => by
  have := List.all_eq_true.mp h k q
  rw [hk] at this
  exact absurd this (by decide)
def InvK (ad : Nat → Nat) (ca : Nat → ClassId) (P : Nat → Value → Value → Prop) (kq : Nat → Cl) (cel : Nat → Cl) : Prop := InvC ad ca P cel ∧ ∀ k, kpB k = true → cel k = kq k
theorem Inv_putK (hI : InvK ad ca P kq cel) {i : Nat} {c : Cl} (hn : kpB i = false) (hc : shC ad ca P i c) : InvK ad ca P kq (putC cel i c) := by
  refine ⟨Inv_put hI.1 hc, fun k hk => ?_⟩
  show (if k = i then c else cel k) = kq k
  rw [if_neg (fun (q : k = i) => by rw [q, hn] at hk; cases hk)]
  exact hI.2 k hk
section LF
variable {l : Launch} {y : MethodName} {ws : List Cond} {rm : Room} {D : va_G} {sz : Nat} {av : List Value} {is ts : List Nat} {tc : List (ClassId × FieldType)} {ps' : List (Cl → Prop)}
theorem liftV4K {R : Prop} (hI : InvK ad ca P kq cel) (ok : okC is ts = true) (nk : nkB is = true)
    (hM : Met l y ws rm (cPre D tc (is.map cel) sz av) (va_Qv (fun (u : va_W) => R ∧ ShL ps' u) (fun u t => cB D (va_A (is.map cel) sz) [] u t) (va_A (is.map cel) sz)) 0 0 (va_A (is.map cel) sz))
    (htc : ts.map (fun k => (ca k, FieldType.int)) = tc) (hsame : ∀ k, k ∉ is → P k = P' k) (hi : Imp (shC ad ca P') ps' is) :
    Met l y ws rm (cPre D (tC ca) (wN NC cel) sz av) (va_Qv (fun (c' : Nat → Cl) => R ∧ InvK ad ca P' kq c') (fun c' t => cB D (va_A (wN NC cel) sz) [] (wN NC c') t) (va_A (wN NC cel) sz)) 0 0 (va_A (wN NC cel) sz) := by
  refine hM.mono (fun a U hp => cPre_sub is (okC_lt ok) (okC_nd ok) ts (tC_ok ok htc) hp) (fun a st o t hp hq => ?_) (A_sub is (okC_lt ok))
  obtain ⟨⟨u, ho, ⟨hR, hs⟩, hB⟩, hF⟩ := hq
  obtain ⟨h1, h2⟩ := cB_all is (okC_lt ok) (okC_nd ok) hp hB hF (hs.imp hi) (fun k hk c hc => hc.1.trans (hI.1 k (okC_lt ok k hk)).1.symm)
  exact ⟨⟨_, ho, ⟨hR, Inv_set (sh := shC ad ca P) (sh' := shC ad ca P') hI.1 is (okC_nd ok) (hs.imp hi) (fun k hk => shP_eq (hsame k hk)), fun k hk => (setL_out (nkB_out nk hk)).trans (hI.2 k hk)⟩, h1⟩, h2⟩
theorem liftI4K {R : Int32 → Prop} (hI : InvK ad ca P kq cel) (ok : okC is ts = true) (nk : nkB is = true)
    (hM : Met l y ws rm (cPre D tc (is.map cel) sz av) (va_Qi (fun (r : Int32) (u : va_W) => R r ∧ ShL ps' u) (fun u t => cB D (va_A (is.map cel) sz) [] u t) (va_A (is.map cel) sz)) 0 0 (va_A (is.map cel) sz))
    (htc : ts.map (fun k => (ca k, FieldType.int)) = tc) (hsame : ∀ k, k ∉ is → P k = P' k) (hi : Imp (shC ad ca P') ps' is) :
    Met l y ws rm (cPre D (tC ca) (wN NC cel) sz av) (va_Qi (fun (r : Int32) (c' : Nat → Cl) => R r ∧ InvK ad ca P' kq c') (fun c' t => cB D (va_A (wN NC cel) sz) [] (wN NC c') t) (va_A (wN NC cel) sz)) 0 0 (va_A (wN NC cel) sz) := by
  refine hM.mono (fun a U hp => cPre_sub is (okC_lt ok) (okC_nd ok) ts (tC_ok ok htc) hp) (fun a st o t hp hq => ?_) (A_sub is (okC_lt ok))
  obtain ⟨⟨r, u, ho, ⟨hR, hs⟩, hB⟩, hF⟩ := hq
  obtain ⟨h1, h2⟩ := cB_all is (okC_lt ok) (okC_nd ok) hp hB hF (hs.imp hi) (fun k hk c hc => hc.1.trans (hI.1 k (okC_lt ok k hk)).1.symm)
  exact ⟨⟨r, _, ho, ⟨hR, Inv_set (sh := shC ad ca P) (sh' := shC ad ca P') hI.1 is (okC_nd ok) (hs.imp hi) (fun k hk => shP_eq (hsame k hk)), fun k hk => (setL_out (nkB_out nk hk)).trans (hI.2 k hk)⟩, h1⟩, h2⟩
end LF
section KC4
variable {p : Program} {l : Launch} {e : Env} {R : Room} {s : State} {m : MethodId} {args : Array Value} {below : List Frame} {meth : Method} {c : Code} {H : Heap} {locs : List Loc} {Q : State → Prop}
variable {cc : ByteArray} {pc nL : Nat} {ls : Array Slot} {rest : List Value} {D : va_G} {A : Nat → Prop} {H0 : Heap} {own : String} {st0 : List Value} {av : Array Value}
theorem kK_i {Rp : Int32 → Prop} (Wd : wX D (tC ca) s (wN NC cel) H A H0 locs)
    (hr : va_Run p l e R s m args below meth c H locs 0 0 0 0 (F0 m pc ls st0) rest (va_Qi (fun (r : Int32) (c' : Nat → Cl) => Rp r ∧ InvK ad ca P' kq c') (fun c' t => cB D (va_A (wN NC cel) H.size) [] (wN NC c') t) (va_A (wN NC cel) H.size) av) (va_A (wN NC cel) H.size))
    (kk : ∀ (r : Int32) (c' : Nat → Cl) (H1 : Heap) (locs1 : List Loc), Rp r → InvK ad ca P' kq c' → wX D (tC ca) s (wN NC c') H1 A H0 locs1 → W p l e R s m args below meth c H1 locs1 0 0 Q (F0 m (pc + 3) ls (.int r :: rest))) : W p l e R s m args below meth c H locs 0 0 Q (F0 m pc ls st0) := by
  refine k_ci (t1 := fun _ => []) (w1 := fun c' => wN NC c') Wd (List.range NC) [] (wN_all cel) (wr := []) rfl (by decide) (by intro i hi; cases hi) (cells' := 0) (slots' := 0) (by decide) (by decide) hr (fun r u H1 locs1 hp W1 => ?_)
  exact kk r u H1 locs1 hp.1 hp.2 (by rw [List.append_nil] at W1; exact W1)
theorem kK_v {Rp : Prop} (Wd : wX D (tC ca) s (wN NC cel) H A H0 locs)
    (hr : va_Run p l e R s m args below meth c H locs 0 0 0 0 (F0 m pc ls st0) rest (va_Qv (fun (c' : Nat → Cl) => Rp ∧ InvK ad ca P' kq c') (fun c' t => cB D (va_A (wN NC cel) H.size) [] (wN NC c') t) (va_A (wN NC cel) H.size) av) (va_A (wN NC cel) H.size))
    (kk : ∀ (c' : Nat → Cl) (H1 : Heap) (locs1 : List Loc), Rp → InvK ad ca P' kq c' → wX D (tC ca) s (wN NC c') H1 A H0 locs1 → W p l e R s m args below meth c H1 locs1 0 0 Q (F0 m (pc + 3) ls rest)) : W p l e R s m args below meth c H locs 0 0 Q (F0 m pc ls st0) := by
  refine k_cv (t1 := fun _ => []) (w1 := fun c' => wN NC c') Wd (List.range NC) [] (wN_all cel) (wr := []) rfl (by decide) (by intro i hi; cases hi) (cells' := 0) (slots' := 0) (by decide) (by decide) hr (fun u H1 locs1 hp W1 => ?_)
  exact kk u H1 locs1 hp.1 hp.2 (by rw [List.append_nil] at W1; exact W1)
theorem kK_zret {Rp : Int32 → Prop} {ty : FieldType} {v : Int32} (C : CallFix p m c cc nL s args gG own) (hr : meth.sig.returnType = some ty) (hlk : meth.locks = false) (hnr : narrow ty (.int v) = .int v) (Wd : wX D (tC ca) s (wN NC cel) H A s.heap locs) (hp : Rp v ∧ InvK ad ca P' kq cel) (hdg : decode cc pc = .ok (.ireturn, 1)) :
    W p l e R s m args below meth c H locs 0 0 (MQ below (va_Qi (fun (r : Int32) (c' : Nat → Cl) => Rp r ∧ InvK ad ca P' kq c') (fun c' t => cB D A [] (wN NC c') t) A) args s 0 0 A) (F0 m pc ls [.int v]) :=
  k_zret (w1 := fun c' => wN NC c') (t1 := fun _ => []) C hr hlk hnr Wd cel hp (List.range NC) (wN_all cel) ndR [] rfl (Nat.le_refl _) (Nat.le_refl _) hdg
theorem kK_vret {Rp : Prop} (C : CallFix p m c cc nL s args gG own) (hr : meth.sig.returnType = none) (hlk : meth.locks = false) (Wd : wX D (tC ca) s (wN NC cel) H A s.heap locs) (hp : Rp ∧ InvK ad ca P' kq cel) (hdg : decode cc pc = .ok (.return_, 1)) :
    W p l e R s m args below meth c H locs 0 0 (MQ below (va_Qv (fun (c' : Nat → Cl) => Rp ∧ InvK ad ca P' kq c') (fun c' t => cB D A [] (wN NC c') t) A) args s 0 0 A) (F0 m pc ls []) :=
  k_vret (w1 := fun c' => wN NC c') (t1 := fun _ => []) C hr hlk Wd cel hp (List.range NC) (wN_all cel) ndR [] rfl (Nat.le_refl _) (Nat.le_refl _) hdg
end KC4
end LK
set_option maxRecDepth 20000 in
theorem nk_2 : ∀ z0, z0 < 20 → nkB [(207 + z0)] = true := by decide +kernel
set_option maxRecDepth 20000 in
theorem nk_3 : ∀ z0, z0 < 20 → ∀ z1, z1 < 20 → z0 ≠ z1 → nkB [(207 + z0), (207 + z1)] = true := by decide +kernel
set_option maxRecDepth 20000 in
theorem nk_4 : ∀ z0, z0 < 20 → ∀ z1, z1 < 20 → z0 ≠ z1 → nkB [25, 29, (207 + z0), (207 + z1)] = true := by decide +kernel
set_option maxRecDepth 20000 in
theorem nk_6 : ∀ z0, z0 < 12 → nkB [25, (123 + 7 * z0 + 1), (123 + 7 * z0 + 2), 27] = true := by decide +kernel
set_option maxRecDepth 20000 in
theorem nk_7 : ∀ z0, z0 < 12 → nkB [25, (123 + 7 * z0 + 3), (123 + 7 * z0 + 4), 27] = true := by decide +kernel
set_option maxRecDepth 20000 in
theorem nk_8 : ∀ z0, z0 < 8 → nkB [(101 + 2 * z0), (101 + 2 * z0 + 1), 119, 120] = true := by decide +kernel
set_option maxRecDepth 20000 in
theorem nk_9 : nkB [70, 119, 120] = true := by decide +kernel
set_option maxRecDepth 20000 in
theorem nk_10 : nkB [70, 71, 119, 120, 83, 82, 72, 73, 79, 74, 75, 78, 76, 77, 81, 80] = true := by decide +kernel
set_option maxRecDepth 20000 in
theorem nk_11 : nkB [119, 120] = true := by decide +kernel
set_option maxRecDepth 20000 in
theorem nk_12 : nkB [119, 120, 70] = true := by decide +kernel
set_option maxRecDepth 20000 in
theorem nk_13 : nkB [70, 121, 122, 119, 120] = true := by decide +kernel
set_option maxRecDepth 20000 in
theorem nk_14 : ∀ z0, z0 < 12 → nkB [31, (123 + 7 * z0), 119, 120, (123 + 7 * z0 + 5), (123 + 7 * z0 + 6), (123 + 7 * z0 + 1), (123 + 7 * z0 + 2), 70, (123 + 7 * z0 + 3), (123 + 7 * z0 + 4), 121, 122] = true := by decide +kernel
set_option maxRecDepth 20000 in
theorem nk_15 : ∀ z0, z0 < 6 → nkB [(101 + 2 * z0), (101 + 2 * z0 + 1), 113, 114] = true := by decide +kernel
set_option maxRecDepth 20000 in
theorem nk_16 : nkB [31, 113, 114, 119, 120, 32, 33, 37, 49, 48, 38, 39, 45, 40, 41, 44, 42, 43, 47, 46, 50, 54, 66, 65, 55, 56, 62, 57, 58, 61, 59, 60, 64, 63, 35, 36, 34, 52, 53, 51] = true := by decide +kernel
set_option maxRecDepth 20000 in
theorem nk_17 : nkB [119, 120, 113, 114] = true := by decide +kernel
set_option maxRecDepth 20000 in
theorem nk_19 : ∀ z0, z0 < 6 → nkB [31, (101 + 2 * z0), (101 + 2 * z0 + 1), 119, 120, 32, 33, 37, 49, 48, 38, 39, 45, 40, 41, 44, 42, 43, 47, 46, 50, 54, 66, 65, 55, 56, 62, 57, 58, 61, 59, 60, 64, 63, 35, 36, 34, 52, 53, 51] = true := by decide +kernel
set_option maxRecDepth 20000 in
theorem nk_21 : nkB [113, 114, 115, 116] = true := by decide +kernel
set_option maxRecDepth 20000 in
theorem nk_22 : nkB [115, 116] = true := by decide +kernel
set_option maxRecDepth 20000 in
theorem nk_23 : nkB [31, 115, 116, 119, 120, 32, 33, 37, 49, 48, 38, 39, 45, 40, 41, 44, 42, 43, 47, 46, 50, 54, 66, 65, 55, 56, 62, 57, 58, 61, 59, 60, 64, 63, 35, 36, 34, 52, 53, 51] = true := by decide +kernel
set_option maxRecDepth 20000 in
theorem nk_24 : nkB [115, 116, 113, 114] = true := by decide +kernel
set_option maxRecDepth 20000 in
theorem nk_28 : ∀ z0, z0 < 6 → nkB [117, 118, (101 + 2 * z0), (101 + 2 * z0 + 1)] = true := by decide +kernel
set_option maxRecDepth 20000 in
theorem nk_31 : ∀ z0, z0 < 6 → nkB [12, (101 + 2 * z0), (101 + 2 * z0 + 1), 24, 23, 13, 14, 20, 15, 16, 19, 17, 18, 22, 21] = true := by decide +kernel
set_option maxRecDepth 20000 in
theorem nk_33 : ∀ z0, z0 < 6 → nkB [8, 10, 12, 14, 15, 16, (101 + 2 * z0), (101 + 2 * z0 + 1), 11, 9, 13, 18, 17] = true := by decide +kernel
set_option maxRecDepth 20000 in
theorem nk_35 : ∀ z0, z0 < 6 → nkB [32, 33, 37, (101 + 2 * z0), (101 + 2 * z0 + 1), 49, 48, 38, 39, 45, 40, 41, 44, 42, 43, 47, 46, 50, 54, 66, 65, 55, 56, 62, 57, 58, 61, 59, 60, 64, 63, 35, 36, 34, 52, 53, 51] = true := by decide +kernel
set_option maxRecDepth 20000 in
theorem nk_37 : ∀ z0, z0 < 6 → ∀ z1, z1 < 6 → z0 ≠ z1 → nkB [32, 33, 37, (101 + 2 * z0), (101 + 2 * z0 + 1), 49, 48, 38, 39, 45, 40, 41, 44, 42, 43, 47, 46, 50, 54, (101 + 2 * z1), (101 + 2 * z1 + 1), 66, 65, 55, 56, 62, 57, 58, 61, 59, 60, 64, 63, 35, 36, 34, 52, 53, 51] = true := by decide +kernel
set_option maxRecDepth 20000 in
theorem nk_38 : ∀ z0, z0 < 12 → nkB [25, (123 + 7 * z0), 26, (123 + 7 * z0 + 1), (123 + 7 * z0 + 2), 27, (123 + 7 * z0 + 3), (123 + 7 * z0 + 4)] = true := by decide +kernel
set_option maxRecDepth 20000 in
theorem nk_39 : ∀ z0, z0 < 12 → ∀ z1, z1 < 6 → nkB [(101 + 2 * z1), (101 + 2 * z1 + 1), (123 + 7 * z0), (123 + 7 * z0 + 5), (123 + 7 * z0 + 6), (123 + 7 * z0 + 1), (123 + 7 * z0 + 2)] = true := by decide +kernel
set_option maxRecDepth 20000 in
theorem nk_40 : ∀ z0, z0 < 12 → ∀ z1, z1 < 6 → nkB [(123 + 7 * z0), (101 + 2 * z1), (101 + 2 * z1 + 1), (123 + 7 * z0 + 5), (123 + 7 * z0 + 6), (123 + 7 * z0 + 1), (123 + 7 * z0 + 2), (123 + 7 * z0 + 3), (123 + 7 * z0 + 4), 117, 118] = true := by decide +kernel
set_option maxRecDepth 20000 in
theorem nk_41 : ∀ z0, z0 < 6 → nkB [119, 120, (101 + 2 * z0), (101 + 2 * z0 + 1)] = true := by decide +kernel
set_option maxRecDepth 20000 in
theorem nk_42 : ∀ z0, z0 < 6 → nkB [113, 114, (101 + 2 * z0), (101 + 2 * z0 + 1)] = true := by decide +kernel
set_option maxRecDepth 20000 in
theorem nk_43 : ∀ z0, z0 < 6 → nkB [84, 88, (101 + 2 * z0), (101 + 2 * z0 + 1), 100, 99, 89, 90, 96, 91, 92, 95, 93, 94, 98, 97, 85, 86] = true := by decide +kernel
set_option maxRecDepth 20000 in
theorem nk_44 : nkB [84, 87, 85] = true := by decide +kernel
set_option maxRecDepth 20000 in
theorem nk_45 : nkB [84, 86, 87, 85] = true := by decide +kernel
