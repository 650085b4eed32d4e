/-! THE CLAIM OUT OF ONE WALK OF THE LAW'S BODY. Your part is whole_start (and what it stands on); all else here is the same for every law, but numbers. -/
def R_law : String := "SameAfterLaw"
def lw_P (b : Addr) (xs : List Int32) (args : Array Value) (s : State) : Prop := args = #[.ref b] ∧ s.IntsAt b xs ∧ xs.length ≤ 3072 ∧ (Jvm.Cond.and given_1 narrow_1).before args s = true
def lw_Q (_ : Array Value) (s : State) (o : Outcome) (t : State) : Prop := o = .returned (some (.int 1)) ∧ Framed s o t [] 600000 7302250
def lw_Z (below : List Frame) (a : Array Value) (s : State) : State → Prop := fun t => ∃ o, t.status = .running ∧ Ended t below o ∧ lw_Q a s o t
/-- the law's own end, with 1 on the stack, nothing written that was there before, its room as the claim has it -/
theorem lw_ret {p : Program} {l : Launch} {e : Jvm.Env} {s : State} {m : MethodId} {below : List Frame} {meth : Method} {c : Code} {b : Nat} (hx : p.tables.exec = Jvm.exec) (hb : c.code = code) (hr : meth.sig.returnType = ret) (hlocks : meth.locks = false) {pc : Nat} {H : Heap} {ls : Array Slot} (hdg : decode code pc = .ok (.ireturn, 1)) : W p l e room_1 s m #[Value.ref b] below meth c H [] 600000 7302250 (lw_Z below #[Value.ref b] s) (F0 m pc ls [.int 1]) := by
  intro T hT X
  obtain ⟨fs, hret, hrun, hended, hW, hframe⟩ := X.leave (v := some (.int 1)) (hlocks := hlocks) (fun h => by rw [hr] at h; cases h)
  have hmeth' : T.vm.method? m = some meth := X.method'
  refine ⟨T.setFrames fs, ?_, .returned (some (.int 1)), hrun, hended, rfl, ⟨_, rfl⟩, hW, hframe⟩
  jvm_step X.here [X.here.top, hx, hb, hdg, hmeth', hr, ret, narrow_b1]
  (try refine ⟨rfl, ?_⟩); (try refine ⟨rfl, ?_⟩)
  first | (intro acts; rw [hret _ acts rfl rfl rfl]) | rw [hret _ _ rfl rfl rfl]
  exact Steps.refl _
/-- what holds at the law's entry: the machine, the code, the tables' words (any of lw_tbl by 'hts w (by decide +kernel)'), the script of L ints xs at the cell b, what the Statement gives of the start (any of its parts by flat_of_before) -/
def lw_At (p : Program) (s : State) (m : MethodId) (meth : Method) (c : Code) (b L : Nat) (xs : Nat → Int32) : Prop :=
  p.tables.exec = Jvm.exec ∧ c.code = code ∧ meth.sig.returnType = ret ∧ c.maxLocals = 4 ∧ s.vm.findClass R_law = some m.cls ∧ (∀ w ∈ lw_tbl, w.before #[Value.ref b] s = true) ∧ va_X b L xs s s.heap ∧ b < s.heap.size ∧ meth.locks = false ∧ (Jvm.Cond.and given_1 narrow_1).before #[Value.ref b] s = true
section KL
variable {p : Program} {l : Launch} {e : Jvm.Env} {R : Room} {s : State} {m : MethodId} {args : Array Value} {below : List Frame} {meth : Method} {c : Code} {H : Heap} {locs : List Loc} {cells slots : Nat} {Q : State → Prop}
variable {cc : ByteArray} {pc nL : Nat} {ls : Array Slot} {rest : List Value} {D : va_G} {A : Nat → Prop} {tys : List (ClassId × FieldType)} {ws : va_W} {H0 : Heap} {own : String} {b L : Nat} {xs : Nat → Int32}
theorem k_sld (C : CallFix p m c cc nL s args gG own) (hX : va_X b L xs s H0) (hbl : b < H0.size) (hbA : ¬ A b) (Wd : wX D tys s ws H A H0 locs) {i v : Int32} (hin : vp_in i L) (hv : xs i.toNatClampNeg = v) (hdg : decode cc pc = .ok (.iaload, 1))
    (kk : W p l e R s m args below meth c H locs cells slots Q (F0 m (pc + 1) ls (.int v :: rest))) : W p l e R s m args below meth c H locs cells slots Q (F0 m pc ls (.int i :: .ref b :: rest)) := by
  subst hv
  exact va_sld C.1 C.2.1 hX hbl hbA Wd.2.2.2.1 hin hdg kk
theorem k_slen (C : CallFix p m c cc nL s args gG own) (hX : va_X b L xs s H0) (hbl : b < H0.size) (hbA : ¬ A b) (Wd : wX D tys s ws H A H0 locs) {v : Int32} (hv : Int32.ofNat L = v) (hdg : decode cc pc = .ok (.arraylength, 1))
    (kk : W p l e R s m args below meth c H locs cells slots Q (F0 m (pc + 1) ls (.int v :: rest))) : W p l e R s m args below meth c H locs cells slots Q (F0 m pc ls (.ref b :: rest)) := by
  subst hv
  exact va_slen C.1 C.2.1 hX hbl hbA Wd.2.2.2.1 hdg kk
end KL
set_option maxRecDepth 20000 in
theorem tb_ao1 : Cond.arrayOver (.object RX8) ∈ lw_tbl := List.mem_append_right _ (List.mem_append_left _ (List.mem_of_getElem? (i := 29) rfl))
set_option maxRecDepth 20000 in
theorem tb_ao2 : Cond.arrayOver (.object RX9) ∈ lw_tbl := List.mem_append_right _ (List.mem_append_right _ (List.mem_append_left _ (List.mem_of_getElem? (i := 40) rfl)))
set_option maxRecDepth 20000 in
theorem tb_ao3 : Cond.arrayOver (.array .int) ∈ lw_tbl := List.mem_append_right _ (List.mem_append_right _ (List.mem_append_left _ (List.mem_of_getElem? (i := 8) rfl)))
set_option maxRecDepth 20000 in
theorem tb_nest : Cond.methodLinkNest RX7 71 yX11_isVariable RX11 ∈ lw_tbl := List.mem_append_right _ (List.mem_append_right _ (List.mem_append_right _ (List.mem_append_right _ (List.mem_append_right _ (List.mem_append_left _ (List.mem_of_getElem? (i := 172) rfl))))))
theorem law_D {s : State} {args : Array Value} (htg : ∀ w ∈ gG, w.before args s = true) : ∃ D : va_G, va_K D classes [] s := by
  obtain ⟨c0, i0, k0⟩ := u_known (C := RX0) (T := TX0) (N := 2) (n := 2) htg inX0 (htg _ is_X0)
  obtain ⟨c1, i1, k1⟩ := u_known (C := RX1) (T := TX1) (N := 14) (n := 14) htg inX1 (htg _ is_X1)
  obtain ⟨c2, i2, k2⟩ := u_known (C := RX2) (T := TX2) (N := 6) (n := 6) htg inX2 (htg _ is_X2)
  obtain ⟨c3, i3, k3⟩ := u_known (C := RX3) (T := TX3) (N := 7) (n := 7) htg inX3 (htg _ is_X3)
  obtain ⟨c4, i4, k4⟩ := u_known (C := RX4) (T := TX4) (N := 10) (n := 10) htg inX4 (htg _ is_X4)
  obtain ⟨c5, i5, k5⟩ := u_known (C := RX5) (T := TX5) (N := 7) (n := 7) htg inX5 (htg _ is_X5)
  obtain ⟨c6, i6, k6⟩ := u_known (C := RX6) (T := TX6) (N := 17) (n := 17) htg inX6 (htg _ is_X6)
  obtain ⟨c7, i7, k7⟩ := u_known (C := RX7) (T := TX7) (N := 5) (n := 5) htg inX7 (htg _ is_X7)
  obtain ⟨c8, i8, k8⟩ := u_known (C := RX8) (T := TX8) (N := 2) (n := 2) htg inX8 (htg _ is_X8)
  obtain ⟨c9, i9, k9⟩ := u_known (C := RX9) (T := TX9) (N := 5) (n := 5) htg inX9 (htg _ is_X9)
  obtain ⟨c10, i10, k10⟩ := u_known (C := RX10) (T := TX10) (N := 6) (n := 6) htg inX10 (htg _ is_X10)
  obtain ⟨c11, i11, k11⟩ := u_known (C := RX11) (T := TX11) (N := 8) (n := 8) htg inX11 (htg _ is_X11)
  obtain ⟨c12, i12, k12⟩ := u_known (C := RX12) (T := TX12) (N := 56) (n := 56) htg inX12 (htg _ is_X12)
  refine ⟨(fun k => [c0, c1, c2, c3, c4, c5, c6, c7, c8, c9, c10, c11, c12].getD k c0, fun k => [i0, i1, i2, i3, i4, i5, i6, i7, i8, i9, i10, i11, i12].getD k i0), ⟨?_, fun k q h => by simp at h⟩⟩
  intro k q hq
  match k, hq with
  | 0, hq => cases hq; exact k0
  | 1, hq => cases hq; exact k1
  | 2, hq => cases hq; exact k2
  | 3, hq => cases hq; exact k3
  | 4, hq => cases hq; exact k4
  | 5, hq => cases hq; exact k5
  | 6, hq => cases hq; exact k6
  | 7, hq => cases hq; exact k7
  | 8, hq => cases hq; exact k8
  | 9, hq => cases hq; exact k9
  | 10, hq => cases hq; exact k10
  | 11, hq => cases hq; exact k11
  | 12, hq => cases hq; exact k12
  | k + 13, hq => simp [classes] at hq
def tL (I : Nat → Int) (v : Value) : Prop := v = .int (zI (I 7))
theorem tL_eq {I I1 : Nat → Int} (h : I1 7 = I 7) : tL I1 = tL I := by unfold tL; rw [h]
theorem ap_l {α : Type} (a b : List α) {n : Nat} (h : a.length = n) : (List.range n).map (fun i => (a ++ b)[i]?) = a.map some := by
  subst h
  apply List.ext_getElem
  · simp
  · intro i h1 h2
    simp at h1 h2 ⊢
    rw [List.getElem?_append_left h1]
    simp [h1]
theorem ap_r {α : Type} (a b : List α) {n k : Nat} (h : a.length = n) (hk : b.length = k) : ((List.range k).map (fun i => n + i)).map (fun i => (a ++ b)[i]?) = b.map some := by
  subst h
  subst hk
  rw [List.map_map]
  apply List.ext_getElem
  · simp
  · intro i h1 h2
    simp at h1 h2 ⊢
    rw [List.getElem?_append_right (by omega)]
    simp [h2]
theorem fm_l {α : Type} (a b : List α) {n : Nat} (h : a.length = n) : (List.range n).filterMap (fun i => (a ++ b)[i]?) = a := fm_of (ap_l a b h)
theorem fm_r {α : Type} (a b : List α) {n k : Nat} (h : a.length = n) (hk : b.length = k) : ((List.range k).map (fun i => n + i)).filterMap (fun i => (a ++ b)[i]?) = b := fm_of (ap_r a b h hk)
theorem wN_len (cel : Nat → Cl) : (wN NC cel).length = NC := by simp [wN]
theorem wM_len (h : Nat) (adM : Nat → Nat) (caM : Nat → ClassId) (I : Nat → Int) (F : Nat → Int → Int) : (wM h adM caM I F).length = 26 := rfl
theorem tC_len (ca : Nat → ClassId) : (tC ca).length = NC := by simp [tC]
set_option maxRecDepth 20000 in
theorem nd_a : va_nd ((List.range 26).map (fun i => NC + i)) = true := by decide +kernel
set_option maxRecDepth 20000 in
theorem nd_b : va_nd ((List.range NC).map (fun i => 26 + i)) = true := by decide +kernel
set_option maxRecDepth 20000 in
theorem nd_c : va_nd ((List.range NC).map (fun i => 26 + i) ++ List.range 26) = true := by decide +kernel
set_option maxRecDepth 20000 in
theorem nd_d : va_nd ((List.range 26).map (fun i => NC + i) ++ List.range NC) = true := by decide +kernel
theorem nd_e : va_nd (List.range 26) = true := by decide
theorem ds_a : ∀ i ∈ (List.range 26).map (fun i => NC + i), i ∉ List.range NC := by
  intro i hi hj
  obtain ⟨k, -, rfl⟩ := List.mem_map.mp hi
  have := List.mem_range.mp hj
  omega
theorem ds_b : ∀ i ∈ (List.range NC).map (fun i => 26 + i), i ∉ List.range 26 := by
  intro i hi hj
  obtain ⟨k, -, rfl⟩ := List.mem_map.mp hi
  have := List.mem_range.mp hj
  omega
section LAW
variable {p : Program} {l : Launch} {e : Jvm.Env} {R : Room} {s : State} {m : MethodId} {args : Array Value} {below : List Frame} {meth : Method} {c : Code} {H : Heap} {locs : List Loc} {cells slots : Nat} {Q : State → Prop}
variable {cc : ByteArray} {pc nL : Nat} {ls : Array Slot} {rest : List Value} {D : va_G} {A : Nat → Prop} {H0 : Heap} {own : String} {st0 : List Value} {av : Array Value}
variable {ad : Nat → Nat} {ca : Nat → ClassId} {P' : Int32 → Nat → Value → Value → Prop} {cel : Nat → Cl} {h : Nat} {adM : Nat → Nat} {caM : Nat → ClassId} {I : Nat → Int} {F : Nat → Int → Int}
theorem wl_swap (Wd : wX D (tC ca ++ tM caM) s (wN NC cel ++ wM h adM caM I F) H A H0 locs) : wX D (tC ca ++ tM caM) s (wM h adM caM I F ++ wN NC cel) H A H0 locs :=
  k_sub Wd ((List.range 26).map (fun i => NC + i) ++ List.range NC) (by rw [List.map_append, List.map_append, ap_r _ _ (wN_len cel) (wM_len h adM caM I F), ap_l _ _ (wN_len cel)]) nd_d (List.range (NC + 25)) (by have := rg_ty (tC ca ++ tM caM); rw [List.length_append, tC_len] at this; exact this)
theorem wl_back (Wd : wX D (tC ca ++ tM caM) s (wM h adM caM I F ++ wN NC cel) H A H0 locs) : wX D (tC ca ++ tM caM) s (wN NC cel ++ wM h adM caM I F) H A H0 locs :=
  k_sub Wd ((List.range NC).map (fun i => 26 + i) ++ List.range 26) (by rw [List.map_append, List.map_append, ap_r _ _ (wM_len h adM caM I F) (wN_len cel), ap_l _ _ (wM_len h adM caM I F)]) nd_c (List.range (NC + 25)) (by have := rg_ty (tC ca ++ tM caM); rw [List.length_append, tC_len] at this; exact this)
theorem kl_ci {Rp : Int32 → Prop} (Wd : wX D (tC ca ++ tM caM) s (wN NC cel ++ wM h adM caM I F) H A H0 locs)
    (hr : va_Run p l e R s m args below meth c H locs cells slots 0 0 (F0 m pc ls st0) rest (va_Qi (fun (r : Int32) (c' : Nat → Cl) => Rp r ∧ InvC ad ca (P' r) c') (fun c' t => cB D (va_A (wN NC cel) H.size) [] (wN NC c') t) (va_A (wN NC cel) H.size) av) (va_A (wN NC cel) H.size))
    (kk : ∀ (r : Int32) (c' : Nat → Cl) (H1 : Heap) (locs1 : List Loc), Rp r → InvC ad ca (P' r) c' → wX D (tC ca ++ tM caM) s (wM h adM caM I F ++ wN NC c') H1 A H0 locs1 → W p l e R s m args below meth c H1 locs1 cells slots Q (F0 m (pc + 3) ls (.int r :: rest))) : W p l e R s m args below meth c H locs cells slots Q (F0 m pc ls st0) := by
  refine k_ci (t1 := fun _ => []) (w1 := fun c' => wN NC c') Wd (List.range NC) ((List.range 26).map (fun i => NC + i)) (ap_l _ _ (wN_len cel)) (wr := wM h adM caM I F) (ap_r _ _ (wN_len cel) rfl) nd_a ds_a (cells' := cells) (slots' := slots) (Nat.le_refl _) (Nat.le_refl _) hr (fun r u H1 locs1 hp W1 => ?_)
  exact kk r u H1 locs1 hp.1 hp.2 (by rw [List.append_nil] at W1; exact W1)
theorem kl_cm {Rp : Int32 → (Nat → Int) × (Nat → Int → Int) → Prop} (Wd : wX D (tC ca ++ tM caM) s (wM h adM caM I F ++ wN NC cel) H A H0 locs)
    (hr : va_Run p l e R s m args below meth c H locs cells slots 0 0 (F0 m pc ls st0) rest (va_Qi (fun (r : Int32) (u : (Nat → Int) × (Nat → Int → Int)) => Rp r u ∧ MInv u.1 u.2 ∧ rngS u.1 u.2) (fun u t => cB D (va_A (wM h adM caM I F) H.size) [] (wM h adM caM u.1 u.2) t) (va_A (wM h adM caM I F) H.size) av) (va_A (wM h adM caM I F) H.size))
    (kk : ∀ (r : Int32) (I1 : Nat → Int) (F1 : Nat → Int → Int) (H1 : Heap) (locs1 : List Loc), Rp r (I1, F1) → MInv I1 F1 → rngS I1 F1 → wX D (tC ca ++ tM caM) s (wN NC cel ++ wM h adM caM I1 F1) H1 A H0 locs1 → W p l e R s m args below meth c H1 locs1 cells slots Q (F0 m (pc + 3) ls (.int r :: rest))) : W p l e R s m args below meth c H locs cells slots Q (F0 m pc ls st0) := by
  refine k_ci (t1 := fun _ => []) (w1 := fun (u : (Nat → Int) × (Nat → Int → Int)) => wM h adM caM u.1 u.2) Wd (List.range 26) ((List.range NC).map (fun i => 26 + i)) (ap_l (wM h adM caM I F) (wN NC cel) rfl) (wr := wN NC cel) (ap_r (wM h adM caM I F) (wN NC cel) rfl (wN_len cel)) nd_b ds_b (cells' := cells) (slots' := slots) (Nat.le_refl _) (Nat.le_refl _) hr (fun r u H1 locs1 hp W1 => ?_)
  exact kk r u.1 u.2 H1 locs1 hp.1 hp.2.1 hp.2.2 (by rw [List.append_nil] at W1; exact W1)
theorem kl_cx {Rp : Int32 → (Nat → Cl) → Prop} (Wd : wX D (tC ca ++ tM caM) s (wN NC cel ++ wM h adM caM I F) H A H0 locs)
    (hr : va_Run p l e R s m args below meth c H locs cells slots 0 0 (F0 m pc ls st0) rest (va_Qi (fun (r : Int32) (c' : Nat → Cl) => Rp r c') (fun c' t => cB D (va_A (wN NC cel) H.size) [] (wN NC c') t) (va_A (wN NC cel) H.size) av) (va_A (wN NC cel) H.size))
    (kk : ∀ (r : Int32) (c' : Nat → Cl) (H1 : Heap) (locs1 : List Loc), Rp r c' → wX D (tC ca ++ tM caM) s (wM h adM caM I F ++ wN NC c') H1 A H0 locs1 → W p l e R s m args below meth c H1 locs1 cells slots Q (F0 m (pc + 3) ls (.int r :: rest))) : W p l e R s m args below meth c H locs cells slots Q (F0 m pc ls st0) := by
  refine k_ci (t1 := fun _ => []) (w1 := fun c' => wN NC c') Wd (List.range NC) ((List.range 26).map (fun i => NC + i)) (ap_l _ _ (wN_len cel)) (wr := wM h adM caM I F) (ap_r _ _ (wN_len cel) rfl) nd_a ds_a (cells' := cells) (slots' := slots) (Nat.le_refl _) (Nat.le_refl _) hr (fun r u H1 locs1 hp W1 => ?_)
  exact kk r u H1 locs1 hp (by rw [List.append_nil] at W1; exact W1)
theorem he_x {P : Nat → Value → Value → Prop} {M : va_W} (hI : InvC ad ca P cel) : ∃ fs, (wN NC cel ++ M)[0]? = some (ad 0, .inr (11, fs)) := by
  obtain ⟨_, e, _, rfl, _, _⟩ := at_E (by decide) (fx0 hI)
  exact ⟨_, (List.getElem?_append_left (by rw [wN_len]; decide)).trans e⟩
end LAW
theorem one_r {α : Type} (a : List α) (x : α) {n : Nat} (h : a.length = n) : ([n] : List Nat).map (fun i => (a ++ [x])[i]?) = [x].map some := by
  subst h
  simp
