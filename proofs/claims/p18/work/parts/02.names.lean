/-! ===== BEGIN words of one list among another's, by their places ===== -/
theorem goodIn_r {big : List Cond} (ws : List Cond) (ps : List Nat) (hp : ws = ps.filterMap (fun i => big[i]?)) (h : ws.all goodWord = true) : GoodIn big ws := by
  intro w hw
  have h1 := List.all_eq_true.mp h w hw
  rw [hp] at hw
  obtain ⟨i, -, hi⟩ := List.mem_filterMap.mp hw
  have hm : w ∈ big := by first | exact List.mem_of_getElem? hi | exact List.getElem?_mem hi
  exact ⟨hm, good_of_word h1⟩
theorem goodIn_app {big a b : List Cond} (ha : GoodIn big a) (hb : GoodIn big b) : GoodIn big (a ++ b) := fun w h => (List.mem_append.mp h).elim (ha w) (hb w)
theorem goodIn_ca {big a b : List Cond} {c : Cond} (ha : GoodIn big (c :: a)) (hb : GoodIn big b) : GoodIn big (c :: (a ++ b)) := fun w h => (List.mem_cons.mp h).elim (fun e => ha w (List.mem_cons.mpr (Or.inl e))) (fun h => (List.mem_append.mp h).elim (fun h => ha w (List.mem_cons.mpr (Or.inr h))) (hb w))
theorem goodIn_sub {big ws : List Cond} (hm : ∀ w ∈ ws, w ∈ big) (h : ws.all goodWord = true) : GoodIn big ws := fun w hw => ⟨hm w hw, good_of_word (List.all_eq_true.mp h w hw)⟩
/-! ===== END ===== -/

/-! ===== BEGIN new T[n][m]: the outer array a place, the inner ones among the pooled ===== -/
/-- f, but v at every address of l -/
def vr_up {α : Type} (f : Nat → α) (l : List Nat) (v : α) : Nat → α := fun a => if a ∈ l then v else f a
theorem vr_up_in {α : Type} {f : Nat → α} {l : List Nat} {v : α} {a : Nat} (h : a ∈ l) : vr_up f l v a = v := if_pos h
theorem vr_up_ne {α : Type} {f : Nat → α} {l : List Nat} {v : α} {a : Nat} (h : a ∉ l) : vr_up f l v a = f a := if_neg h
theorem vr_rows {L l : List Nat} {f : Nat → va_E} {e : va_E} (h : ∀ a, a ∈ l → a ∉ L) : va_pl L f ++ l.map (fun a => (a, e)) = va_pl (L ++ l) (vr_up f l e) := by
  unfold va_pl
  rw [List.map_append]
  congr 1
  · apply List.map_congr_left
    intro a ha
    rw [vr_up_ne (fun q => h a q ha)]
  · apply List.map_congr_left
    intro a ha
    rw [vr_up_in ha]
theorem vr_lay {X rows : va_W} {x : Nat × va_E} {pl : va_W} {D : va_G} {cl : List vw_C} {H : Heap} (hP : va_P D cl (((X ++ pl) ++ [x]) ++ rows) H) : va_P D cl ((X ++ [x]) ++ (pl ++ rows)) H := by
  rw [List.append_assoc (X ++ pl)] at hP
  have h := va_P.swap hP
  rw [← List.append_assoc X] at h
  have h2 := va_P.swap h
  rw [List.append_assoc (X ++ [x])] at h2
  exact h2
theorem vr_layD {X rows : va_W} {x : Nat × va_E} {pl : va_W} {A : Nat → Prop} (hD : va_D A (((X ++ pl) ++ [x]) ++ rows)) : va_D A ((X ++ [x]) ++ (pl ++ rows)) := by
  rw [List.append_assoc (X ++ pl)] at hD
  have h := va_D.swap hD
  rw [← List.append_assoc X] at h
  have h2 := va_D.swap h
  rw [List.append_assoc (X ++ [x])] at h2
  exact h2
theorem vr_outer (c : ClassId) (N h0 : Nat) : ∀ i : Nat, Jvm.Free.Multi.outerC c N h0 i = arrV c N (fun j => va_rf (if j < i then some (h0 + 1 + j) else none))
  | 0 => by
    show ({ cls := c, slots := Array.replicate N .null, vm := .none } : Cell) = _
    rw [arrV_new]
    refine congrArg (arrV c N) (funext fun j => ?_)
    simp [va_rf]
  | i + 1 => by
    show (Jvm.Free.Multi.outerC c N h0 i).setSlot i (.ref (h0 + 1 + i)) = _
    rw [vr_outer c N h0 i, arrV_store]
    refine congrArg (arrV c N) (funext fun j => ?_)
    by_cases e : j = i
    · subst e
      simp [updV, va_rf]
    · by_cases h : j < i
      · simp [updV, e, h, Nat.lt_succ_of_lt h]
      · simp [updV, e, h, show ¬ j < i + 1 by omega]
/-- an array class over arrays of ty (the kit's va_AO, for arrays of arrays) -/
def va_AOA (ty : FieldType) (U : State) : Prop := (Cond.arrayOver (.array ty)).before #[] U = true
theorem va_AOA.of {ty : FieldType} {A : Array Value} {U : State} (h : (Cond.arrayOver (.array ty)).before A U = true) : va_AOA ty U := h
theorem va_AOA.use {ty : FieldType} {A : Array Value} {U : State} (h : va_AOA ty U) : (Cond.arrayOver (.array ty)).before A U = true := h
section VGM
variable {p : Program} {l : Launch} {e : Env} {R : Room} {s : State} {m : MethodId} {args : Array Value} {below : List Frame} {meth : Method} {c : Code} {H : Heap} {locs : List Loc} {cells slots : Nat} {Q : State → Prop}
variable {cc : ByteArray} {pc : Nat} {ls : Array Slot} {rest : List Value} {D : va_G} {cl : List vw_C} {A : Nat → Prop} {a : Nat} {tys : List (ClassId × FieldType)} {ws : va_W} {H0 : Heap}
theorem va_mna {X : va_W} {L : List Nat} {f : Nat → va_E} {cc : ByteArray} (hexec : p.tables.exec = Jvm.exec) (hb : c.code = cc) {own : String} {index : Nat} {ty : FieldType} {cy : ClassId} (hown : s.vm.findClass own = some m.cls) (hclink : (Cond.classLink own index ("[" ++ (FieldType.array ty).toString)).before args s = true) (hover : va_AOA ty s) (harr : (Cond.arrayClass ty).before args s = true) (hcy : s.vm.findClass (FieldType.array ty).toString = some cy)
    (hK : va_K D cl tys s) (hP : va_P D cl (X ++ va_pl L f) H) (hD : va_D A (X ++ va_pl L f)) (hS : va_S A H0 H locs) (hA : ∀ q, H0.size ≤ q → A q) {n k : Int32} {N' K' : Nat} {z : vp_A} (hn : ¬ n < 0) (hk : ¬ k < 0) (hN : n.toNatClampNeg = N') (hM : k.toNatClampNeg = K')
    (hb1 : N' * 4 ≤ 536870912) (hb2 : K' * componentBytes ty ≤ 536870912) (hb3 : K' ≤ 536870912) (hdf : fits ty (defaultValue ty) = true) (hdd : (defaultValue ty).isDefault = true) (hcells : cells + (1 + N') ≤ R.cells) (hslots : slots + (N' + N' * K') ≤ R.slots) (hz : ∀ c : ClassId, Jvm.Free.Multi.innerC c K' (defaultValue ty) = vp_cell c z) (hdg : decode cc pc = .ok (.multianewarray index 2, 4))
    (kk : ∀ (q : Nat) (r : Nat → Nat) (cA : ClassId) (H1 : Heap), (∀ i j : Nat, i < N' → j < N' → r i = r j → i = j) → (∀ i : Nat, i < N' → r i ∉ L) → va_K D cl (tys ++ [(cA, .array ty)]) s →
      va_P D cl ((X ++ [(q, .inl (cA, N', .inr (.inr (.inr (.inr (fun i => if i < N' then some (r i) else none))))))]) ++ va_pl (L ++ (List.range N').map r) (vr_up f ((List.range N').map r) (.inl (cy, z)))) H1 → va_D A ((X ++ [(q, .inl (cA, N', .inr (.inr (.inr (.inr (fun i => if i < N' then some (r i) else none))))))]) ++ va_pl (L ++ (List.range N').map r) (vr_up f ((List.range N').map r) (.inl (cy, z)))) → va_S A H0 H1 locs →
      W p l e R s m args below meth c H1 locs (cells + 1 + N') (slots + N' + N' * K') Q (F0 m (pc + 4) ls (.ref q :: rest))) : W p l e R s m args below meth c H locs cells slots Q (F0 m pc ls (.int k :: .int n :: rest)) := by
  subst hN
  subst hM
  intro T hT Xs
  obtain ⟨vm₁, cA, comp, -, fA, fC, hO, -, X', step⟩ := Xs.multianewarray2F hexec hown hclink (va_AOA.use hover) harr (g := F0 m pc ls (.int k :: .int n :: rest)) rfl (by rw [hb]; exact hdg) rfl hn hk hb1 hb2 hb3 hdf hdd hcells hslots
  have ec : some cy = some comp := hcy.symm.trans fC
  cases ec
  generalize hF : Jvm.Free.Multi.fill (T.setVm vm₁) cA cy n.toNatClampNeg k.toNatClampNeg (defaultValue ty) n.toNatClampNeg = F at X' step
  have hTh : (T.setVm vm₁).heap = H := hT
  obtain ⟨f1, f2, -, -⟩ := Jvm.Free.Multi.fill_facts (T.setVm vm₁) cA cy n.toNatClampNeg k.toNatClampNeg (defaultValue ty) n.toNatClampNeg
  rw [hF, hTh] at f1 f2
  have hold : ∀ x : Nat, x < H.size → F.heap[x]? = H[x]? := fun x hx => by
    have := Jvm.Free.Multi.fill_old (T.setVm vm₁) cA cy n.toNatClampNeg k.toNatClampNeg (defaultValue ty) (a := x) (by rw [hTh]; exact hx) n.toNatClampNeg
    rw [hF, hTh] at this
    exact this
  have hrow : ∀ j : Nat, j < n.toNatClampNeg → F.heap[H.size + 1 + j]? = some (vp_cell cy z) := fun j hj => by
    have := Jvm.Free.Multi.fill_inner (T.setVm vm₁) cA cy n.toNatClampNeg k.toNatClampNeg (defaultValue ty) n.toNatClampNeg j hj
    rw [hF, hTh, hz] at this
    exact this
  have hout : Jvm.Free.Multi.outerC cA n.toNatClampNeg H.size n.toNatClampNeg = vp_cell cA (n.toNatClampNeg, .inr (.inr (.inr (.inr (fun i => if i < n.toNatClampNeg then some (H.size + 1 + i) else none))))) := by
    rw [vp_cell_q]
    exact vr_outer cA n.toNatClampNeg H.size n.toNatClampNeg
  rw [hout] at f2
  have hlt : ∀ a, a ∈ L → a < H.size := fun a ha => by
    obtain ⟨k9, hk9⟩ := va_pl_get (X := X) (f := f) ha
    exact (hP k9 _ hk9).lt
  have hnl : ∀ i : Nat, i < n.toNatClampNeg → H.size + 1 + i ∉ L := fun i _ h => by
    have := hlt _ h
    omega
  have hnm : ∀ a, a ∈ (List.range n.toNatClampNeg).map (fun i => H.size + 1 + i) → a ∉ L := fun a ha h => by
    obtain ⟨i, -, rfl⟩ := List.mem_map.mp ha
    have := hlt _ h
    omega
  have hP0 : va_P D cl (X ++ va_pl L f) F.heap := hP.kept (fun k9 x hx => hold x.1 ((hP k9 x hx).lt))
  have hP1 : va_P D cl ((X ++ va_pl L f) ++ [(H.size, .inl (cA, n.toNatClampNeg, .inr (.inr (.inr (.inr (fun i => if i < n.toNatClampNeg then some (H.size + 1 + i) else none))))))]) F.heap := hP0.app (fun k9 x hx => by
    have h0 : k9 < 1 := (List.getElem?_eq_some_iff.mp hx).1
    rw [show k9 = 0 by omega] at hx
    cases hx
    exact f2)
  have hP2 : va_P D cl (((X ++ va_pl L f) ++ [(H.size, .inl (cA, n.toNatClampNeg, .inr (.inr (.inr (.inr (fun i => if i < n.toNatClampNeg then some (H.size + 1 + i) else none))))))]) ++ ((List.range n.toNatClampNeg).map (fun i => H.size + 1 + i)).map (fun a => (a, .inl (cy, z)))) F.heap := hP1.app (fun k9 x hx => by
    obtain ⟨a, ha, rfl⟩ := List.mem_map.mp (List.mem_of_getElem? hx)
    obtain ⟨i, hi, rfl⟩ := List.mem_map.mp ha
    exact hrow i (List.mem_range.mp hi))
  have hD2 : va_D A (((X ++ va_pl L f) ++ [(H.size, .inl (cA, n.toNatClampNeg, .inr (.inr (.inr (.inr (fun i => if i < n.toNatClampNeg then some (H.size + 1 + i) else none))))))]) ++ ((List.range n.toNatClampNeg).map (fun i => H.size + 1 + i)).map (fun a => (a, .inl (cy, z)))) := by
    have hD1 := hD.push (e := .inl (cA, n.toNatClampNeg, .inr (.inr (.inr (.inr (fun i => if i < n.toNatClampNeg then some (H.size + 1 + i) else none)))))) hP rfl (hA _ hS.1)
    generalize hW1 : (X ++ va_pl L f) ++ [(H.size, .inl (cA, n.toNatClampNeg, .inr (.inr (.inr (.inr (fun i => if i < n.toNatClampNeg then some (H.size + 1 + i) else none))))))] = W1 at hD1 hP1 ⊢
    have hle : ∀ (k9 : Nat) (x : Nat × va_E), W1[k9]? = some x → x.1 ≤ H.size := fun k9 x hx => by
      rw [← hW1] at hx
      by_cases hl : k9 < (X ++ va_pl L f).length
      · rw [List.getElem?_append_left hl] at hx
        exact Nat.le_of_lt ((hP k9 x hx).lt)
      · rw [List.getElem?_append_right (by omega)] at hx
        have h0 : k9 - (X ++ va_pl L f).length < 1 := (List.getElem?_eq_some_iff.mp hx).1
        rw [show k9 - (X ++ va_pl L f).length = 0 by omega] at hx
        cases hx
        exact Nat.le_refl _
    have hr : ∀ (k9 : Nat) (x : Nat × va_E), (((List.range n.toNatClampNeg).map (fun i => H.size + 1 + i)).map (fun a => ((a, .inl (cy, z)) : Nat × va_E)))[k9]? = some x → x.1 = H.size + 1 + k9 := fun k9 x hx => by
      rw [List.getElem?_map, List.getElem?_map] at hx
      by_cases h9 : k9 < n.toNatClampNeg
      · rw [List.getElem?_range h9] at hx
        cases hx
        rfl
      · have hn0 : (List.range n.toNatClampNeg)[k9]? = none := List.getElem?_eq_none (by rw [List.length_range]; omega)
        rw [hn0] at hx
        cases hx
    refine ⟨fun i j x y hi hj hxy => ?_, fun k9 x hx => ?_⟩
    · by_cases h1 : i < W1.length <;> by_cases h2 : j < W1.length
      · rw [List.getElem?_append_left h1] at hi
        rw [List.getElem?_append_left h2] at hj
        exact hD1.1 i j x y hi hj hxy
      · rw [List.getElem?_append_left h1] at hi
        rw [List.getElem?_append_right (by omega)] at hj
        have := hle _ _ hi
        have := hr _ _ hj
        omega
      · rw [List.getElem?_append_right (by omega)] at hi
        rw [List.getElem?_append_left h2] at hj
        have := hle _ _ hj
        have := hr _ _ hi
        omega
      · rw [List.getElem?_append_right (by omega)] at hi hj
        have := hr _ _ hi
        have := hr _ _ hj
        omega
    · by_cases h1 : k9 < W1.length
      · rw [List.getElem?_append_left h1] at hx
        exact hD1.2 k9 x hx
      · rw [List.getElem?_append_right (by omega)] at hx
        have := hr _ _ hx
        exact hA _ (by have := hS.1; omega)
  have hAr : ArrOfT s cA (.array ty) := fun N9 z9 => by
    obtain ⟨-, k9, hk9, cm9, hkk9⟩ := (hO 0 0 0).1
    exact ⟨(fun q hq => by cases hq), k9, hk9, cm9, hkk9⟩
  have hK2 : va_K D cl (tys ++ [(cA, .array ty)]) s := ⟨hK.1, fun k9 x hx => by
    by_cases hl : k9 < tys.length
    · rw [List.getElem?_append_left hl] at hx
      exact hK.2 k9 x hx
    · rw [List.getElem?_append_right (by omega)] at hx
      have h0 : k9 - tys.length < 1 := (List.getElem?_eq_some_iff.mp hx).1
      rw [show k9 - tys.length = 0 by omega] at hx
      cases hx
      exact ⟨hAr, fA⟩⟩
  obtain ⟨t, a1, b1⟩ := kk H.size (fun i => H.size + 1 + i) cA F.heap (fun i j _ _ h => by have h9 : H.size + 1 + i = H.size + 1 + j := h; omega) hnl hK2 (by rw [← vr_rows hnm]; exact vr_lay hP2) (by rw [← vr_rows hnm]; exact vr_layD hD2) ⟨by rw [f1]; have := hS.1; omega, fun x h1 h2 => (hold x (Nat.lt_of_lt_of_le h1 hS.1)).trans (hS.2.1 x h1 h2), hS.2.2⟩ F rfl X'
  refine ⟨t, step t ?_, b1⟩
  have e : T.heap.size = H.size := by rw [hT]
  rw [e]
  exact a1
end VGM
/-! ===== END ===== -/

/-! ===== BEGIN printed: names, fields, word lists, decode rows ===== -/
def RX0 : String := "SameAfter$Acts"
def TX0 : u_T := fun k => match k with
  | 0 => ("SameAfter$Acts", "spare", "LSameAfter$Row;", true)
  | _ => ("SameAfter$Acts", "flow", "LSameAfter$Flow;", true)
def tyX0 : Nat → FieldType := fun k => match k with
  | 0 => .object "SameAfter$Row"
  | _ => .object "SameAfter$Flow"
abbrev wsX00 : List Cond := u_ws RX0 TX0 2
theorem nmX0 : ∀ a, a < 2 → ∀ b, b < 2 → a ≠ b → (TX0 a).2.1 ≠ (TX0 b).2.1 := by decide +kernel
theorem tyX0_ok : ∀ k, k < 2 → parseFieldDescriptor (TX0 k).2.2.1 = some (tyX0 k) := by decide +kernel
abbrev cX0_init : ByteArray := prog_2_method_1_code
def yX0_init : MethodName := ⟨RX0, "<init>", "()V"⟩
abbrev cX0_fold : ByteArray := prog_2_method_2_code
def yX0_fold : MethodName := ⟨RX0, "fold", "(LSameAfter$Row;)V"⟩
abbrev cX0_foldOperations : ByteArray := prog_2_method_3_code
def yX0_foldOperations : MethodName := ⟨RX0, "foldOperations", "(LSameAfter$Row;)V"⟩
abbrev cX0_foldBranch : ByteArray := prog_2_method_4_code
def yX0_foldBranch : MethodName := ⟨RX0, "foldBranch", "(LSameAfter$Row;IZ)V"⟩
abbrev cX0_dead : ByteArray := prog_2_method_5_code
def yX0_dead : MethodName := ⟨RX0, "dead", "(LSameAfter$Row;)V"⟩
abbrev cX0_hastyDead : ByteArray := prog_2_method_6_code
def yX0_hastyDead : MethodName := ⟨RX0, "hastyDead", "(LSameAfter$Row;)V"⟩
abbrev cX0_hastyCopy : ByteArray := prog_2_method_7_code
def yX0_hastyCopy : MethodName := ⟨RX0, "hastyCopy", "(LSameAfter$Row;)V"⟩
abbrev cX0_copyBehind : ByteArray := prog_2_method_8_code
def yX0_copyBehind : MethodName := ⟨RX0, "copyBehind", "(LSameAfter$Row;III)V"⟩
abbrev cX0_unroll : ByteArray := prog_2_method_9_code
def yX0_unroll : MethodName := ⟨RX0, "unroll", "(LSameAfter$Row;)V"⟩
def RX1 : String := "SameAfter$Flow"
def TX1 : u_T := fun k => match k with
  | 0 => ("SameAfter$Flow", "row", "LSameAfter$Row;", false)
  | 1 => ("SameAfter$Flow", "count", "I", false)
  | 2 => ("SameAfter$Flow", "place", "[I", true)
  | 3 => ("SameAfter$Flow", "kinds", "[I", true)
  | 4 => ("SameAfter$Flow", "from", "[I", true)
  | 5 => ("SameAfter$Flow", "to", "[I", true)
  | 6 => ("SameAfter$Flow", "yes", "[I", true)
  | 7 => ("SameAfter$Flow", "no", "[I", true)
  | 8 => ("SameAfter$Flow", "reads", "[I", true)
  | 9 => ("SameAfter$Flow", "sets", "[I", true)
  | 10 => ("SameAfter$Flow", "ahead", "[I", true)
  | 11 => ("SameAfter$Flow", "behindAll", "[I", true)
  | 12 => ("SameAfter$Flow", "open", "[I", true)
  | _ => ("SameAfter$Flow", "owner", "[I", true)
def tyX1 : Nat → FieldType := fun k => match k with
  | 0 => .object "SameAfter$Row"
  | 1 => .int
  | 2 => .array .int
  | 3 => .array .int
  | 4 => .array .int
  | 5 => .array .int
  | 6 => .array .int
  | 7 => .array .int
  | 8 => .array .int
  | 9 => .array .int
  | 10 => .array .int
  | 11 => .array .int
  | 12 => .array .int
  | _ => .array .int
abbrev wsX10 : List Cond := u_ws RX1 TX1 14
theorem nmX1 : ∀ a, a < 14 → ∀ b, b < 14 → a ≠ b → (TX1 a).2.1 ≠ (TX1 b).2.1 := by decide +kernel
theorem tyX1_ok : ∀ k, k < 14 → parseFieldDescriptor (TX1 k).2.2.1 = some (tyX1 k) := by decide +kernel
abbrev cX1_init : ByteArray := prog_3_method_1_code
def yX1_init : MethodName := ⟨RX1, "<init>", "()V"⟩
abbrev cX1_trace : ByteArray := prog_3_method_2_code
def yX1_trace : MethodName := ⟨RX1, "trace", "(LSameAfter$Row;)V"⟩
abbrev cX1_setBy : ByteArray := prog_3_method_3_code
def yX1_setBy : MethodName := ⟨RX1, "setBy", "(I)I"⟩
abbrev cX1_aheadOf : ByteArray := prog_3_method_4_code
def yX1_aheadOf : MethodName := ⟨RX1, "aheadOf", "(I)I"⟩
abbrev cX1_behind : ByteArray := prog_3_method_5_code
def yX1_behind : MethodName := ⟨RX1, "behind", "(I)I"⟩
abbrev cX1_isHere : ByteArray := prog_3_method_6_code
def yX1_isHere : MethodName := ⟨RX1, "isHere", "(I)Z"⟩
abbrev cX1_number : ByteArray := prog_3_method_7_code
def yX1_number : MethodName := ⟨RX1, "number", "()V"⟩
abbrev cX1_begin : ByteArray := prog_3_method_8_code
def yX1_begin : MethodName := ⟨RX1, "begin", "(II)V"⟩
abbrev cX1_link : ByteArray := prog_3_method_9_code
def yX1_link : MethodName := ⟨RX1, "link", "()V"⟩
abbrev cX1_linkAt : ByteArray := prog_3_method_10_code
def yX1_linkAt : MethodName := ⟨RX1, "linkAt", "(III)I"⟩
abbrev cX1_settle : ByteArray := prog_3_method_11_code
def yX1_settle : MethodName := ⟨RX1, "settle", "()V"⟩
def RX2 : String := "SameAfter$Judge"
def TX2 : u_T := fun k => match k with
  | 0 => ("SameAfter$Judge", "first", "I", false)
  | 1 => ("SameAfter$Judge", "firstPlace", "I", false)
  | 2 => ("SameAfter$Judge", "parted", "I", false)
  | 3 => ("SameAfter$Judge", "tired", "Z", false)
  | 4 => ("SameAfter$Judge", "one", "LSameAfter$Machine;", true)
  | _ => ("SameAfter$Judge", "other", "LSameAfter$Machine;", true)
def tyX2 : Nat → FieldType := fun k => match k with
  | 0 => .int
  | 1 => .int
  | 2 => .int
  | 3 => .boolean
  | 4 => .object "SameAfter$Machine"
  | _ => .object "SameAfter$Machine"
abbrev wsX20 : List Cond := u_ws RX2 TX2 6
theorem nmX2 : ∀ a, a < 6 → ∀ b, b < 6 → a ≠ b → (TX2 a).2.1 ≠ (TX2 b).2.1 := by decide +kernel
theorem tyX2_ok : ∀ k, k < 6 → parseFieldDescriptor (TX2 k).2.2.1 = some (tyX2 k) := by decide +kernel
abbrev cX2_init : ByteArray := prog_4_method_1_code
def yX2_init : MethodName := ⟨RX2, "<init>", "()V"⟩
abbrev cX2_verdict : ByteArray := prog_4_method_2_code
def yX2_verdict : MethodName := ⟨RX2, "verdict", "()I"⟩
abbrev cX2_compare : ByteArray := prog_4_method_3_code
def yX2_compare : MethodName := ⟨RX2, "compare", "(LSameAfter$Row;LSameAfter$Row;Z)Z"⟩
abbrev cX2_note : ByteArray := prog_4_method_4_code
def yX2_note : MethodName := ⟨RX2, "note", "(II)V"⟩
abbrev cX2_placeThatDiffers : ByteArray := prog_4_method_5_code
def yX2_placeThatDiffers : MethodName := ⟨RX2, "placeThatDiffers", "()I"⟩
def RX3 : String := "SameAfter$Machine"
def TX3 : u_T := fun k => match k with
  | 0 => ("SameAfter$Machine", "flow", "LSameAfter$Flow;", true)
  | 1 => ("SameAfter$Machine", "outputs", "[I", true)
  | 2 => ("SameAfter$Machine", "outputCount", "I", false)
  | 3 => ("SameAfter$Machine", "steps", "I", false)
  | 4 => ("SameAfter$Machine", "ending", "I", false)
  | 5 => ("SameAfter$Machine", "words", "[I", true)
  | _ => ("SameAfter$Machine", "stack", "[I", true)
def tyX3 : Nat → FieldType := fun k => match k with
  | 0 => .object "SameAfter$Flow"
  | 1 => .array .int
  | 2 => .int
  | 3 => .int
  | 4 => .int
  | 5 => .array .int
  | _ => .array .int
abbrev wsX30 : List Cond := u_ws RX3 TX3 7
theorem nmX3 : ∀ a, a < 7 → ∀ b, b < 7 → a ≠ b → (TX3 a).2.1 ≠ (TX3 b).2.1 := by decide +kernel
theorem tyX3_ok : ∀ k, k < 7 → parseFieldDescriptor (TX3 k).2.2.1 = some (tyX3 k) := by decide +kernel
abbrev cX3_init : ByteArray := prog_5_method_1_code
def yX3_init : MethodName := ⟨RX3, "<init>", "()V"⟩
abbrev cX3_go : ByteArray := prog_5_method_2_code
def yX3_go : MethodName := ⟨RX3, "go", "(II)V"⟩
abbrev cX3_isTired : ByteArray := prog_5_method_3_code
def yX3_isTired : MethodName := ⟨RX3, "isTired", "()Z"⟩
abbrev cX3_tell : ByteArray := prog_5_method_4_code
def yX3_tell : MethodName := ⟨RX3, "tell", "(I)I"⟩
abbrev cX3_output : ByteArray := prog_5_method_5_code
def yX3_output : MethodName := ⟨RX3, "output", "(I)I"⟩
abbrev cX3_doStatement : ByteArray := prog_5_method_6_code
def yX3_doStatement : MethodName := ⟨RX3, "doStatement", "(I)I"⟩
def RX4 : String := "SameAfter$Passes"
def TX4 : u_T := fun k => match k with
  | 0 => ("SameAfter$Passes", "judgement", "LSameAfter$Judge;", true)
  | 1 => ("SameAfter$Passes", "made", "LSameAfter$Row;", true)
  | 2 => ("SameAfter$Passes", "kept", "LSameAfter$Row;", true)
  | 3 => ("SameAfter$Passes", "bad", "I", false)
  | 4 => ("SameAfter$Passes", "badInputs", "I", false)
  | 5 => ("SameAfter$Passes", "rules", "[LSameAfter$Rule;", true)
  | 6 => ("SameAfter$Passes", "items", "[[I", true)
  | 7 => ("SameAfter$Passes", "counts", "[I", true)
  | 8 => ("SameAfter$Passes", "acts", "LSameAfter$Acts;", true)
  | _ => ("SameAfter$Passes", "trial", "LSameAfter$Row;", true)
def tyX4 : Nat → FieldType := fun k => match k with
  | 0 => .object "SameAfter$Judge"
  | 1 => .object "SameAfter$Row"
  | 2 => .object "SameAfter$Row"
  | 3 => .int
  | 4 => .int
  | 5 => .array (.object "SameAfter$Rule")
  | 6 => .array (.array .int)
  | 7 => .array .int
  | 8 => .object "SameAfter$Acts"
  | _ => .object "SameAfter$Row"
abbrev wsX40 : List Cond := u_ws RX4 TX4 10
theorem nmX4 : ∀ a, a < 10 → ∀ b, b < 10 → a ≠ b → (TX4 a).2.1 ≠ (TX4 b).2.1 := by decide +kernel
theorem tyX4_ok : ∀ k, k < 10 → parseFieldDescriptor (TX4 k).2.2.1 = some (tyX4 k) := by decide +kernel
abbrev cX4_init : ByteArray := prog_6_method_1_code
def yX4_init : MethodName := ⟨RX4, "<init>", "()V"⟩
abbrev cX4_ruleAt : ByteArray := prog_6_method_2_code
def yX4_ruleAt : MethodName := ⟨RX4, "ruleAt", "(I)LSameAfter$Rule;"⟩
abbrev cX4_isPass : ByteArray := prog_6_method_3_code
def yX4_isPass : MethodName := ⟨RX4, "isPass", "(I)Z"⟩
abbrev cX4_addItem : ByteArray := prog_6_method_4_code
def yX4_addItem : MethodName := ⟨RX4, "addItem", "(II)I"⟩
abbrev cX4_dropItems : ByteArray := prog_6_method_5_code
def yX4_dropItems : MethodName := ⟨RX4, "dropItems", "(I)Z"⟩
abbrev cX4_makeOf : ByteArray := prog_6_method_6_code
def yX4_makeOf : MethodName := ⟨RX4, "makeOf", "(ILSameAfter$Row;)Z"⟩
abbrev cX4_applyRule : ByteArray := prog_6_method_7_code
def yX4_applyRule : MethodName := ⟨RX4, "applyRule", "(LSameAfter$Rule;)Z"⟩
abbrev cX4_findBad : ByteArray := prog_6_method_8_code
def yX4_findBad : MethodName := ⟨RX4, "findBad", "(LSameAfter$Row;)V"⟩
abbrev cX4_madeWrong : ByteArray := prog_6_method_9_code
def yX4_madeWrong : MethodName := ⟨RX4, "madeWrong", "(LSameAfter$Row;)Z"⟩
abbrev cX4_cutDown : ByteArray := prog_6_method_10_code
def yX4_cutDown : MethodName := ⟨RX4, "cutDown", "(ILSameAfter$Row;)Z"⟩
def RX5 : String := "SameAfter$Proof"
def TX5 : u_T := fun k => match k with
  | 0 => ("SameAfter$Proof", "first", "I", false)
  | 1 => ("SameAfter$Proof", "wrongs", "I", false)
  | 2 => ("SameAfter$Proof", "words", "[I", true)
  | 3 => ("SameAfter$Proof", "stack", "[I", true)
  | 4 => ("SameAfter$Proof", "forms", "[[I", true)
  | 5 => ("SameAfter$Proof", "leftForm", "[I", true)
  | _ => ("SameAfter$Proof", "product", "[I", true)
def tyX5 : Nat → FieldType := fun k => match k with
  | 0 => .int
  | 1 => .int
  | 2 => .array .int
  | 3 => .array .int
  | 4 => .array (.array .int)
  | 5 => .array .int
  | _ => .array .int
abbrev wsX50 : List Cond := u_ws RX5 TX5 7
theorem nmX5 : ∀ a, a < 7 → ∀ b, b < 7 → a ≠ b → (TX5 a).2.1 ≠ (TX5 b).2.1 := by decide +kernel
theorem tyX5_ok : ∀ k, k < 7 → parseFieldDescriptor (TX5 k).2.2.1 = some (tyX5 k) := by decide +kernel
abbrev cX5_init : ByteArray := prog_7_method_1_code
def yX5_init : MethodName := ⟨RX5, "<init>", "()V"⟩
abbrev cX5_tryAll : ByteArray := prog_7_method_2_code
def yX5_tryAll : MethodName := ⟨RX5, "tryAll", "(LSameAfter$Rule;)V"⟩
abbrev cX5_tryOne : ByteArray := prog_7_method_3_code
def yX5_tryOne : MethodName := ⟨RX5, "tryOne", "(LSameAfter$Rule;III)V"⟩
abbrev cX5_valueOf : ByteArray := prog_7_method_4_code
def yX5_valueOf : MethodName := ⟨RX5, "valueOf", "(LSameAfter$Row;)I"⟩
abbrev cX5_compareForms : ByteArray := prog_7_method_5_code
def yX5_compareForms : MethodName := ⟨RX5, "compareForms", "(LSameAfter$Rule;)I"⟩
abbrev cX5_hasForm : ByteArray := prog_7_method_6_code
def yX5_hasForm : MethodName := ⟨RX5, "hasForm", "(LSameAfter$Row;)Z"⟩
abbrev cX5_mostTimes : ByteArray := prog_7_method_7_code
def yX5_mostTimes : MethodName := ⟨RX5, "mostTimes", "(LSameAfter$Row;I)I"⟩
abbrev cX5_multiplyOut : ByteArray := prog_7_method_8_code
def yX5_multiplyOut : MethodName := ⟨RX5, "multiplyOut", "(LSameAfter$Row;)V"⟩
abbrev cX5_beginForm : ByteArray := prog_7_method_9_code
def yX5_beginForm : MethodName := ⟨RX5, "beginForm", "([II)V"⟩
abbrev cX5_addUp : ByteArray := prog_7_method_10_code
def yX5_addUp : MethodName := ⟨RX5, "addUp", "([I[II)V"⟩
abbrev cX5_multiply : ByteArray := prog_7_method_11_code
def yX5_multiply : MethodName := ⟨RX5, "multiply", "([I[I)V"⟩
abbrev cX5_addMultiple : ByteArray := prog_7_method_12_code
def yX5_addMultiple : MethodName := ⟨RX5, "addMultiple", "(II[I)V"⟩
def RX6 : String := "SameAfter$Reader"
def TX6 : u_T := fun k => match k with
  | 0 => ("SameAfter$Reader", "tape", "LSameAfter$Tape;", true)
  | 1 => ("SameAfter$Reader", "fault", "I", false)
  | 2 => ("SameAfter$Reader", "faultPlace", "I", false)
  | 3 => ("SameAfter$Reader", "row", "LSameAfter$Row;", false)
  | 4 => ("SameAfter$Reader", "rule", "LSameAfter$Rule;", false)
  | 5 => ("SameAfter$Reader", "state", "I", false)
  | 6 => ("SameAfter$Reader", "purpose", "I", false)
  | 7 => ("SameAfter$Reader", "statements", "I", false)
  | 8 => ("SameAfter$Reader", "things", "I", false)
  | 9 => ("SameAfter$Reader", "mostThings", "I", false)
  | 10 => ("SameAfter$Reader", "sumStart", "I", false)
  | 11 => ("SameAfter$Reader", "productStart", "I", false)
  | 12 => ("SameAfter$Reader", "testPlace", "I", false)
  | 13 => ("SameAfter$Reader", "opened", "I", false)
  | 14 => ("SameAfter$Reader", "openKinds", "[I", true)
  | 15 => ("SameAfter$Reader", "openSums", "[I", true)
  | _ => ("SameAfter$Reader", "openProducts", "[I", true)
def tyX6 : Nat → FieldType := fun k => match k with
  | 0 => .object "SameAfter$Tape"
  | 1 => .int
  | 2 => .int
  | 3 => .object "SameAfter$Row"
  | 4 => .object "SameAfter$Rule"
  | 5 => .int
  | 6 => .int
  | 7 => .int
  | 8 => .int
  | 9 => .int
  | 10 => .int
  | 11 => .int
  | 12 => .int
  | 13 => .int
  | 14 => .array .int
  | 15 => .array .int
  | _ => .array .int
abbrev wsX60 : List Cond := u_ws RX6 TX6 17
theorem nmX6 : ∀ a, a < 17 → ∀ b, b < 17 → a ≠ b → (TX6 a).2.1 ≠ (TX6 b).2.1 := by decide +kernel
theorem tyX6_ok : ∀ k, k < 17 → parseFieldDescriptor (TX6 k).2.2.1 = some (tyX6 k) := by decide +kernel
abbrev cX6_init : ByteArray := prog_8_method_1_code
def yX6_init : MethodName := ⟨RX6, "<init>", "()V"⟩
abbrev cX6_drop : ByteArray := prog_8_method_2_code
def yX6_drop : MethodName := ⟨RX6, "drop", "()V"⟩
abbrev cX6_beginProgram : ByteArray := prog_8_method_3_code
def yX6_beginProgram : MethodName := ⟨RX6, "beginProgram", "(LSameAfter$Row;)V"⟩
abbrev cX6_beginRule : ByteArray := prog_8_method_4_code
def yX6_beginRule : MethodName := ⟨RX6, "beginRule", "(LSameAfter$Rule;)V"⟩
abbrev cX6_begin : ByteArray := prog_8_method_5_code
def yX6_begin : MethodName := ⟨RX6, "begin", "(LSameAfter$Row;LSameAfter$Rule;I)V"⟩
abbrev cX6_readAll : ByteArray := prog_8_method_6_code
def yX6_readAll : MethodName := ⟨RX6, "readAll", "()Z"⟩
abbrev cX6_refuse : ByteArray := prog_8_method_7_code
def yX6_refuse : MethodName := ⟨RX6, "refuse", "(I)V"⟩
abbrev cX6_takeBehindThen : ByteArray := prog_8_method_8_code
def yX6_takeBehindThen : MethodName := ⟨RX6, "takeBehindThen", "()V"⟩
abbrev cX6_takeElseBrace : ByteArray := prog_8_method_9_code
def yX6_takeElseBrace : MethodName := ⟨RX6, "takeElseBrace", "()V"⟩
abbrev cX6_takeSetSign : ByteArray := prog_8_method_10_code
def yX6_takeSetSign : MethodName := ⟨RX6, "takeSetSign", "()V"⟩
abbrev cX6_takeSemicolon : ByteArray := prog_8_method_11_code
def yX6_takeSemicolon : MethodName := ⟨RX6, "takeSemicolon", "()V"⟩
abbrev cX6_takeStatement : ByteArray := prog_8_method_12_code
def yX6_takeStatement : MethodName := ⟨RX6, "takeStatement", "()V"⟩
abbrev cX6_beginStatement : ByteArray := prog_8_method_13_code
def yX6_beginStatement : MethodName := ⟨RX6, "beginStatement", "(I)V"⟩
abbrev cX6_beginExpression : ByteArray := prog_8_method_14_code
def yX6_beginExpression : MethodName := ⟨RX6, "beginExpression", "(I)V"⟩
abbrev cX6_takeOperand : ByteArray := prog_8_method_15_code
def yX6_takeOperand : MethodName := ⟨RX6, "takeOperand", "()V"⟩
abbrev cX6_takeNumber : ByteArray := prog_8_method_16_code
def yX6_takeNumber : MethodName := ⟨RX6, "takeNumber", "()V"⟩
abbrev cX6_takeLetter : ByteArray := prog_8_method_17_code
def yX6_takeLetter : MethodName := ⟨RX6, "takeLetter", "()V"⟩
abbrev cX6_countThing : ByteArray := prog_8_method_18_code
def yX6_countThing : MethodName := ⟨RX6, "countThing", "()Z"⟩
abbrev cX6_takeBehindOperand : ByteArray := prog_8_method_19_code
def yX6_takeBehindOperand : MethodName := ⟨RX6, "takeBehindOperand", "()V"⟩
abbrev cX6_takeOperation : ByteArray := prog_8_method_20_code
def yX6_takeOperation : MethodName := ⟨RX6, "takeOperation", "(I)V"⟩
abbrev cX6_endExpression : ByteArray := prog_8_method_21_code
def yX6_endExpression : MethodName := ⟨RX6, "endExpression", "(I)V"⟩
abbrev cX6_openBlock : ByteArray := prog_8_method_22_code
def yX6_openBlock : MethodName := ⟨RX6, "openBlock", "(I)V"⟩
abbrev cX6_open : ByteArray := prog_8_method_23_code
def yX6_open : MethodName := ⟨RX6, "open", "(I)Z"⟩
abbrev cX6_closeBlock : ByteArray := prog_8_method_24_code
def yX6_closeBlock : MethodName := ⟨RX6, "closeBlock", "()V"⟩
def RX7 : String := "SameAfter$Registers"
def TX7 : u_T := fun k => match k with
  | 0 => ("SameAfter$Registers", "flow", "LSameAfter$Flow;", true)
  | 1 => ("SameAfter$Registers", "clashes", "[I", true)
  | 2 => ("SameAfter$Registers", "comings", "[I", true)
  | 3 => ("SameAfter$Registers", "given", "[I", true)
  | _ => ("SameAfter$Registers", "present", "I", false)
def tyX7 : Nat → FieldType := fun k => match k with
  | 0 => .object "SameAfter$Flow"
  | 1 => .array .int
  | 2 => .array .int
  | 3 => .array .int
  | _ => .int
abbrev wsX70 : List Cond := u_ws RX7 TX7 5
theorem nmX7 : ∀ a, a < 5 → ∀ b, b < 5 → a ≠ b → (TX7 a).2.1 ≠ (TX7 b).2.1 := by decide +kernel
theorem tyX7_ok : ∀ k, k < 5 → parseFieldDescriptor (TX7 k).2.2.1 = some (tyX7 k) := by decide +kernel
abbrev cX7_init : ByteArray := prog_9_method_1_code
def yX7_init : MethodName := ⟨RX7, "<init>", "()V"⟩
abbrev cX7_study : ByteArray := prog_9_method_2_code
def yX7_study : MethodName := ⟨RX7, "study", "(LSameAfter$Row;)V"⟩
abbrev cX7_count : ByteArray := prog_9_method_3_code
def yX7_count : MethodName := ⟨RX7, "count", "(I)V"⟩
abbrev cX7_noteClashes : ByteArray := prog_9_method_4_code
def yX7_noteClashes : MethodName := ⟨RX7, "noteClashes", "(II)V"⟩
abbrev cX7_clashing : ByteArray := prog_9_method_5_code
def yX7_clashing : MethodName := ⟨RX7, "clashing", "(II)Z"⟩
abbrev cX7_fewest : ByteArray := prog_9_method_6_code
def yX7_fewest : MethodName := ⟨RX7, "fewest", "()I"⟩
abbrev cX7_registerOf : ByteArray := prog_9_method_7_code
def yX7_registerOf : MethodName := ⟨RX7, "registerOf", "(I)I"⟩
abbrev cX7_spills : ByteArray := prog_9_method_8_code
def yX7_spills : MethodName := ⟨RX7, "spills", "(I)I"⟩
abbrev cX7_comingsOf : ByteArray := prog_9_method_9_code
def yX7_comingsOf : MethodName := ⟨RX7, "comingsOf", "(I)I"⟩
abbrev cX7_deal : ByteArray := prog_9_method_10_code
def yX7_deal : MethodName := ⟨RX7, "deal", "(III)Z"⟩
abbrev cX7_isFree : ByteArray := prog_9_method_11_code
def yX7_isFree : MethodName := ⟨RX7, "isFree", "(II)Z"⟩
def RX8 : String := "SameAfter$Row"
def TX8 : u_T := fun k => match k with
  | 0 => ("SameAfter$Row", "cells", "[I", true)
  | _ => ("SameAfter$Row", "length", "I", false)
def tyX8 : Nat → FieldType := fun k => match k with
  | 0 => .array .int
  | _ => .int
abbrev wsX80 : List Cond := u_ws RX8 TX8 2
theorem nmX8 : ∀ a, a < 2 → ∀ b, b < 2 → a ≠ b → (TX8 a).2.1 ≠ (TX8 b).2.1 := by decide +kernel
theorem tyX8_ok : ∀ k, k < 2 → parseFieldDescriptor (TX8 k).2.2.1 = some (tyX8 k) := by decide +kernel
abbrev cX8_init : ByteArray := prog_10_method_1_code
def yX8_init : MethodName := ⟨RX8, "<init>", "(I)V"⟩
abbrev cX8_isStatement : ByteArray := prog_10_method_2_code
def yX8_isStatement : MethodName := ⟨RX8, "isStatement", "(I)Z"⟩
abbrev cX8_isSet : ByteArray := prog_10_method_3_code
def yX8_isSet : MethodName := ⟨RX8, "isSet", "(I)Z"⟩
abbrev cX8_isBranch : ByteArray := prog_10_method_4_code
def yX8_isBranch : MethodName := ⟨RX8, "isBranch", "(I)Z"⟩
abbrev cX8_isNumber : ByteArray := prog_10_method_5_code
def yX8_isNumber : MethodName := ⟨RX8, "isNumber", "(I)Z"⟩
abbrev cX8_isRead : ByteArray := prog_10_method_6_code
def yX8_isRead : MethodName := ⟨RX8, "isRead", "(I)Z"⟩
abbrev cX8_isOperation : ByteArray := prog_10_method_7_code
def yX8_isOperation : MethodName := ⟨RX8, "isOperation", "(I)Z"⟩
abbrev cX8_isExpression : ByteArray := prog_10_method_8_code
def yX8_isExpression : MethodName := ⟨RX8, "isExpression", "(I)Z"⟩
abbrev cX8_result : ByteArray := prog_10_method_9_code
def yX8_result : MethodName := ⟨RX8, "result", "(III)I"⟩
abbrev cX8_holds : ByteArray := prog_10_method_10_code
def yX8_holds : MethodName := ⟨RX8, "holds", "(III)Z"⟩
abbrev cX8_cell : ByteArray := prog_10_method_11_code
def yX8_cell : MethodName := ⟨RX8, "cell", "(I)I"⟩
abbrev cX8_change : ByteArray := prog_10_method_12_code
def yX8_change : MethodName := ⟨RX8, "change", "(II)V"⟩
abbrev cX8_add : ByteArray := prog_10_method_13_code
def yX8_add : MethodName := ⟨RX8, "add", "(I)V"⟩
abbrev cX8_insert : ByteArray := prog_10_method_14_code
def yX8_insert : MethodName := ⟨RX8, "insert", "(II)V"⟩
abbrev cX8_remove : ByteArray := prog_10_method_15_code
def yX8_remove : MethodName := ⟨RX8, "remove", "(II)V"⟩
abbrev cX8_addPart : ByteArray := prog_10_method_16_code
def yX8_addPart : MethodName := ⟨RX8, "addPart", "(LSameAfter$Row;II)V"⟩
abbrev cX8_copy : ByteArray := prog_10_method_17_code
def yX8_copy : MethodName := ⟨RX8, "copy", "(LSameAfter$Row;)V"⟩
abbrev cX8_statements : ByteArray := prog_10_method_18_code
def yX8_statements : MethodName := ⟨RX8, "statements", "()I"⟩
abbrev cX8_expressions : ByteArray := prog_10_method_19_code
def yX8_expressions : MethodName := ⟨RX8, "expressions", "()I"⟩
abbrev cX8_isTooLarge : ByteArray := prog_10_method_20_code
def yX8_isTooLarge : MethodName := ⟨RX8, "isTooLarge", "()Z"⟩
abbrev cX8_isLike : ByteArray := prog_10_method_21_code
def yX8_isLike : MethodName := ⟨RX8, "isLike", "(LSameAfter$Row;)Z"⟩
abbrev cX8_repeats : ByteArray := prog_10_method_22_code
def yX8_repeats : MethodName := ⟨RX8, "repeats", "(III)Z"⟩
abbrev cX8_has : ByteArray := prog_10_method_23_code
def yX8_has : MethodName := ⟨RX8, "has", "(III)Z"⟩
abbrev cX8_replace : ByteArray := prog_10_method_24_code
def yX8_replace : MethodName := ⟨RX8, "replace", "(IIII)V"⟩
abbrev cX8_expressionEnd : ByteArray := prog_10_method_25_code
def yX8_expressionEnd : MethodName := ⟨RX8, "expressionEnd", "(I)I"⟩
abbrev cX8_closeOf : ByteArray := prog_10_method_26_code
def yX8_closeOf : MethodName := ⟨RX8, "closeOf", "(I)I"⟩
abbrev cX8_elseOf : ByteArray := prog_10_method_27_code
def yX8_elseOf : MethodName := ⟨RX8, "elseOf", "(I)I"⟩
abbrev cX8_statementEnd : ByteArray := prog_10_method_28_code
def yX8_statementEnd : MethodName := ⟨RX8, "statementEnd", "(I)I"⟩
abbrev cX8_reckon : ByteArray := prog_10_method_29_code
def yX8_reckon : MethodName := ⟨RX8, "reckon", "(II[I[I)V"⟩
def RX9 : String := "SameAfter$Rule"
def TX9 : u_T := fun k => match k with
  | 0 => ("SameAfter$Rule", "left", "LSameAfter$Row;", true)
  | 1 => ("SameAfter$Rule", "right", "LSameAfter$Row;", true)
  | 2 => ("SameAfter$Rule", "letters", "I", false)
  | 3 => ("SameAfter$Rule", "starts", "[I", true)
  | _ => ("SameAfter$Rule", "ends", "[I", true)
def tyX9 : Nat → FieldType := fun k => match k with
  | 0 => .object "SameAfter$Row"
  | 1 => .object "SameAfter$Row"
  | 2 => .int
  | 3 => .array .int
  | _ => .array .int
abbrev wsX90 : List Cond := u_ws RX9 TX9 5
theorem nmX9 : ∀ a, a < 5 → ∀ b, b < 5 → a ≠ b → (TX9 a).2.1 ≠ (TX9 b).2.1 := by decide +kernel
theorem tyX9_ok : ∀ k, k < 5 → parseFieldDescriptor (TX9 k).2.2.1 = some (tyX9 k) := by decide +kernel
abbrev cX9_init : ByteArray := prog_11_method_1_code
def yX9_init : MethodName := ⟨RX9, "<init>", "()V"⟩
abbrev cX9_forget : ByteArray := prog_11_method_2_code
def yX9_forget : MethodName := ⟨RX9, "forget", "()V"⟩
abbrev cX9_noteLetters : ByteArray := prog_11_method_3_code
def yX9_noteLetters : MethodName := ⟨RX9, "noteLetters", "()V"⟩
abbrev cX9_hasLetter : ByteArray := prog_11_method_4_code
def yX9_hasLetter : MethodName := ⟨RX9, "hasLetter", "(I)Z"⟩
abbrev cX9_letterOf : ByteArray := prog_11_method_5_code
def yX9_letterOf : MethodName := ⟨RX9, "letterOf", "(I)I"⟩
abbrev cX9_countIn : ByteArray := prog_11_method_6_code
def yX9_countIn : MethodName := ⟨RX9, "countIn", "(LSameAfter$Row;)I"⟩
abbrev cX9_placeIn : ByteArray := prog_11_method_7_code
def yX9_placeIn : MethodName := ⟨RX9, "placeIn", "(LSameAfter$Row;I)I"⟩
abbrev cX9_matches : ByteArray := prog_11_method_8_code
def yX9_matches : MethodName := ⟨RX9, "matches", "(LSameAfter$Row;I)Z"⟩
abbrev cX9_bind : ByteArray := prog_11_method_9_code
def yX9_bind : MethodName := ⟨RX9, "bind", "(LSameAfter$Row;III)Z"⟩
abbrev cX9_rewrite : ByteArray := prog_11_method_10_code
def yX9_rewrite : MethodName := ⟨RX9, "rewrite", "(LSameAfter$Row;ILSameAfter$Row;)Z"⟩
abbrev cX9_lengthOfRight : ByteArray := prog_11_method_11_code
def yX9_lengthOfRight : MethodName := ⟨RX9, "lengthOfRight", "()I"⟩
def RX10 : String := "SameAfter$Tape"
def TX10 : u_T := fun k => match k with
  | 0 => ("SameAfter$Tape", "bytes", "[I", true)
  | 1 => ("SameAfter$Tape", "length", "I", false)
  | 2 => ("SameAfter$Tape", "kind", "I", false)
  | 3 => ("SameAfter$Tape", "value", "I", false)
  | 4 => ("SameAfter$Tape", "place", "I", false)
  | _ => ("SameAfter$Tape", "next", "I", false)
def tyX10 : Nat → FieldType := fun k => match k with
  | 0 => .array .int
  | 1 => .int
  | 2 => .int
  | 3 => .int
  | 4 => .int
  | _ => .int
abbrev wsX100 : List Cond := u_ws RX10 TX10 6
theorem nmX10 : ∀ a, a < 6 → ∀ b, b < 6 → a ≠ b → (TX10 a).2.1 ≠ (TX10 b).2.1 := by decide +kernel
theorem tyX10_ok : ∀ k, k < 6 → parseFieldDescriptor (TX10 k).2.2.1 = some (tyX10 k) := by decide +kernel
abbrev cX10_init : ByteArray := prog_12_method_1_code
def yX10_init : MethodName := ⟨RX10, "<init>", "()V"⟩
abbrev cX10_put : ByteArray := prog_12_method_2_code
def yX10_put : MethodName := ⟨RX10, "put", "(I)V"⟩
abbrev cX10_shorten : ByteArray := prog_12_method_3_code
def yX10_shorten : MethodName := ⟨RX10, "shorten", "(I)Z"⟩
abbrev cX10_rewind : ByteArray := prog_12_method_4_code
def yX10_rewind : MethodName := ⟨RX10, "rewind", "()V"⟩
abbrev cX10_byteAt : ByteArray := prog_12_method_5_code
def yX10_byteAt : MethodName := ⟨RX10, "byteAt", "(I)I"⟩
abbrev cX10_advance : ByteArray := prog_12_method_6_code
def yX10_advance : MethodName := ⟨RX10, "advance", "(Z)V"⟩
abbrev cX10_isLetter : ByteArray := prog_12_method_7_code
def yX10_isLetter : MethodName := ⟨RX10, "isLetter", "(I)Z"⟩
abbrev cX10_isSmallLetter : ByteArray := prog_12_method_8_code
def yX10_isSmallLetter : MethodName := ⟨RX10, "isSmallLetter", "(I)Z"⟩
abbrev cX10_isDigit : ByteArray := prog_12_method_9_code
def yX10_isDigit : MethodName := ⟨RX10, "isDigit", "(I)Z"⟩
abbrev cX10_takeLetters : ByteArray := prog_12_method_10_code
def yX10_takeLetters : MethodName := ⟨RX10, "takeLetters", "()V"⟩
abbrev cX10_isText : ByteArray := prog_12_method_11_code
def yX10_isText : MethodName := ⟨RX10, "isText", "(Ljava/lang/String;)Z"⟩
abbrev cX10_takeDigits : ByteArray := prog_12_method_12_code
def yX10_takeDigits : MethodName := ⟨RX10, "takeDigits", "()V"⟩
abbrev cX10_takeSign : ByteArray := prog_12_method_13_code
def yX10_takeSign : MethodName := ⟨RX10, "takeSign", "(IZ)V"⟩
abbrev cX10_isSign : ByteArray := prog_12_method_14_code
def yX10_isSign : MethodName := ⟨RX10, "isSign", "(I)Z"⟩
def RX11 : String := "SameAfter"
def TX11 : u_T := fun k => match k with
  | 0 => ("SameAfter", "slots", "[LSameAfter$Row;", true)
  | 1 => ("SameAfter", "ruleCount", "I", false)
  | 2 => ("SameAfter", "work", "LSameAfter$Row;", true)
  | 3 => ("SameAfter", "reader", "LSameAfter$Reader;", true)
  | 4 => ("SameAfter", "machine", "LSameAfter$Machine;", true)
  | 5 => ("SameAfter", "proof", "LSameAfter$Proof;", true)
  | 6 => ("SameAfter", "passes", "LSameAfter$Passes;", true)
  | _ => ("SameAfter", "dealing", "LSameAfter$Registers;", true)
def tyX11 : Nat → FieldType := fun k => match k with
  | 0 => .array (.object "SameAfter$Row")
  | 1 => .int
  | 2 => .object "SameAfter$Row"
  | 3 => .object "SameAfter$Reader"
  | 4 => .object "SameAfter$Machine"
  | 5 => .object "SameAfter$Proof"
  | 6 => .object "SameAfter$Passes"
  | _ => .object "SameAfter$Registers"
abbrev wsX110 : List Cond := u_ws RX11 TX11 8
theorem nmX11 : ∀ a, a < 8 → ∀ b, b < 8 → a ≠ b → (TX11 a).2.1 ≠ (TX11 b).2.1 := by decide +kernel
theorem tyX11_ok : ∀ k, k < 8 → parseFieldDescriptor (TX11 k).2.2.1 = some (tyX11 k) := by decide +kernel
abbrev cX11_init : ByteArray := prog_1_method_1_code
def yX11_init : MethodName := ⟨RX11, "<init>", "()V"⟩
abbrev cX11_feed : ByteArray := prog_1_method_2_code
def yX11_feed : MethodName := ⟨RX11, "feed", "(IIIII)I"⟩
abbrev cX11_end : ByteArray := prog_1_method_3_code
def yX11_end : MethodName := ⟨RX11, "end", "(I)Z"⟩
abbrev cX11_program : ByteArray := prog_1_method_4_code
def yX11_program : MethodName := ⟨RX11, "program", "(I)I"⟩
abbrev cX11_rule : ByteArray := prog_1_method_5_code
def yX11_rule : MethodName := ⟨RX11, "rule", "()I"⟩
abbrev cX11_fault : ByteArray := prog_1_method_6_code
def yX11_fault : MethodName := ⟨RX11, "fault", "(I)I"⟩
abbrev cX11_at : ByteArray := prog_1_method_7_code
def yX11_at : MethodName := ⟨RX11, "at", "(II)I"⟩
abbrev cX11_size : ByteArray := prog_1_method_8_code
def yX11_size : MethodName := ⟨RX11, "size", "(II)I"⟩
abbrev cX11_run : ByteArray := prog_1_method_9_code
def yX11_run : MethodName := ⟨RX11, "run", "(IIII)I"⟩
abbrev cX11_judge : ByteArray := prog_1_method_10_code
def yX11_judge : MethodName := ⟨RX11, "judge", "(III)I"⟩
abbrev cX11_ruleOf : ByteArray := prog_1_method_11_code
def yX11_ruleOf : MethodName := ⟨RX11, "ruleOf", "(II)I"⟩
abbrev cX11_places : ByteArray := prog_1_method_12_code
def yX11_places : MethodName := ⟨RX11, "places", "(II)I"⟩
abbrev cX11_apply : ByteArray := prog_1_method_13_code
def yX11_apply : MethodName := ⟨RX11, "apply", "(IIII)Z"⟩
abbrev cX11_item : ByteArray := prog_1_method_14_code
def yX11_item : MethodName := ⟨RX11, "item", "(II)I"⟩
abbrev cX11_clear : ByteArray := prog_1_method_15_code
def yX11_clear : MethodName := ⟨RX11, "clear", "(I)Z"⟩
abbrev cX11_make : ByteArray := prog_1_method_16_code
def yX11_make : MethodName := ⟨RX11, "make", "(III)I"⟩
abbrev cX11_blame : ByteArray := prog_1_method_17_code
def yX11_blame : MethodName := ⟨RX11, "blame", "(II)I"⟩
abbrev cX11_cut : ByteArray := prog_1_method_18_code
def yX11_cut : MethodName := ⟨RX11, "cut", "(III)I"⟩
abbrev cX11_registers : ByteArray := prog_1_method_19_code
def yX11_registers : MethodName := ⟨RX11, "registers", "(II)I"⟩
abbrev cX11_clash : ByteArray := prog_1_method_20_code
def yX11_clash : MethodName := ⟨RX11, "clash", "(III)I"⟩
abbrev cX11_slotAt : ByteArray := prog_1_method_21_code
def yX11_slotAt : MethodName := ⟨RX11, "slotAt", "(I)LSameAfter$Row;"⟩
abbrev cX11_ruleAt : ByteArray := prog_1_method_22_code
def yX11_ruleAt : MethodName := ⟨RX11, "ruleAt", "(I)LSameAfter$Rule;"⟩
abbrev cX11_isWord : ByteArray := prog_1_method_23_code
def yX11_isWord : MethodName := ⟨RX11, "isWord", "(I)Z"⟩
abbrev cX11_isVariable : ByteArray := prog_1_method_24_code
def yX11_isVariable : MethodName := ⟨RX11, "isVariable", "(I)Z"⟩
def RX12 : String := "SameAfterModel"
def TX12 : u_T := fun k => match k with
  | 0 => ("SameAfterModel", "slot", "[I", true)
  | 1 => ("SameAfterModel", "slotLong", "[I", true)
  | 2 => ("SameAfterModel", "row", "[I", true)
  | 3 => ("SameAfterModel", "fresh", "[I", true)
  | 4 => ("SameAfterModel", "many", "I", false)
  | 5 => ("SameAfterModel", "made", "I", false)
  | 6 => ("SameAfterModel", "tape", "[I", true)
  | 7 => ("SameAfterModel", "taped", "I", false)
  | 8 => ("SameAfterModel", "at", "I", false)
  | 9 => ("SameAfterModel", "token", "I", false)
  | 10 => ("SameAfterModel", "tokenAt", "I", false)
  | 11 => ("SameAfterModel", "value", "I", false)
  | 12 => ("SameAfterModel", "wrong", "I", false)
  | 13 => ("SameAfterModel", "wrongAt", "I", false)
  | 14 => ("SameAfterModel", "faultKind", "I", false)
  | 15 => ("SameAfterModel", "depth", "I", false)
  | 16 => ("SameAfterModel", "countParts", "I", false)
  | 17 => ("SameAfterModel", "countStatements", "I", false)
  | 18 => ("SameAfterModel", "partsMost", "I", false)
  | 19 => ("SameAfterModel", "leftLetters", "I", false)
  | 20 => ("SameAfterModel", "faultPlace", "I", false)
  | 21 => ("SameAfterModel", "isRule", "Z", false)
  | 22 => ("SameAfterModel", "isRight", "Z", false)
  | 23 => ("SameAfterModel", "rules", "I", false)
  | 24 => ("SameAfterModel", "rule", "[I", true)
  | 25 => ("SameAfterModel", "ruleRight", "[I", true)
  | 26 => ("SameAfterModel", "ruleLong", "[I", true)
  | 27 => ("SameAfterModel", "letters", "[I", true)
  | 28 => ("SameAfterModel", "holds", "[I", true)
  | 29 => ("SameAfterModel", "outs", "[I", true)
  | 30 => ("SameAfterModel", "steps", "I", false)
  | 31 => ("SameAfterModel", "ending", "I", false)
  | 32 => ("SameAfterModel", "outMany", "I", false)
  | 33 => ("SameAfterModel", "cursor", "I", false)
  | 34 => ("SameAfterModel", "keptEnd", "[I", true)
  | 35 => ("SameAfterModel", "keptMany", "[I", true)
  | 36 => ("SameAfterModel", "keptOut", "[I", true)
  | 37 => ("SameAfterModel", "firstParting", "I", false)
  | 38 => ("SameAfterModel", "firstPlace", "I", false)
  | 39 => ("SameAfterModel", "partings", "I", false)
  | 40 => ("SameAfterModel", "anyTired", "Z", false)
  | 41 => ("SameAfterModel", "stands", "[I", true)
  | 42 => ("SameAfterModel", "form", "[I", true)
  | 43 => ("SameAfterModel", "isForm", "Z", false)
  | 44 => ("SameAfterModel", "product", "[I", true)
  | 45 => ("SameAfterModel", "bound", "[I", true)
  | 46 => ("SameAfterModel", "patternAt", "I", false)
  | 47 => ("SameAfterModel", "isOut", "[Z", true)
  | 48 => ("SameAfterModel", "someOut", "Z", false)
  | 49 => ("SameAfterModel", "items", "[I", true)
  | 50 => ("SameAfterModel", "itemMany", "[I", true)
  | 51 => ("SameAfterModel", "whole", "[I", true)
  | 52 => ("SameAfterModel", "wholeLong", "I", false)
  | 53 => ("SameAfterModel", "cutRow", "[I", true)
  | 54 => ("SameAfterModel", "clashes", "[I", true)
  | _ => ("SameAfterModel", "deal", "[I", true)
def tyX12 : Nat → FieldType := fun k => match k with
  | 0 => .array .int
  | 1 => .array .int
  | 2 => .array .int
  | 3 => .array .int
  | 4 => .int
  | 5 => .int
  | 6 => .array .int
  | 7 => .int
  | 8 => .int
  | 9 => .int
  | 10 => .int
  | 11 => .int
  | 12 => .int
  | 13 => .int
  | 14 => .int
  | 15 => .int
  | 16 => .int
  | 17 => .int
  | 18 => .int
  | 19 => .int
  | 20 => .int
  | 21 => .boolean
  | 22 => .boolean
  | 23 => .int
  | 24 => .array .int
  | 25 => .array .int
  | 26 => .array .int
  | 27 => .array .int
  | 28 => .array .int
  | 29 => .array .int
  | 30 => .int
  | 31 => .int
  | 32 => .int
  | 33 => .int
  | 34 => .array .int
  | 35 => .array .int
  | 36 => .array .int
  | 37 => .int
  | 38 => .int
  | 39 => .int
  | 40 => .boolean
  | 41 => .array .int
  | 42 => .array .int
  | 43 => .boolean
  | 44 => .array .int
  | 45 => .array .int
  | 46 => .int
  | 47 => .array .boolean
  | 48 => .boolean
  | 49 => .array .int
  | 50 => .array .int
  | 51 => .array .int
  | 52 => .int
  | 53 => .array .int
  | 54 => .array .int
  | _ => .array .int
abbrev wsX120 : List Cond := u_ws RX12 TX12 56
theorem nmX12 : ∀ a, a < 56 → ∀ b, b < 56 → a ≠ b → (TX12 a).2.1 ≠ (TX12 b).2.1 := by decide +kernel
theorem tyX12_ok : ∀ k, k < 56 → parseFieldDescriptor (TX12 k).2.2.1 = some (tyX12 k) := by decide +kernel
abbrev cX12_init : ByteArray := prog_14_method_1_code
def yX12_init : MethodName := ⟨RX12, "<init>", "()V"⟩
abbrev cX12_isIn : ByteArray := prog_14_method_2_code
def yX12_isIn : MethodName := ⟨RX12, "isIn", "(III)Z"⟩
abbrev cX12_isSlot : ByteArray := prog_14_method_3_code
def yX12_isSlot : MethodName := ⟨RX12, "isSlot", "(I)Z"⟩
abbrev cX12_isPart : ByteArray := prog_14_method_4_code
def yX12_isPart : MethodName := ⟨RX12, "isPart", "(I)Z"⟩
abbrev cX12_isStatement : ByteArray := prog_14_method_5_code
def yX12_isStatement : MethodName := ⟨RX12, "isStatement", "(I)Z"⟩
abbrev cX12_endOf : ByteArray := prog_14_method_6_code
def yX12_endOf : MethodName := ⟨RX12, "endOf", "(I)I"⟩
abbrev cX12_body : ByteArray := prog_14_method_7_code
def yX12_body : MethodName := ⟨RX12, "body", "(I)I"⟩
abbrev cX12_isLast : ByteArray := prog_14_method_8_code
def yX12_isLast : MethodName := ⟨RX12, "isLast", "(I)Z"⟩
abbrev cX12_behind : ByteArray := prog_14_method_9_code
def yX12_behind : MethodName := ⟨RX12, "behind", "(I)I"⟩
abbrev cX12_close : ByteArray := prog_14_method_10_code
def yX12_close : MethodName := ⟨RX12, "close", "(I)I"⟩
abbrev cX12_statements : ByteArray := prog_14_method_11_code
def yX12_statements : MethodName := ⟨RX12, "statements", "()I"⟩
abbrev cX12_parts : ByteArray := prog_14_method_12_code
def yX12_parts : MethodName := ⟨RX12, "parts", "()I"⟩
abbrev cX12_takes : ByteArray := prog_14_method_13_code
def yX12_takes : MethodName := ⟨RX12, "takes", "(I)V"⟩
abbrev cX12_puts : ByteArray := prog_14_method_14_code
def yX12_puts : MethodName := ⟨RX12, "puts", "(I)V"⟩
abbrev cX12_write : ByteArray := prog_14_method_15_code
def yX12_write : MethodName := ⟨RX12, "write", "(I)V"⟩
abbrev cX12_writes : ByteArray := prog_14_method_16_code
def yX12_writes : MethodName := ⟨RX12, "writes", "(II)V"⟩
abbrev cX12_turns : ByteArray := prog_14_method_17_code
def yX12_turns : MethodName := ⟨RX12, "turns", "()V"⟩
abbrev cX12_feed : ByteArray := prog_14_method_18_code
def yX12_feed : MethodName := ⟨RX12, "feed", "(IIIII)I"⟩
abbrev cX12_end : ByteArray := prog_14_method_19_code
def yX12_end : MethodName := ⟨RX12, "end", "(I)Z"⟩
abbrev cX12_see : ByteArray := prog_14_method_20_code
def yX12_see : MethodName := ⟨RX12, "see", "(I)I"⟩
abbrev cX12_isLetter : ByteArray := prog_14_method_21_code
def yX12_isLetter : MethodName := ⟨RX12, "isLetter", "(I)Z"⟩
abbrev cX12_isDigit : ByteArray := prog_14_method_22_code
def yX12_isDigit : MethodName := ⟨RX12, "isDigit", "(I)Z"⟩
abbrev cX12_is : ByteArray := prog_14_method_23_code
def yX12_is : MethodName := ⟨RX12, "is", "(Ljava/lang/String;)Z"⟩
abbrev cX12_word : ByteArray := prog_14_method_24_code
def yX12_word : MethodName := ⟨RX12, "word", "()I"⟩
abbrev cX12_next0 : ByteArray := prog_14_method_25_code
def yX12_next0 : MethodName := ⟨RX12, "next0", "()V"⟩
abbrev cX12_bad : ByteArray := prog_14_method_26_code
def yX12_bad : MethodName := ⟨RX12, "bad", "(I)Z"⟩
abbrev cX12_need : ByteArray := prog_14_method_27_code
def yX12_need : MethodName := ⟨RX12, "need", "(I)Z"⟩
abbrev cX12_opens : ByteArray := prog_14_method_28_code
def yX12_opens : MethodName := ⟨RX12, "opens", "(I)Z"⟩
abbrev cX12_closes : ByteArray := prog_14_method_29_code
def yX12_closes : MethodName := ⟨RX12, "closes", "(I)Z"⟩
abbrev cX12_counts : ByteArray := prog_14_method_30_code
def yX12_counts : MethodName := ⟨RX12, "counts", "()Z"⟩
abbrev cX12_ahead : ByteArray := prog_14_method_31_code
def yX12_ahead : MethodName := ⟨RX12, "ahead", "(II)V"⟩
abbrev cX12_sumUp : ByteArray := prog_14_method_32_code
def yX12_sumUp : MethodName := ⟨RX12, "sumUp", "()Z"⟩
abbrev cX12_product : ByteArray := prog_14_method_33_code
def yX12_product : MethodName := ⟨RX12, "product", "()Z"⟩
abbrev cX12_unit : ByteArray := prog_14_method_34_code
def yX12_unit : MethodName := ⟨RX12, "unit", "()Z"⟩
abbrev cX12_asks : ByteArray := prog_14_method_35_code
def yX12_asks : MethodName := ⟨RX12, "asks", "()Z"⟩
abbrev cX12_block : ByteArray := prog_14_method_36_code
def yX12_block : MethodName := ⟨RX12, "block", "()Z"⟩
abbrev cX12_otherwise : ByteArray := prog_14_method_37_code
def yX12_otherwise : MethodName := ⟨RX12, "otherwise", "()Z"⟩
abbrev cX12_statement : ByteArray := prog_14_method_38_code
def yX12_statement : MethodName := ⟨RX12, "statement", "()Z"⟩
abbrev cX12_begins : ByteArray := prog_14_method_39_code
def yX12_begins : MethodName := ⟨RX12, "begins", "(ZI)V"⟩
abbrev cX12_ends : ByteArray := prog_14_method_40_code
def yX12_ends : MethodName := ⟨RX12, "ends", "()V"⟩
abbrev cX12_program : ByteArray := prog_14_method_41_code
def yX12_program : MethodName := ⟨RX12, "program", "(I)I"⟩
abbrev cX12_rule : ByteArray := prog_14_method_42_code
def yX12_rule : MethodName := ⟨RX12, "rule", "()I"⟩
abbrev cX12_fault : ByteArray := prog_14_method_43_code
def yX12_fault : MethodName := ⟨RX12, "fault", "(I)I"⟩
abbrev cX12_at : ByteArray := prog_14_method_44_code
def yX12_at : MethodName := ⟨RX12, "at", "(II)I"⟩
abbrev cX12_size : ByteArray := prog_14_method_45_code
def yX12_size : MethodName := ⟨RX12, "size", "(II)I"⟩
abbrev cX12_both : ByteArray := prog_14_method_46_code
def yX12_both : MethodName := ⟨RX12, "both", "(III)I"⟩
abbrev cX12_worth : ByteArray := prog_14_method_47_code
def yX12_worth : MethodName := ⟨RX12, "worth", "()I"⟩
abbrev cX12_isSo : ByteArray := prog_14_method_48_code
def yX12_isSo : MethodName := ⟨RX12, "isSo", "(I)Z"⟩
abbrev cX12_step : ByteArray := prog_14_method_49_code
def yX12_step : MethodName := ⟨RX12, "step", "()Z"⟩
abbrev cX12_does : ByteArray := prog_14_method_50_code
def yX12_does : MethodName := ⟨RX12, "does", "(I)Z"⟩
abbrev cX12_doesOne : ByteArray := prog_14_method_51_code
def yX12_doesOne : MethodName := ⟨RX12, "doesOne", "(I)Z"⟩
abbrev cX12_runs : ByteArray := prog_14_method_52_code
def yX12_runs : MethodName := ⟨RX12, "runs", "(II)V"⟩
abbrev cX12_run : ByteArray := prog_14_method_53_code
def yX12_run : MethodName := ⟨RX12, "run", "(IIII)I"⟩
abbrev cX12_keeps : ByteArray := prog_14_method_54_code
def yX12_keeps : MethodName := ⟨RX12, "keeps", "()V"⟩
abbrev cX12_compares : ByteArray := prog_14_method_55_code
def yX12_compares : MethodName := ⟨RX12, "compares", "()V"⟩
abbrev cX12_judge : ByteArray := prog_14_method_56_code
def yX12_judge : MethodName := ⟨RX12, "judge", "(III)I"⟩
abbrev cX12_ruleWorth : ByteArray := prog_14_method_57_code
def yX12_ruleWorth : MethodName := ⟨RX12, "ruleWorth", "(I)I"⟩
abbrev cX12_isAlike : ByteArray := prog_14_method_58_code
def yX12_isAlike : MethodName := ⟨RX12, "isAlike", "(I)Z"⟩
abbrev cX12_forms : ByteArray := prog_14_method_59_code
def yX12_forms : MethodName := ⟨RX12, "forms", "(II)V"⟩
abbrev cX12_products : ByteArray := prog_14_method_60_code
def yX12_products : MethodName := ⟨RX12, "products", "(I)V"⟩
abbrev cX12_sameForms : ByteArray := prog_14_method_61_code
def yX12_sameForms : MethodName := ⟨RX12, "sameForms", "(I)I"⟩
abbrev cX12_ruleOf : ByteArray := prog_14_method_62_code
def yX12_ruleOf : MethodName := ⟨RX12, "ruleOf", "(II)I"⟩
abbrev cX12_sameParts : ByteArray := prog_14_method_63_code
def yX12_sameParts : MethodName := ⟨RX12, "sameParts", "(II)Z"⟩
abbrev cX12_fits : ByteArray := prog_14_method_64_code
def yX12_fits : MethodName := ⟨RX12, "fits", "(II)Z"⟩
abbrev cX12_matches : ByteArray := prog_14_method_65_code
def yX12_matches : MethodName := ⟨RX12, "matches", "(II)Z"⟩
abbrev cX12_match : ByteArray := prog_14_method_66_code
def yX12_match : MethodName := ⟨RX12, "match", "(II)I"⟩
abbrev cX12_places : ByteArray := prog_14_method_67_code
def yX12_places : MethodName := ⟨RX12, "places", "(II)I"⟩
abbrev cX12_applies : ByteArray := prog_14_method_68_code
def yX12_applies : MethodName := ⟨RX12, "applies", "(II)Z"⟩
abbrev cX12_apply : ByteArray := prog_14_method_69_code
def yX12_apply : MethodName := ⟨RX12, "apply", "(IIII)Z"⟩
abbrev cX12_reads : ByteArray := prog_14_method_70_code
def yX12_reads : MethodName := ⟨RX12, "reads", "(II)I"⟩
abbrev cX12_liveFrom : ByteArray := prog_14_method_71_code
def yX12_liveFrom : MethodName := ⟨RX12, "liveFrom", "(II)I"⟩
abbrev cX12_liveAt : ByteArray := prog_14_method_72_code
def yX12_liveAt : MethodName := ⟨RX12, "liveAt", "(II)I"⟩
abbrev cX12_drops : ByteArray := prog_14_method_73_code
def yX12_drops : MethodName := ⟨RX12, "drops", "(I)V"⟩
abbrev cX12_marks : ByteArray := prog_14_method_74_code
def yX12_marks : MethodName := ⟨RX12, "marks", "(II)V"⟩
abbrev cX12_marksHasty : ByteArray := prog_14_method_75_code
def yX12_marksHasty : MethodName := ⟨RX12, "marksHasty", "()V"⟩
abbrev cX12_copies : ByteArray := prog_14_method_76_code
def yX12_copies : MethodName := ⟨RX12, "copies", "(I)V"⟩
abbrev cX12_clears : ByteArray := prog_14_method_77_code
def yX12_clears : MethodName := ⟨RX12, "clears", "()V"⟩
abbrev cX12_dead : ByteArray := prog_14_method_78_code
def yX12_dead : MethodName := ⟨RX12, "dead", "(Z)V"⟩
abbrev cX12_folds : ByteArray := prog_14_method_79_code
def yX12_folds : MethodName := ⟨RX12, "folds", "(I)Z"⟩
abbrev cX12_foldAll : ByteArray := prog_14_method_80_code
def yX12_foldAll : MethodName := ⟨RX12, "foldAll", "(I)V"⟩
abbrev cX12_foldOne : ByteArray := prog_14_method_81_code
def yX12_foldOne : MethodName := ⟨RX12, "foldOne", "(I)V"⟩
abbrev cX12_replaces : ByteArray := prog_14_method_82_code
def yX12_replaces : MethodName := ⟨RX12, "replaces", "(IIII)V"⟩
abbrev cX12_sets : ByteArray := prog_14_method_83_code
def yX12_sets : MethodName := ⟨RX12, "sets", "(III)Z"⟩
abbrev cX12_copyFrom : ByteArray := prog_14_method_84_code
def yX12_copyFrom : MethodName := ⟨RX12, "copyFrom", "(III)V"⟩
abbrev cX12_hastyCopy : ByteArray := prog_14_method_85_code
def yX12_hastyCopy : MethodName := ⟨RX12, "hastyCopy", "()V"⟩
abbrev cX12_unrolls : ByteArray := prog_14_method_86_code
def yX12_unrolls : MethodName := ⟨RX12, "unrolls", "(I)V"⟩
abbrev cX12_isPass : ByteArray := prog_14_method_87_code
def yX12_isPass : MethodName := ⟨RX12, "isPass", "(I)Z"⟩
abbrev cX12_item : ByteArray := prog_14_method_88_code
def yX12_item : MethodName := ⟨RX12, "item", "(II)I"⟩
abbrev cX12_clear : ByteArray := prog_14_method_89_code
def yX12_clear : MethodName := ⟨RX12, "clear", "(I)Z"⟩
abbrev cX12_isSmall : ByteArray := prog_14_method_90_code
def yX12_isSmall : MethodName := ⟨RX12, "isSmall", "()Z"⟩
abbrev cX12_again : ByteArray := prog_14_method_91_code
def yX12_again : MethodName := ⟨RX12, "again", "(I)Z"⟩
abbrev cX12_makes : ByteArray := prog_14_method_92_code
def yX12_makes : MethodName := ⟨RX12, "makes", "(I)Z"⟩
abbrev cX12_make : ByteArray := prog_14_method_93_code
def yX12_make : MethodName := ⟨RX12, "make", "(III)I"⟩
abbrev cX12_blame : ByteArray := prog_14_method_94_code
def yX12_blame : MethodName := ⟨RX12, "blame", "(II)I"⟩
abbrev cX12_keepsWhole : ByteArray := prog_14_method_95_code
def yX12_keepsWhole : MethodName := ⟨RX12, "keepsWhole", "()V"⟩
abbrev cX12_takesWhole : ByteArray := prog_14_method_96_code
def yX12_takesWhole : MethodName := ⟨RX12, "takesWhole", "()V"⟩
abbrev cX12_isWrong : ByteArray := prog_14_method_97_code
def yX12_isWrong : MethodName := ⟨RX12, "isWrong", "(I)Z"⟩
abbrev cX12_cutsOne : ByteArray := prog_14_method_98_code
def yX12_cutsOne : MethodName := ⟨RX12, "cutsOne", "(I)Z"⟩
abbrev cX12_cut : ByteArray := prog_14_method_99_code
def yX12_cut : MethodName := ⟨RX12, "cut", "(III)I"⟩
abbrev cX12_clashAll : ByteArray := prog_14_method_100_code
def yX12_clashAll : MethodName := ⟨RX12, "clashAll", "(I)V"⟩
abbrev cX12_clashSet : ByteArray := prog_14_method_101_code
def yX12_clashSet : MethodName := ⟨RX12, "clashSet", "(II)V"⟩
abbrev cX12_clashFrom : ByteArray := prog_14_method_102_code
def yX12_clashFrom : MethodName := ⟨RX12, "clashFrom", "(II)V"⟩
abbrev cX12_clashIn : ByteArray := prog_14_method_103_code
def yX12_clashIn : MethodName := ⟨RX12, "clashIn", "(I)V"⟩
abbrev cX12_inRow : ByteArray := prog_14_method_104_code
def yX12_inRow : MethodName := ⟨RX12, "inRow", "()I"⟩
abbrev cX12_deals : ByteArray := prog_14_method_105_code
def yX12_deals : MethodName := ⟨RX12, "deals", "(II)Z"⟩
abbrev cX12_enough : ByteArray := prog_14_method_106_code
def yX12_enough : MethodName := ⟨RX12, "enough", "(I)I"⟩
abbrev cX12_timesOf : ByteArray := prog_14_method_107_code
def yX12_timesOf : MethodName := ⟨RX12, "timesOf", "(I)I"⟩
abbrev cX12_spills : ByteArray := prog_14_method_108_code
def yX12_spills : MethodName := ⟨RX12, "spills", "(II)I"⟩
abbrev cX12_registers : ByteArray := prog_14_method_109_code
def yX12_registers : MethodName := ⟨RX12, "registers", "(II)I"⟩
abbrev cX12_clash : ByteArray := prog_14_method_110_code
def yX12_clash : MethodName := ⟨RX12, "clash", "(III)I"⟩
def RJ9 : String := "java/lang/Math"
def TJ9 : u_T := fun k => match k with
  | _ => ("", "", "", false)
def tyJ9 : Nat → FieldType := fun k => match k with
  | _ => .int
abbrev wsJ90 : List Cond := u_ws RJ9 TJ9 0
theorem nmJ9 : ∀ a, a < 0 → ∀ b, b < 0 → a ≠ b → (TJ9 a).2.1 ≠ (TJ9 b).2.1 := by decide +kernel
theorem tyJ9_ok : ∀ k, k < 0 → parseFieldDescriptor (TJ9 k).2.2.1 = some (tyJ9 k) := by decide +kernel
abbrev cJ9_max_7cf53 : ByteArray := prog_15_method_65_code
def yJ9_max_7cf53 : MethodName := ⟨RJ9, "max", "(II)I"⟩
abbrev cJ9_min_7cf53 : ByteArray := prog_15_method_69_code
def yJ9_min_7cf53 : MethodName := ⟨RJ9, "min", "(II)I"⟩
def RJ0 : String := "java/lang/String"
def TJ0 : u_T := fun k => match k with
  | _ => ("", "", "", false)
def tyJ0 : Nat → FieldType := fun k => match k with
  | _ => .int
abbrev wsJ00 : List Cond := u_ws RJ0 TJ0 0
theorem nmJ0 : ∀ a, a < 0 → ∀ b, b < 0 → a ≠ b → (TJ0 a).2.1 ≠ (TJ0 b).2.1 := by decide +kernel
theorem tyJ0_ok : ∀ k, k < 0 → parseFieldDescriptor (TJ0 k).2.2.1 = some (tyJ0 k) := by decide +kernel
abbrev cJ0_length_8abf5 : ByteArray := prog_16_method_54_code
def yJ0_length_8abf5 : MethodName := ⟨RJ0, "length", "()I"⟩
abbrev cJ0_charAt_5068e : ByteArray := prog_16_method_56_code
def yJ0_charAt_5068e : MethodName := ⟨RJ0, "charAt", "(I)C"⟩
abbrev cJ0_coder_7d493 : ByteArray := prog_16_method_152_code
def yJ0_coder_7d493 : MethodName := ⟨RJ0, "coder", "()B"⟩
abbrev cJ0_isLatin1_aae02 : ByteArray := prog_16_method_154_code
def yJ0_isLatin1_aae02 : MethodName := ⟨RJ0, "isLatin1", "()Z"⟩
abbrev cJ0_checkIndex_df160 : ByteArray := prog_16_method_155_code
def yJ0_checkIndex_df160 : MethodName := ⟨RJ0, "checkIndex", "(II)V"⟩
def RJ1 : String := "java/lang/StringLatin1"
def TJ1 : u_T := fun k => match k with
  | _ => ("", "", "", false)
def tyJ1 : Nat → FieldType := fun k => match k with
  | _ => .int
abbrev wsJ10 : List Cond := u_ws RJ1 TJ1 0
theorem nmJ1 : ∀ a, a < 0 → ∀ b, b < 0 → a ≠ b → (TJ1 a).2.1 ≠ (TJ1 b).2.1 := by decide +kernel
theorem tyJ1_ok : ∀ k, k < 0 → parseFieldDescriptor (TJ1 k).2.2.1 = some (tyJ1 k) := by decide +kernel
abbrev cJ1_charAt_3b067 : ByteArray := prog_17_method_2_code
def yJ1_charAt_3b067 : MethodName := ⟨RJ1, "charAt", "([BI)C"⟩
def RJ2 : String := "java/lang/StringUTF16"
def TJ2 : u_T := fun k => match k with
  | _ => ("", "", "", false)
def tyJ2 : Nat → FieldType := fun k => match k with
  | _ => .int
abbrev wsJ20 : List Cond := u_ws RJ2 TJ2 0
theorem nmJ2 : ∀ a, a < 0 → ∀ b, b < 0 → a ≠ b → (TJ2 a).2.1 ≠ (TJ2 b).2.1 := by decide +kernel
theorem tyJ2_ok : ∀ k, k < 0 → parseFieldDescriptor (TJ2 k).2.2.1 = some (tyJ2 k) := by decide +kernel
abbrev cJ2_getChar_3b067 : ByteArray := prog_18_method_5_code
def yJ2_getChar_3b067 : MethodName := ⟨RJ2, "getChar", "([BI)C"⟩
abbrev cJ2_length_9d52b : ByteArray := prog_18_method_6_code
def yJ2_length_9d52b : MethodName := ⟨RJ2, "length", "([B)I"⟩
abbrev cJ2_charAt_3b067 : ByteArray := prog_18_method_83_code
def yJ2_charAt_3b067 : MethodName := ⟨RJ2, "charAt", "([BI)C"⟩
abbrev cJ2_checkIndex_2214a : ByteArray := prog_18_method_91_code
def yJ2_checkIndex_2214a : MethodName := ⟨RJ2, "checkIndex", "(I[B)V"⟩
def RJ10 : String := "java/lang/System"
def TJ10 : u_T := fun k => match k with
  | _ => ("", "", "", false)
def tyJ10 : Nat → FieldType := fun k => match k with
  | _ => .int
abbrev wsJ100 : List Cond := u_ws RJ10 TJ10 0
theorem nmJ10 : ∀ a, a < 0 → ∀ b, b < 0 → a ≠ b → (TJ10 a).2.1 ≠ (TJ10 b).2.1 := by decide +kernel
theorem tyJ10_ok : ∀ k, k < 0 → parseFieldDescriptor (TJ10 k).2.2.1 = some (tyJ10 k) := by decide +kernel
def RJ3 : String := "jdk/internal/util/Preconditions"
def TJ3 : u_T := fun k => match k with
  | _ => ("", "", "", false)
def tyJ3 : Nat → FieldType := fun k => match k with
  | _ => .int
abbrev wsJ30 : List Cond := u_ws RJ3 TJ3 0
theorem nmJ3 : ∀ a, a < 0 → ∀ b, b < 0 → a ≠ b → (TJ3 a).2.1 ≠ (TJ3 b).2.1 := by decide +kernel
theorem tyJ3_ok : ∀ k, k < 0 → parseFieldDescriptor (TJ3 k).2.2.1 = some (tyJ3 k) := by decide +kernel
abbrev cJ3_checkIndex_8e157 : ByteArray := prog_20_method_11_code
def yJ3_checkIndex_8e157 : MethodName := ⟨RJ3, "checkIndex", "(IILjava/util/function/BiFunction;)I"⟩
def RL : String := "SameAfterLaw"
abbrev cL_law : ByteArray := code
def yL_law : MethodName := ⟨RL, "law", "([I)Z"⟩
