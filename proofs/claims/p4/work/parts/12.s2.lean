set_option maxHeartbeats 4000000 in
set_option maxRecDepth 100000 in
theorem sX10_rewind (l : Launch) (D : va_G) (h : Nat) (h_0 : Nat) (h_1 : Int32) (h_2 : Int32) (h_3 : Int32) (h_4 : Int32) (h_5 : Int32) (sz : Nat) (k_h_1_lo : 0 ≤ h_1.toInt) (k_h_1_hi : h_1.toInt ≤ 800)  : Met l yX10_rewind (Cond.code yX10_rewind cX10_rewind 1 none :: gG) { frames := 1, cells := 0, slots := 0, locals := 64 } (cPre D [] [(h, .inr (10, [.ref h_0, .int h_1, .int h_2, .int h_3, .int h_4, .int h_5]))] sz [.ref h]) (va_Qv (fun (_ : Unit) => True) (fun u t => cB D (va_A [(h, .inr (10, [.ref h_0, .int h_1, .int h_2, .int h_3, .int h_4, .int h_5]))] sz) ((fun (_ : Unit) => ([] : List (ClassId × FieldType))) u) ((fun (_ : Unit) => ([(h, .inr (10, [.ref h_0, .int h_1, .int 0, .int 0, .int 0, .int 0]))] : va_W)) u) t) (va_A [(h, .inr (10, [.ref h_0, .int h_1, .int h_2, .int h_3, .int h_4, .int h_5]))] sz)) 0 0 (va_A [(h, .inr (10, [.ref h_0, .int h_1, .int h_2, .int h_3, .int h_4, .int h_5]))] sz) := by
  refine Met.ofW (cc := cX10_rewind) (maxL := 1) (ret := none) (by decide) rfl ?_
  intro p e s m args below meth c s₁ B hml hv
  obtain ⟨rfl, aks, rfl, Wd⟩ := k_enter hv
  have C : CallFix p m c cX10_rewind 1 s _ gG RX10 := ⟨B.exec, B.bytes, hml, findClass_of_methodNamed B.named, fun w h => atoms_spec (ws := Cond.code yX10_rewind cX10_rewind 1 none :: gG) B.pre w (List.mem_cons_of_mem _ h)⟩
  have hr := B.returns
  have hlk := B.notSynchronized
  generalize va_A [(h, .inr (10, [.ref h_0, .int h_1, .int h_2, .int h_3, .int h_4, .int h_5]))] s.heap.size = A at Wd ⊢
  refine k_locals (Nat.le_of_ble_eq_true rfl) [(0, .ref h)] rfl (fun ls hl => ?_)
  refine lv_aload_n C.1 C.2.1 dX10_rewind_0 rfl (lv_at hl 0 rfl) ?_
  refine lv_iconst (v := 0) C.1 C.2.1 dX10_rewind_1 (by decide) ?_
  refine k_put C Wd KX10 0 5 [(h, .inr (10, [.ref h_0, .int h_1, .int h_2, .int h_3, .int h_4, .int 0]))] rfl (by decide) fl_X10_19 rfl rfl rfl (Nat.le_of_ble_eq_true rfl) rfl dX10_rewind_2 (fun H locs Wd => ?_)
  refine lv_aload_n C.1 C.2.1 dX10_rewind_5 rfl (lv_at hl 0 rfl) ?_
  refine lv_iconst (v := 0) C.1 C.2.1 dX10_rewind_6 (by decide) ?_
  refine k_put C Wd KX10 0 4 [(h, .inr (10, [.ref h_0, .int h_1, .int h_2, .int h_3, .int 0, .int 0]))] rfl (by decide) fl_X10_22 rfl rfl rfl (Nat.le_of_ble_eq_true rfl) rfl dX10_rewind_7 (fun H locs Wd => ?_)
  refine lv_aload_n C.1 C.2.1 dX10_rewind_10 rfl (lv_at hl 0 rfl) ?_
  refine lv_iconst (v := 0) C.1 C.2.1 dX10_rewind_11 (by decide) ?_
  refine k_put C Wd KX10 0 2 [(h, .inr (10, [.ref h_0, .int h_1, .int 0, .int h_3, .int 0, .int 0]))] rfl (by decide) fl_X10_25 rfl rfl rfl (Nat.le_of_ble_eq_true rfl) rfl dX10_rewind_12 (fun H locs Wd => ?_)
  refine lv_aload_n C.1 C.2.1 dX10_rewind_15 rfl (lv_at hl 0 rfl) ?_
  refine lv_iconst (v := 0) C.1 C.2.1 dX10_rewind_16 (by decide) ?_
  refine k_put C Wd KX10 0 3 [(h, .inr (10, [.ref h_0, .int h_1, .int 0, .int 0, .int 0, .int 0]))] rfl (by decide) fl_X10_28 rfl rfl rfl (Nat.le_of_ble_eq_true rfl) rfl dX10_rewind_17 (fun H locs Wd => ?_)
  exact k_vret C hr hlk Wd () trivial [0] rfl (by decide) [] rfl (by decide) (by decide) dX10_rewind_20
set_option maxHeartbeats 4000000 in
set_option maxRecDepth 100000 in
theorem sX10_byteAt (l : Launch) (D : va_G) (h : Nat) (x0 : Int32) (h_0 : Nat) (h_1 : Int32) (h_2 : Int32) (h_3 : Int32) (h_4 : Int32) (h_5 : Int32) (a_h_0 : ClassId) (f_h_0 : Nat → Int32) (sz : Nat) (k_h_1_lo : 0 ≤ h_1.toInt) (k_h_1_hi : h_1.toInt ≤ 800)  : Met l yX10_byteAt (Cond.code yX10_byteAt cX10_byteAt 2 (some .int) :: gG) { frames := 1, cells := 0, slots := 0, locals := 64 } (cPre D [(a_h_0, .int)] [(h, .inr (10, [.ref h_0, .int h_1, .int h_2, .int h_3, .int h_4, .int h_5])), (h_0, .inl (a_h_0, 800, .inl f_h_0))] sz [.ref h, .int x0]) (vp_Si (fun r => True)) 0 0 (fun _ => False) := by
  refine Met.ofW (cc := cX10_byteAt) (maxL := 2) (ret := (some .int)) (by decide) rfl ?_
  intro p e s m args below meth c s₁ B hml hv
  obtain ⟨rfl, aks, rfl, Wd⟩ := k_enter hv
  have C : CallFix p m c cX10_byteAt 2 s _ gG RX10 := ⟨B.exec, B.bytes, hml, findClass_of_methodNamed B.named, fun w h => atoms_spec (ws := Cond.code yX10_byteAt cX10_byteAt 2 (some .int) :: gG) B.pre w (List.mem_cons_of_mem _ h)⟩
  have hr := B.returns
  have hlk := B.notSynchronized
  obtain ⟨A, Wd⟩ : ∃ A, wX D [(a_h_0, .int)] s [(h, .inr (10, [.ref h_0, .int h_1, .int h_2, .int h_3, .int h_4, .int h_5])), (h_0, .inl (a_h_0, 800, .inl f_h_0))] s.heap A s.heap [] := ⟨_, Wd⟩
  refine k_locals (Nat.le_of_ble_eq_true rfl) [(0, .ref h), (1, .int x0)] rfl (fun ls hl => ?_)
  refine lv_iload_n C.1 C.2.1 dX10_byteAt_0 rfl (lv_at hl 1 rfl) ?_
  refine k_cutA (fun (j22_S_0 : Int32) H locs ls => H = s.heap ∧ locs = [] ∧ wX D [(a_h_0, .int)] s [(h, .inr (10, [.ref h_0, .int h_1, .int h_2, .int h_3, .int h_4, .int h_5])), (h_0, .inl (a_h_0, 800, .inl f_h_0))] H A s.heap locs ∧ lv_has ls 2 [(0, .ref h), (1, .int x0)]) (fun (j22_S_0 : Int32) ls => F0 m 22 ls [.int j22_S_0]) (fun j22_S_0 H locs ls hi => ?_) (fun J22 => ?_)
  · obtain ⟨rfl, rfl, Wd, hl⟩ := hi
    exact k_zretP C hr hlk rfl trivial dX10_byteAt_22
  refine k_cutA (fun (_ : Unit) H locs ls => H = s.heap ∧ locs = [] ∧ wX D [(a_h_0, .int)] s [(h, .inr (10, [.ref h_0, .int h_1, .int h_2, .int h_3, .int h_4, .int h_5])), (h_0, .inl (a_h_0, 800, .inl f_h_0))] H A s.heap locs ∧ lv_has ls 2 [(0, .ref h), (1, .int x0)]) (fun (_ : Unit) ls => F0 m 21 ls []) (fun _ H locs ls hi => ?_) (fun J21 => ?_)
  · obtain ⟨rfl, rfl, Wd, hl⟩ := hi
    refine lv_iconst (v := (-1)) C.1 C.2.1 dX10_byteAt_21 (by decide) ?_
    exact J22 (-1) _ _ _ ⟨rfl, rfl, Wd, lv_sub hl [0, 1] rfl⟩
  refine lv_if_lt (tgt := 21) C.1 C.2.1 dX10_byteAt_1 (by decide) (fun c1 => ?_) (fun c1 => ?_)
  · have i1 : x0.toInt < 0 := kz_lt c1
    exact J21 () _ _ _ ⟨rfl, rfl, Wd, lv_sub hl [0, 1] rfl⟩
  · have i1 : 0 ≤ x0.toInt := kz_nlt c1
    refine lv_iload_n C.1 C.2.1 dX10_byteAt_4 rfl (lv_at hl 1 rfl) ?_
    refine lv_aload_n C.1 C.2.1 dX10_byteAt_5 rfl (lv_at hl 0 rfl) ?_
    refine k_get C Wd KX10 0 1 rfl (by decide) fl_X10_15 rfl dX10_byteAt_6 ?_
    refine lv_icmp_ge (tgt := 21) C.1 C.2.1 dX10_byteAt_9 (by decide) (fun c9 => ?_) (fun c9 => ?_)
    · have i9 : h_1.toInt ≤ x0.toInt := kz_le c9
      exact J21 () _ _ _ ⟨rfl, rfl, Wd, lv_sub hl [0, 1] rfl⟩
    · have i9 : x0.toInt < h_1.toInt := kz_nle c9
      refine lv_aload_n C.1 C.2.1 dX10_byteAt_12 rfl (lv_at hl 0 rfl) ?_
      refine k_get C Wd KX10 0 0 rfl (by decide) fl_X10_11 rfl dX10_byteAt_13 ?_
      refine lv_iload_n C.1 C.2.1 dX10_byteAt_16 rfl (lv_at hl 1 rfl) ?_
      obtain ⟨v17, ev17⟩ : ∃ z : Int32, f_h_0 x0.toNatClampNeg = z := ⟨_, rfl⟩
      refine k_iald (v := v17) C Wd 1 0 rfl rfl (vp_in_iff.mpr ⟨by omega, by omega⟩) ev17 dX10_byteAt_17 ?_
      refine lv_goto (tgt := 22) C.1 C.2.1 dX10_byteAt_18 (by decide) ?_
      exact J22 v17 _ _ _ ⟨rfl, rfl, Wd, lv_sub hl [0, 1] rfl⟩
set_option maxHeartbeats 4000000 in
set_option maxRecDepth 100000 in
theorem sX10_isSmallLetter (l : Launch) (D : va_G) (x0 : Int32) (sz : Nat)   : Met l yX10_isSmallLetter (Cond.code yX10_isSmallLetter cX10_isSmallLetter 1 (some .boolean) :: gG) { frames := 1, cells := 0, slots := 0, locals := 64 } (cPre D [] [] sz [.int x0]) (vp_Si (fun r => 0 ≤ r.toInt ∧ r.toInt ≤ 1)) 0 0 (fun _ => False) := by
  refine Met.ofW (cc := cX10_isSmallLetter) (maxL := 1) (ret := (some .boolean)) (by decide) rfl ?_
  intro p e s m args below meth c s₁ B hml hv
  obtain ⟨rfl, aks, rfl, Wd⟩ := k_enter hv
  have C : CallFix p m c cX10_isSmallLetter 1 s _ gG RX10 := ⟨B.exec, B.bytes, hml, findClass_of_methodNamed B.named, fun w h => atoms_spec (ws := Cond.code yX10_isSmallLetter cX10_isSmallLetter 1 (some .boolean) :: gG) B.pre w (List.mem_cons_of_mem _ h)⟩
  have hr := B.returns
  have hlk := B.notSynchronized
  obtain ⟨A, Wd⟩ : ∃ A, wX D [] s [] s.heap A s.heap [] := ⟨_, Wd⟩
  refine k_locals (Nat.le_of_ble_eq_true rfl) [(0, .int x0)] rfl (fun ls hl => ?_)
  refine lv_iload_n C.1 C.2.1 dX10_isSmallLetter_0 rfl (lv_at hl 0 rfl) ?_
  refine lv_bipush (v := 97) C.1 C.2.1 dX10_isSmallLetter_1 (by decide) ?_
  refine k_cutA (fun (j17_S_0 : Int32) H locs ls => 0 ≤ j17_S_0.toInt ∧ j17_S_0.toInt ≤ 1 ∧ H = s.heap ∧ locs = [] ∧ wX D [] s [] H A s.heap locs ∧ lv_has ls 1 [(0, .int x0)]) (fun (j17_S_0 : Int32) ls => F0 m 17 ls [.int j17_S_0]) (fun j17_S_0 H locs ls hi => ?_) (fun J17 => ?_)
  · obtain ⟨i17_0, i17_1, rfl, rfl, Wd, hl⟩ := hi
    exact k_zretP C hr hlk (k_nb (by omega) (by omega)) (by exact ⟨by omega, by omega⟩) dX10_isSmallLetter_17
  refine k_cutA (fun (_ : Unit) H locs ls => H = s.heap ∧ locs = [] ∧ wX D [] s [] H A s.heap locs ∧ lv_has ls 1 [(0, .int x0)]) (fun (_ : Unit) ls => F0 m 16 ls []) (fun _ H locs ls hi => ?_) (fun J16 => ?_)
  · obtain ⟨rfl, rfl, Wd, hl⟩ := hi
    refine lv_iconst (v := 0) C.1 C.2.1 dX10_isSmallLetter_16 (by decide) ?_
    exact J17 0 _ _ _ ⟨by have zq0 : (0 : Int32).toInt = 0 := (by decide); omega, by have zq0 : (0 : Int32).toInt = 0 := (by decide); omega, rfl, rfl, Wd, lv_sub hl [0] rfl⟩
  refine lv_icmp_lt (tgt := 16) C.1 C.2.1 dX10_isSmallLetter_3 (by decide) (fun c3 => ?_) (fun c3 => ?_)
  · have i3 : x0.toInt < 97 := kz_lt c3
    exact J16 () _ _ _ ⟨rfl, rfl, Wd, lv_sub hl [0] rfl⟩
  · have i3 : 97 ≤ x0.toInt := kz_nlt c3
    refine lv_iload_n C.1 C.2.1 dX10_isSmallLetter_6 rfl (lv_at hl 0 rfl) ?_
    refine lv_bipush (v := 122) C.1 C.2.1 dX10_isSmallLetter_7 (by decide) ?_
    refine lv_icmp_gt (tgt := 16) C.1 C.2.1 dX10_isSmallLetter_9 (by decide) (fun c9 => ?_) (fun c9 => ?_)
    · have i9 : 122 < x0.toInt := kz_lt c9
      exact J16 () _ _ _ ⟨rfl, rfl, Wd, lv_sub hl [0] rfl⟩
    · have i9 : x0.toInt ≤ 122 := kz_nlt c9
      refine lv_iconst (v := 1) C.1 C.2.1 dX10_isSmallLetter_12 (by decide) ?_
      refine lv_goto (tgt := 17) C.1 C.2.1 dX10_isSmallLetter_13 (by decide) ?_
      exact J17 1 _ _ _ ⟨by have zq1 : (1 : Int32).toInt = 1 := (by decide); omega, by have zq1 : (1 : Int32).toInt = 1 := (by decide); omega, rfl, rfl, Wd, lv_sub hl [0] rfl⟩
set_option maxHeartbeats 4000000 in
set_option maxRecDepth 100000 in
theorem sX10_isLetter (l : Launch) (D : va_G) (x0 : Int32) (sz : Nat)   : Met l yX10_isLetter (Cond.code yX10_isLetter cX10_isLetter 1 (some .boolean) :: gG) { frames := 2, cells := 0, slots := 0, locals := 84 } (cPre D [] [] sz [.int x0]) (vp_Si (fun r => 0 ≤ r.toInt ∧ r.toInt ≤ 1)) 0 0 (fun _ => False) := by
  refine Met.ofW (cc := cX10_isLetter) (maxL := 1) (ret := (some .boolean)) (by decide) rfl ?_
  intro p e s m args below meth c s₁ B hml hv
  obtain ⟨rfl, aks, rfl, Wd⟩ := k_enter hv
  have C : CallFix p m c cX10_isLetter 1 s _ gG RX10 := ⟨B.exec, B.bytes, hml, findClass_of_methodNamed B.named, fun w h => atoms_spec (ws := Cond.code yX10_isLetter cX10_isLetter 1 (some .boolean) :: gG) B.pre w (List.mem_cons_of_mem _ h)⟩
  have hr := B.returns
  have hlk := B.notSynchronized
  obtain ⟨A, Wd⟩ : ∃ A, wX D [] s [] s.heap A s.heap [] := ⟨_, Wd⟩
  refine k_locals (Nat.le_of_ble_eq_true rfl) [(0, .int x0)] rfl (fun ls hl => ?_)
  refine lv_iload_n C.1 C.2.1 dX10_isLetter_0 rfl (lv_at hl 0 rfl) ?_
  refine k_pi (k_runS (rest := []) C aks Wd cs_X10_52 (sX10_isSmallLetter l D x0 _ ) [] rfl (by decide) [] rfl rfl rfl ⟨(Nat.le_of_ble_eq_true rfl), (Nat.le_of_ble_eq_true rfl)⟩ hl.1 rfl rfl (Nat.le_of_ble_eq_true rfl) ⟨(Nat.le_of_ble_eq_true rfl), (Nat.le_of_ble_eq_true rfl)⟩ dX10_isLetter_1) (fun r1 w1 => ?_)
  obtain ⟨g1_0, g1_1⟩ := w1
  have g1_0 : 0 ≤ r1.toInt := g1_0
  have g1_1 : r1.toInt ≤ 1 := g1_1
  refine k_cutA (fun (j24_S_0 : Int32) H locs ls => 0 ≤ j24_S_0.toInt ∧ j24_S_0.toInt ≤ 1 ∧ r1.toInt ≤ j24_S_0.toInt ∧ H = s.heap ∧ locs = [] ∧ wX D [] s [] H A s.heap locs ∧ lv_has ls 1 [(0, .int x0)]) (fun (j24_S_0 : Int32) ls => F0 m 24 ls [.int j24_S_0]) (fun j24_S_0 H locs ls hi => ?_) (fun J24 => ?_)
  · obtain ⟨i24_0, i24_1, i24_2, rfl, rfl, Wd, hl⟩ := hi
    exact k_zretP C hr hlk (k_nb (by omega) (by omega)) (by exact ⟨by omega, by omega⟩) dX10_isLetter_24
  refine k_cutA (fun (_ : Unit) H locs ls => H = s.heap ∧ locs = [] ∧ wX D [] s [] H A s.heap locs ∧ lv_has ls 1 [(0, .int x0)]) (fun (_ : Unit) ls => F0 m 19 ls []) (fun _ H locs ls hi => ?_) (fun J19 => ?_)
  · obtain ⟨rfl, rfl, Wd, hl⟩ := hi
    refine lv_iconst (v := 1) C.1 C.2.1 dX10_isLetter_19 (by decide) ?_
    refine lv_goto (tgt := 24) C.1 C.2.1 dX10_isLetter_20 (by decide) ?_
    exact J24 1 _ _ _ ⟨by have zq1 : (1 : Int32).toInt = 1 := (by decide); omega, by have zq1 : (1 : Int32).toInt = 1 := (by decide); omega, by have zq1 : (1 : Int32).toInt = 1 := (by decide); omega, rfl, rfl, Wd, lv_sub hl [0] rfl⟩
  refine lv_if_ne (tgt := 19) C.1 C.2.1 dX10_isLetter_4 (by decide) (fun c4 => ?_) (fun c4 => ?_)
  · have i4 : ¬ r1.toInt = 0 := kz_ne c4
    exact J19 () _ _ _ ⟨rfl, rfl, Wd, lv_sub hl [0] rfl⟩
  · have i4 : r1.toInt = 0 := kz_eq c4
    refine lv_iload_n C.1 C.2.1 dX10_isLetter_7 rfl (lv_at hl 0 rfl) ?_
    refine lv_bipush (v := 65) C.1 C.2.1 dX10_isLetter_8 (by decide) ?_
    refine k_cutA (fun (_ : Unit) H locs ls => H = s.heap ∧ locs = [] ∧ wX D [] s [] H A s.heap locs ∧ lv_has ls 1 [(0, .int x0)]) (fun (_ : Unit) ls => F0 m 23 ls []) (fun _ H locs ls hi => ?_) (fun J23 => ?_)
    · obtain ⟨rfl, rfl, Wd, hl⟩ := hi
      refine lv_iconst (v := 0) C.1 C.2.1 dX10_isLetter_23 (by decide) ?_
      exact J24 0 _ _ _ ⟨by have zq0 : (0 : Int32).toInt = 0 := (by decide); omega, by have zq0 : (0 : Int32).toInt = 0 := (by decide); omega, by have zq0 : (0 : Int32).toInt = 0 := (by decide); omega, rfl, rfl, Wd, lv_sub hl [0] rfl⟩
    refine lv_icmp_lt (tgt := 23) C.1 C.2.1 dX10_isLetter_10 (by decide) (fun c10 => ?_) (fun c10 => ?_)
    · have i10 : x0.toInt < 65 := kz_lt c10
      exact J23 () _ _ _ ⟨rfl, rfl, Wd, lv_sub hl [0] rfl⟩
    · have i10 : 65 ≤ x0.toInt := kz_nlt c10
      refine lv_iload_n C.1 C.2.1 dX10_isLetter_13 rfl (lv_at hl 0 rfl) ?_
      refine lv_bipush (v := 90) C.1 C.2.1 dX10_isLetter_14 (by decide) ?_
      refine lv_icmp_gt (tgt := 23) C.1 C.2.1 dX10_isLetter_16 (by decide) (fun c16 => ?_) (fun c16 => ?_)
      · have i16 : 90 < x0.toInt := kz_lt c16
        exact J23 () _ _ _ ⟨rfl, rfl, Wd, lv_sub hl [0] rfl⟩
      · have i16 : x0.toInt ≤ 90 := kz_nlt c16
        exact J19 () _ _ _ ⟨rfl, rfl, Wd, lv_sub hl [0] rfl⟩
set_option maxHeartbeats 4000000 in
set_option maxRecDepth 100000 in
theorem sX10_isDigit (l : Launch) (D : va_G) (x0 : Int32) (sz : Nat)   : Met l yX10_isDigit (Cond.code yX10_isDigit cX10_isDigit 1 (some .boolean) :: gG) { frames := 1, cells := 0, slots := 0, locals := 64 } (cPre D [] [] sz [.int x0]) (vp_Si (fun r => 0 ≤ r.toInt ∧ r.toInt ≤ 1)) 0 0 (fun _ => False) := by
  refine Met.ofW (cc := cX10_isDigit) (maxL := 1) (ret := (some .boolean)) (by decide) rfl ?_
  intro p e s m args below meth c s₁ B hml hv
  obtain ⟨rfl, aks, rfl, Wd⟩ := k_enter hv
  have C : CallFix p m c cX10_isDigit 1 s _ gG RX10 := ⟨B.exec, B.bytes, hml, findClass_of_methodNamed B.named, fun w h => atoms_spec (ws := Cond.code yX10_isDigit cX10_isDigit 1 (some .boolean) :: gG) B.pre w (List.mem_cons_of_mem _ h)⟩
  have hr := B.returns
  have hlk := B.notSynchronized
  obtain ⟨A, Wd⟩ : ∃ A, wX D [] s [] s.heap A s.heap [] := ⟨_, Wd⟩
  refine k_locals (Nat.le_of_ble_eq_true rfl) [(0, .int x0)] rfl (fun ls hl => ?_)
  refine lv_iload_n C.1 C.2.1 dX10_isDigit_0 rfl (lv_at hl 0 rfl) ?_
  refine lv_bipush (v := 48) C.1 C.2.1 dX10_isDigit_1 (by decide) ?_
  refine k_cutA (fun (j17_S_0 : Int32) H locs ls => 0 ≤ j17_S_0.toInt ∧ j17_S_0.toInt ≤ 1 ∧ H = s.heap ∧ locs = [] ∧ wX D [] s [] H A s.heap locs ∧ lv_has ls 1 [(0, .int x0)]) (fun (j17_S_0 : Int32) ls => F0 m 17 ls [.int j17_S_0]) (fun j17_S_0 H locs ls hi => ?_) (fun J17 => ?_)
  · obtain ⟨i17_0, i17_1, rfl, rfl, Wd, hl⟩ := hi
    exact k_zretP C hr hlk (k_nb (by omega) (by omega)) (by exact ⟨by omega, by omega⟩) dX10_isDigit_17
  refine k_cutA (fun (_ : Unit) H locs ls => H = s.heap ∧ locs = [] ∧ wX D [] s [] H A s.heap locs ∧ lv_has ls 1 [(0, .int x0)]) (fun (_ : Unit) ls => F0 m 16 ls []) (fun _ H locs ls hi => ?_) (fun J16 => ?_)
  · obtain ⟨rfl, rfl, Wd, hl⟩ := hi
    refine lv_iconst (v := 0) C.1 C.2.1 dX10_isDigit_16 (by decide) ?_
    exact J17 0 _ _ _ ⟨by have zq0 : (0 : Int32).toInt = 0 := (by decide); omega, by have zq0 : (0 : Int32).toInt = 0 := (by decide); omega, rfl, rfl, Wd, lv_sub hl [0] rfl⟩
  refine lv_icmp_lt (tgt := 16) C.1 C.2.1 dX10_isDigit_3 (by decide) (fun c3 => ?_) (fun c3 => ?_)
  · have i3 : x0.toInt < 48 := kz_lt c3
    exact J16 () _ _ _ ⟨rfl, rfl, Wd, lv_sub hl [0] rfl⟩
  · have i3 : 48 ≤ x0.toInt := kz_nlt c3
    refine lv_iload_n C.1 C.2.1 dX10_isDigit_6 rfl (lv_at hl 0 rfl) ?_
    refine lv_bipush (v := 57) C.1 C.2.1 dX10_isDigit_7 (by decide) ?_
    refine lv_icmp_gt (tgt := 16) C.1 C.2.1 dX10_isDigit_9 (by decide) (fun c9 => ?_) (fun c9 => ?_)
    · have i9 : 57 < x0.toInt := kz_lt c9
      exact J16 () _ _ _ ⟨rfl, rfl, Wd, lv_sub hl [0] rfl⟩
    · have i9 : x0.toInt ≤ 57 := kz_nlt c9
      refine lv_iconst (v := 1) C.1 C.2.1 dX10_isDigit_12 (by decide) ?_
      refine lv_goto (tgt := 17) C.1 C.2.1 dX10_isDigit_13 (by decide) ?_
      exact J17 1 _ _ _ ⟨by have zq1 : (1 : Int32).toInt = 1 := (by decide); omega, by have zq1 : (1 : Int32).toInt = 1 := (by decide); omega, rfl, rfl, Wd, lv_sub hl [0] rfl⟩
set_option maxHeartbeats 4000000 in
set_option maxRecDepth 100000 in
theorem sX10_isSign (l : Launch) (D : va_G) (x0 : Int32) (sz : Nat)   : Met l yX10_isSign (Cond.code yX10_isSign cX10_isSign 3 (some .boolean) :: gG) { frames := 1, cells := 0, slots := 0, locals := 64 } (cPre D [] [] sz [.int x0]) (vp_Si (fun r => 0 ≤ r.toInt ∧ r.toInt ≤ 1)) 0 0 (fun _ => False) := by
  refine Met.ofW (cc := cX10_isSign) (maxL := 3) (ret := (some .boolean)) (by decide) rfl ?_
  intro p e s m args below meth c s₁ B hml hv
  obtain ⟨rfl, aks, rfl, Wd⟩ := k_enter hv
  have C : CallFix p m c cX10_isSign 3 s _ gG RX10 := ⟨B.exec, B.bytes, hml, findClass_of_methodNamed B.named, fun w h => atoms_spec (ws := Cond.code yX10_isSign cX10_isSign 3 (some .boolean) :: gG) B.pre w (List.mem_cons_of_mem _ h)⟩
  have hr := B.returns
  have hlk := B.notSynchronized
  obtain ⟨A, Wd⟩ : ∃ A, wX D [] s [] s.heap A s.heap [] := ⟨_, Wd⟩
  refine k_locals (Nat.le_of_ble_eq_true rfl) [(0, .int x0)] rfl (fun ls hl => ?_)
  refine lv_iload_n C.1 C.2.1 dX10_isSign_0 rfl (lv_at hl 0 rfl) ?_
  refine lv_bipush (v := 43) C.1 C.2.1 dX10_isSign_1 (by decide) ?_
  refine k_cutA (fun (j35_S_0 : Int32) H locs ls => 0 ≤ j35_S_0.toInt ∧ j35_S_0.toInt ≤ 1 ∧ H = s.heap ∧ locs = [] ∧ wX D [] s [] H A s.heap locs ∧ lv_has ls 3 [(0, .int x0)]) (fun (j35_S_0 : Int32) ls => F0 m 35 ls [.int j35_S_0]) (fun j35_S_0 H locs ls hi => ?_) (fun J35 => ?_)
  · obtain ⟨i35_0, i35_1, rfl, rfl, Wd, hl⟩ := hi
    refine lv_istore_n (lv' := [(1, .int j35_S_0), (0, .int x0)]) C.1 C.2.1 dX10_isSign_35 rfl hl (by decide) rfl (fun ls hl => ?_)
    refine lv_iload_n C.1 C.2.1 dX10_isSign_36 rfl (lv_at hl 1 rfl) ?_
    refine lv_bipush (v := 60) C.1 C.2.1 dX10_isSign_37 (by decide) ?_
    refine k_cutA (fun (j59_S_0 : Int32) H locs ls => 0 ≤ j59_S_0.toInt ∧ j59_S_0.toInt ≤ 1 ∧ H = s.heap ∧ locs = [] ∧ wX D [] s [] H A s.heap locs ∧ lv_has ls 3 [(1, .int j35_S_0), (0, .int x0)]) (fun (j59_S_0 : Int32) ls => F0 m 59 ls [.int j59_S_0]) (fun j59_S_0 H locs ls hi => ?_) (fun J59 => ?_)
    · obtain ⟨i59_0, i59_1, rfl, rfl, Wd, hl⟩ := hi
      refine lv_istore_n (lv' := [(2, .int j59_S_0), (1, .int j35_S_0), (0, .int x0)]) C.1 C.2.1 dX10_isSign_59 rfl hl (by decide) rfl (fun ls hl => ?_)
      refine lv_iload_n C.1 C.2.1 dX10_isSign_60 rfl (lv_at hl 1 rfl) ?_
      refine k_cutA (fun (j91_S_0 : Int32) H locs ls => 0 ≤ j91_S_0.toInt ∧ j91_S_0.toInt ≤ 1 ∧ j35_S_0.toInt ≤ j91_S_0.toInt ∧ j59_S_0.toInt ≤ j91_S_0.toInt ∧ H = s.heap ∧ locs = [] ∧ wX D [] s [] H A s.heap locs ∧ lv_has ls 3 [(2, .int j59_S_0), (1, .int j35_S_0), (0, .int x0)]) (fun (j91_S_0 : Int32) ls => F0 m 91 ls [.int j91_S_0]) (fun j91_S_0 H locs ls hi => ?_) (fun J91 => ?_)
      · obtain ⟨i91_0, i91_1, i91_2, i91_3, rfl, rfl, Wd, hl⟩ := hi
        exact k_zretP C hr hlk (k_nb (by omega) (by omega)) (by exact ⟨by omega, by omega⟩) dX10_isSign_91
      refine k_cutA (fun (_ : Unit) H locs ls => H = s.heap ∧ locs = [] ∧ wX D [] s [] H A s.heap locs ∧ lv_has ls 3 [(2, .int j59_S_0), (1, .int j35_S_0), (0, .int x0)]) (fun (_ : Unit) ls => F0 m 86 ls []) (fun _ H locs ls hi => ?_) (fun J86 => ?_)
      · obtain ⟨rfl, rfl, Wd, hl⟩ := hi
        refine lv_iconst (v := 1) C.1 C.2.1 dX10_isSign_86 (by decide) ?_
        refine lv_goto (tgt := 91) C.1 C.2.1 dX10_isSign_87 (by decide) ?_
        exact J91 1 _ _ _ ⟨by have zq1 : (1 : Int32).toInt = 1 := (by decide); omega, by have zq1 : (1 : Int32).toInt = 1 := (by decide); omega, by have zq1 : (1 : Int32).toInt = 1 := (by decide); omega, by have zq1 : (1 : Int32).toInt = 1 := (by decide); omega, rfl, rfl, Wd, lv_sub hl [0, 1, 2] rfl⟩
      refine lv_if_ne (tgt := 86) C.1 C.2.1 dX10_isSign_61 (by decide) (fun c61 => ?_) (fun c61 => ?_)
      · have i61 : ¬ j35_S_0.toInt = 0 := kz_ne c61
        exact J86 () _ _ _ ⟨rfl, rfl, Wd, lv_sub hl [0, 1, 2] rfl⟩
      · have i61 : j35_S_0.toInt = 0 := kz_eq c61
        refine lv_iload_n C.1 C.2.1 dX10_isSign_64 rfl (lv_at hl 0 rfl) ?_
        refine lv_if_ne (tgt := 86) C.1 C.2.1 dX10_isSign_65 (by decide) (fun c65 => ?_) (fun c65 => ?_)
        · have i65 : ¬ j59_S_0.toInt = 0 := kz_ne c65
          exact J86 () _ _ _ ⟨rfl, rfl, Wd, lv_sub hl [0, 1, 2] rfl⟩
        · have i65 : j59_S_0.toInt = 0 := kz_eq c65
          refine lv_iload_n C.1 C.2.1 dX10_isSign_68 rfl (lv_at hl 2 rfl) ?_
          refine lv_bipush (v := 59) C.1 C.2.1 dX10_isSign_69 (by decide) ?_
          refine lv_icmp_eq (tgt := 86) C.1 C.2.1 dX10_isSign_71 (by decide) (fun c71 => ?_) (fun c71 => ?_)
          · have i71 : x0.toInt = 59 := kz_eq c71
            exact J86 () _ _ _ ⟨rfl, rfl, Wd, lv_sub hl [0, 1, 2] rfl⟩
          · have i71 : ¬ x0.toInt = 59 := kz_ne c71
            refine lv_iload_n C.1 C.2.1 dX10_isSign_74 rfl (lv_at hl 2 rfl) ?_
            refine lv_bipush (v := 123) C.1 C.2.1 dX10_isSign_75 (by decide) ?_
            refine lv_icmp_eq (tgt := 86) C.1 C.2.1 dX10_isSign_77 (by decide) (fun c77 => ?_) (fun c77 => ?_)
            · have i77 : x0.toInt = 123 := kz_eq c77
              exact J86 () _ _ _ ⟨rfl, rfl, Wd, lv_sub hl [0, 1, 2] rfl⟩
            · have i77 : ¬ x0.toInt = 123 := kz_ne c77
              refine lv_iload_n C.1 C.2.1 dX10_isSign_80 rfl (lv_at hl 2 rfl) ?_
              refine lv_bipush (v := 125) C.1 C.2.1 dX10_isSign_81 (by decide) ?_
              refine lv_icmp_ne (tgt := 90) C.1 C.2.1 dX10_isSign_83 (by decide) (fun c83 => ?_) (fun c83 => ?_)
              · have i83 : ¬ x0.toInt = 125 := kz_ne c83
                refine lv_iconst (v := 0) C.1 C.2.1 dX10_isSign_90 (by decide) ?_
                exact J91 0 _ _ _ ⟨by have zq0 : (0 : Int32).toInt = 0 := (by decide); omega, by have zq0 : (0 : Int32).toInt = 0 := (by decide); omega, by have zq0 : (0 : Int32).toInt = 0 := (by decide); omega, by have zq0 : (0 : Int32).toInt = 0 := (by decide); omega, rfl, rfl, Wd, lv_sub hl [0, 1, 2] rfl⟩
              · have i83 : x0.toInt = 125 := kz_eq c83
                exact J86 () _ _ _ ⟨rfl, rfl, Wd, lv_sub hl [0, 1, 2] rfl⟩
    refine k_cutA (fun (_ : Unit) H locs ls => 60 ≤ x0.toInt ∧ x0.toInt ≤ 62 ∧ H = s.heap ∧ locs = [] ∧ wX D [] s [] H A s.heap locs ∧ lv_has ls 3 [(1, .int j35_S_0), (0, .int x0)]) (fun (_ : Unit) ls => F0 m 54 ls []) (fun _ H locs ls hi => ?_) (fun J54 => ?_)
    · obtain ⟨i54_0, i54_1, rfl, rfl, Wd, hl⟩ := hi
      refine lv_iconst (v := 1) C.1 C.2.1 dX10_isSign_54 (by decide) ?_
      refine lv_goto (tgt := 59) C.1 C.2.1 dX10_isSign_55 (by decide) ?_
      exact J59 1 _ _ _ ⟨by have zq1 : (1 : Int32).toInt = 1 := (by decide); omega, by have zq1 : (1 : Int32).toInt = 1 := (by decide); omega, rfl, rfl, Wd, lv_sub hl [0, 1] rfl⟩
    refine lv_icmp_eq (tgt := 54) C.1 C.2.1 dX10_isSign_39 (by decide) (fun c39 => ?_) (fun c39 => ?_)
    · have i39 : x0.toInt = 60 := kz_eq c39
      exact J54 () _ _ _ ⟨by omega, by omega, rfl, rfl, Wd, lv_sub hl [0, 1] rfl⟩
    · have i39 : ¬ x0.toInt = 60 := kz_ne c39
      refine lv_iload_n C.1 C.2.1 dX10_isSign_42 rfl (lv_at hl 1 rfl) ?_
      refine lv_bipush (v := 61) C.1 C.2.1 dX10_isSign_43 (by decide) ?_
      refine lv_icmp_eq (tgt := 54) C.1 C.2.1 dX10_isSign_45 (by decide) (fun c45 => ?_) (fun c45 => ?_)
      · have i45 : x0.toInt = 61 := kz_eq c45
        exact J54 () _ _ _ ⟨by omega, by omega, rfl, rfl, Wd, lv_sub hl [0, 1] rfl⟩
      · have i45 : ¬ x0.toInt = 61 := kz_ne c45
        refine lv_iload_n C.1 C.2.1 dX10_isSign_48 rfl (lv_at hl 1 rfl) ?_
        refine lv_bipush (v := 62) C.1 C.2.1 dX10_isSign_49 (by decide) ?_
        refine lv_icmp_ne (tgt := 58) C.1 C.2.1 dX10_isSign_51 (by decide) (fun c51 => ?_) (fun c51 => ?_)
        · have i51 : ¬ x0.toInt = 62 := kz_ne c51
          refine lv_iconst (v := 0) C.1 C.2.1 dX10_isSign_58 (by decide) ?_
          exact J59 0 _ _ _ ⟨by have zq0 : (0 : Int32).toInt = 0 := (by decide); omega, by have zq0 : (0 : Int32).toInt = 0 := (by decide); omega, rfl, rfl, Wd, lv_sub hl [0, 1] rfl⟩
        · have i51 : x0.toInt = 62 := kz_eq c51
          exact J54 () _ _ _ ⟨by omega, by omega, rfl, rfl, Wd, lv_sub hl [0, 1] rfl⟩
  refine k_cutA (fun (_ : Unit) H locs ls => 40 ≤ x0.toInt ∧ x0.toInt ≤ 45 ∧ H = s.heap ∧ locs = [] ∧ wX D [] s [] H A s.heap locs ∧ lv_has ls 3 [(0, .int x0)]) (fun (_ : Unit) ls => F0 m 30 ls []) (fun _ H locs ls hi => ?_) (fun J30 => ?_)
  · obtain ⟨i30_0, i30_1, rfl, rfl, Wd, hl⟩ := hi
    refine lv_iconst (v := 1) C.1 C.2.1 dX10_isSign_30 (by decide) ?_
    refine lv_goto (tgt := 35) C.1 C.2.1 dX10_isSign_31 (by decide) ?_
    exact J35 1 _ _ _ ⟨by have zq1 : (1 : Int32).toInt = 1 := (by decide); omega, by have zq1 : (1 : Int32).toInt = 1 := (by decide); omega, rfl, rfl, Wd, lv_sub hl [0] rfl⟩
  refine lv_icmp_eq (tgt := 30) C.1 C.2.1 dX10_isSign_3 (by decide) (fun c3 => ?_) (fun c3 => ?_)
  · have i3 : x0.toInt = 43 := kz_eq c3
    exact J30 () _ _ _ ⟨by omega, by omega, rfl, rfl, Wd, lv_sub hl [0] rfl⟩
  · have i3 : ¬ x0.toInt = 43 := kz_ne c3
    refine lv_iload_n C.1 C.2.1 dX10_isSign_6 rfl (lv_at hl 0 rfl) ?_
    refine lv_bipush (v := 45) C.1 C.2.1 dX10_isSign_7 (by decide) ?_
    refine lv_icmp_eq (tgt := 30) C.1 C.2.1 dX10_isSign_9 (by decide) (fun c9 => ?_) (fun c9 => ?_)
    · have i9 : x0.toInt = 45 := kz_eq c9
      exact J30 () _ _ _ ⟨by omega, by omega, rfl, rfl, Wd, lv_sub hl [0] rfl⟩
    · have i9 : ¬ x0.toInt = 45 := kz_ne c9
      refine lv_iload_n C.1 C.2.1 dX10_isSign_12 rfl (lv_at hl 0 rfl) ?_
      refine lv_bipush (v := 42) C.1 C.2.1 dX10_isSign_13 (by decide) ?_
      refine lv_icmp_eq (tgt := 30) C.1 C.2.1 dX10_isSign_15 (by decide) (fun c15 => ?_) (fun c15 => ?_)
      · have i15 : x0.toInt = 42 := kz_eq c15
        exact J30 () _ _ _ ⟨by omega, by omega, rfl, rfl, Wd, lv_sub hl [0] rfl⟩
      · have i15 : ¬ x0.toInt = 42 := kz_ne c15
        refine lv_iload_n C.1 C.2.1 dX10_isSign_18 rfl (lv_at hl 0 rfl) ?_
        refine lv_bipush (v := 40) C.1 C.2.1 dX10_isSign_19 (by decide) ?_
        refine lv_icmp_eq (tgt := 30) C.1 C.2.1 dX10_isSign_21 (by decide) (fun c21 => ?_) (fun c21 => ?_)
        · have i21 : x0.toInt = 40 := kz_eq c21
          exact J30 () _ _ _ ⟨by omega, by omega, rfl, rfl, Wd, lv_sub hl [0] rfl⟩
        · have i21 : ¬ x0.toInt = 40 := kz_ne c21
          refine lv_iload_n C.1 C.2.1 dX10_isSign_24 rfl (lv_at hl 0 rfl) ?_
          refine lv_bipush (v := 41) C.1 C.2.1 dX10_isSign_25 (by decide) ?_
          refine lv_icmp_ne (tgt := 34) C.1 C.2.1 dX10_isSign_27 (by decide) (fun c27 => ?_) (fun c27 => ?_)
          · have i27 : ¬ x0.toInt = 41 := kz_ne c27
            refine lv_iconst (v := 0) C.1 C.2.1 dX10_isSign_34 (by decide) ?_
            exact J35 0 _ _ _ ⟨by have zq0 : (0 : Int32).toInt = 0 := (by decide); omega, by have zq0 : (0 : Int32).toInt = 0 := (by decide); omega, rfl, rfl, Wd, lv_sub hl [0] rfl⟩
          · have i27 : x0.toInt = 41 := kz_eq c27
            exact J30 () _ _ _ ⟨by omega, by omega, rfl, rfl, Wd, lv_sub hl [0] rfl⟩
set_option maxHeartbeats 4000000 in
set_option maxRecDepth 100000 in
theorem sX10_takeSign (l : Launch) (D : va_G) (h : Nat) (x0 : Int32) (x1 : Int32) (h_0 : Nat) (h_1 : Int32) (h_2 : Int32) (h_3 : Int32) (h_4 : Int32) (h_5 : Int32) (a_h_0 : ClassId) (f_h_0 : Nat → Int32) (sz : Nat) (k_x1_lo : 0 ≤ x1.toInt) (k_x1_hi : x1.toInt ≤ 1) (k_h_1_lo : 0 ≤ h_1.toInt) (k_h_1_hi : h_1.toInt ≤ 800)  : Met l yX10_takeSign (Cond.code yX10_takeSign cX10_takeSign 3 none :: gG) { frames := 2, cells := 0, slots := 0, locals := 86 } (cPre D [(a_h_0, .int)] [(h, .inr (10, [.ref h_0, .int h_1, .int h_2, .int h_3, .int h_4, .int h_5])), (h_0, .inl (a_h_0, 800, .inl f_h_0))] sz [.ref h, .int x0, .int x1]) (va_Qv (fun (u : (Int32) × (Int32)) => match u with | (jX_F_h_2, jX_F_h_5) => True) (fun u t => cB D (va_A [(h, .inr (10, [.ref h_0, .int h_1, .int h_2, .int h_3, .int h_4, .int h_5])), (h_0, .inl (a_h_0, 800, .inl f_h_0))] sz) ((fun (_ : (Int32) × (Int32)) => ([] : List (ClassId × FieldType))) u) ((fun (u : (Int32) × (Int32)) => match u with | (jX_F_h_2, jX_F_h_5) => ([(h, .inr (10, [.ref h_0, .int h_1, .int jX_F_h_2, .int h_3, .int h_4, .int jX_F_h_5])), (h_0, .inl (a_h_0, 800, .inl f_h_0))] : va_W)) u) t) (va_A [(h, .inr (10, [.ref h_0, .int h_1, .int h_2, .int h_3, .int h_4, .int h_5])), (h_0, .inl (a_h_0, 800, .inl f_h_0))] sz)) 0 0 (va_A [(h, .inr (10, [.ref h_0, .int h_1, .int h_2, .int h_3, .int h_4, .int h_5])), (h_0, .inl (a_h_0, 800, .inl f_h_0))] sz) := by
  refine Met.ofW (cc := cX10_takeSign) (maxL := 3) (ret := none) (by decide) rfl ?_
  intro p e s m args below meth c s₁ B hml hv
  obtain ⟨rfl, aks, rfl, Wd⟩ := k_enter hv
  have C : CallFix p m c cX10_takeSign 3 s _ gG RX10 := ⟨B.exec, B.bytes, hml, findClass_of_methodNamed B.named, fun w h => atoms_spec (ws := Cond.code yX10_takeSign cX10_takeSign 3 none :: gG) B.pre w (List.mem_cons_of_mem _ h)⟩
  have hr := B.returns
  have hlk := B.notSynchronized
  generalize va_A [(h, .inr (10, [.ref h_0, .int h_1, .int h_2, .int h_3, .int h_4, .int h_5])), (h_0, .inl (a_h_0, 800, .inl f_h_0))] s.heap.size = A at Wd ⊢
  refine k_locals (Nat.le_of_ble_eq_true rfl) [(0, .ref h), (1, .int x0), (2, .int x1)] rfl (fun ls hl => ?_)
  refine lv_aload_n C.1 C.2.1 dX10_takeSign_0 rfl (lv_at hl 0 rfl) ?_
  refine lv_aload_n C.1 C.2.1 dX10_takeSign_1 rfl (lv_at hl 0 rfl) ?_
  refine k_get C Wd KX10 0 4 rfl (by decide) fl_X10_22 rfl dX10_takeSign_2 ?_
  refine lv_iconst (v := 1) C.1 C.2.1 dX10_takeSign_5 (by decide) ?_
  obtain ⟨v6, ev6⟩ : ∃ z : Int32, h_4 + 1 = z := ⟨_, rfl⟩
  refine k_iadd (v := v6) C ev6 dX10_takeSign_6 ?_
  refine k_put C Wd KX10 0 5 [(h, .inr (10, [.ref h_0, .int h_1, .int h_2, .int h_3, .int h_4, .int v6])), (h_0, .inl (a_h_0, 800, .inl f_h_0))] rfl (by decide) fl_X10_19 rfl rfl rfl (Nat.le_of_ble_eq_true rfl) rfl dX10_takeSign_7 (fun H locs Wd => ?_)
  refine lv_iload_n C.1 C.2.1 dX10_takeSign_10 rfl (lv_at hl 1 rfl) ?_
  refine lv_iconst (v := (-1)) C.1 C.2.1 dX10_takeSign_11 (by decide) ?_
  refine k_cutA (fun (u : (Int32) × (Int32)) H locs ls => match u with | (j91_F_h_2, j91_F_h_5) => wX D [(a_h_0, .int)] s [(h, .inr (10, [.ref h_0, .int h_1, .int j91_F_h_2, .int h_3, .int h_4, .int j91_F_h_5])), (h_0, .inl (a_h_0, 800, .inl f_h_0))] H A s.heap locs ∧ lv_has ls 3 [(0, .ref h), (1, .int x0), (2, .int x1)]) (fun (u : (Int32) × (Int32)) ls => match u with | (j91_F_h_2, j91_F_h_5) => F0 m 91 ls []) (fun u H locs ls hi => ?_) (fun J91 => ?_)
  · obtain ⟨j91_F_h_2, j91_F_h_5⟩ := u
    obtain ⟨Wd, hl⟩ := hi
    exact k_vret C hr hlk Wd (j91_F_h_2, j91_F_h_5) trivial [0, 1] rfl (by decide) [] rfl (by decide) (by decide) dX10_takeSign_91
  refine lv_icmp_ne (tgt := 31) C.1 C.2.1 dX10_takeSign_12 (by decide) (fun c12 => ?_) (fun c12 => ?_)
  · have i12 : ¬ x0.toInt = (-1) := kz_ne c12
    refine lv_iload_n C.1 C.2.1 dX10_takeSign_31 rfl (lv_at hl 2 rfl) ?_
    refine k_cutA (fun (_ : Unit) H locs ls => wX D [(a_h_0, .int)] s [(h, .inr (10, [.ref h_0, .int h_1, .int h_2, .int h_3, .int h_4, .int v6])), (h_0, .inl (a_h_0, 800, .inl f_h_0))] H A s.heap locs ∧ lv_has ls 3 [(0, .ref h), (1, .int x0), (2, .int x1)]) (fun (_ : Unit) ls => F0 m 75 ls []) (fun _ H locs ls hi => ?_) (fun J75 => ?_)
    · obtain ⟨Wd, hl⟩ := hi
      refine lv_aload_n C.1 C.2.1 dX10_takeSign_75 rfl (lv_at hl 0 rfl) ?_
      refine lv_iload_n C.1 C.2.1 dX10_takeSign_76 rfl (lv_at hl 1 rfl) ?_
      refine k_pi (k_runS (rest := [.ref h]) C aks Wd cs_X10_78 (sX10_isSign l D x0 _ ) [] rfl (by decide) [] rfl rfl rfl ⟨(Nat.le_of_ble_eq_true rfl), (Nat.le_of_ble_eq_true rfl)⟩ hl.1 rfl rfl (Nat.le_of_ble_eq_true rfl) ⟨(Nat.le_of_ble_eq_true rfl), (Nat.le_of_ble_eq_true rfl)⟩ dX10_takeSign_77) (fun r77 w77 => ?_)
      obtain ⟨g77_0, g77_1⟩ := w77
      have g77_0 : 0 ≤ r77.toInt := g77_0
      have g77_1 : r77.toInt ≤ 1 := g77_1
      refine k_cutA (fun (j88_S_0 : Int32) H locs ls => wX D [(a_h_0, .int)] s [(h, .inr (10, [.ref h_0, .int h_1, .int h_2, .int h_3, .int h_4, .int v6])), (h_0, .inl (a_h_0, 800, .inl f_h_0))] H A s.heap locs ∧ lv_has ls 3 [(0, .ref h), (1, .int x0), (2, .int x1)]) (fun (j88_S_0 : Int32) ls => F0 m 88 ls [.int j88_S_0, .ref h]) (fun j88_S_0 H locs ls hi => ?_) (fun J88 => ?_)
      · obtain ⟨Wd, hl⟩ := hi
        refine k_put C Wd KX10 0 2 [(h, .inr (10, [.ref h_0, .int h_1, .int j88_S_0, .int h_3, .int h_4, .int v6])), (h_0, .inl (a_h_0, 800, .inl f_h_0))] rfl (by decide) fl_X10_25 rfl rfl rfl (Nat.le_of_ble_eq_true rfl) rfl dX10_takeSign_88 (fun H locs Wd => ?_)
        exact J91 (j88_S_0, v6) _ _ _ ⟨Wd, lv_sub hl [0, 1, 2] rfl⟩
      refine lv_if_eq (tgt := 87) C.1 C.2.1 dX10_takeSign_80 (by decide) (fun c80 => ?_) (fun c80 => ?_)
      · have i80 : r77.toInt = 0 := kz_eq c80
        refine lv_iconst (v := 0) C.1 C.2.1 dX10_takeSign_87 (by decide) ?_
        exact J88 0 _ _ _ ⟨Wd, lv_sub hl [0, 1, 2] rfl⟩
      · have i80 : ¬ r77.toInt = 0 := kz_ne c80
        refine lv_iload_n C.1 C.2.1 dX10_takeSign_83 rfl (lv_at hl 1 rfl) ?_
        refine lv_goto (tgt := 88) C.1 C.2.1 dX10_takeSign_84 (by decide) ?_
        exact J88 x0 _ _ _ ⟨Wd, lv_sub hl [0, 1, 2] rfl⟩
    refine lv_if_eq (tgt := 75) C.1 C.2.1 dX10_takeSign_32 (by decide) (fun c32 => ?_) (fun c32 => ?_)
    · have i32 : x1.toInt = 0 := kz_eq c32
      exact J75 () _ _ _ ⟨Wd, lv_sub hl [0, 1, 2] rfl⟩
    · have i32 : ¬ x1.toInt = 0 := kz_ne c32
      refine lv_iload_n C.1 C.2.1 dX10_takeSign_35 rfl (lv_at hl 1 rfl) ?_
      refine lv_bipush (v := 45) C.1 C.2.1 dX10_takeSign_36 (by decide) ?_
      refine lv_icmp_ne (tgt := 75) C.1 C.2.1 dX10_takeSign_38 (by decide) (fun c38 => ?_) (fun c38 => ?_)
      · have i38 : ¬ x0.toInt = 45 := kz_ne c38
        exact J75 () _ _ _ ⟨Wd, lv_sub hl [0, 1, 2] rfl⟩
      · have i38 : x0.toInt = 45 := kz_eq c38
        refine lv_aload_n C.1 C.2.1 dX10_takeSign_41 rfl (lv_at hl 0 rfl) ?_
        refine lv_aload_n C.1 C.2.1 dX10_takeSign_42 rfl (lv_at hl 0 rfl) ?_
        refine k_get C Wd KX10 0 4 rfl (by decide) fl_X10_22 rfl dX10_takeSign_43 ?_
        refine lv_iconst (v := 1) C.1 C.2.1 dX10_takeSign_46 (by decide) ?_
        obtain ⟨v47, ev47⟩ : ∃ z : Int32, h_4 + 1 = z := ⟨_, rfl⟩
        refine k_iadd (v := v47) C ev47 dX10_takeSign_47 ?_
        refine k_pi (k_runV (rest := []) C aks Wd cs_X10_31 (sX10_byteAt l D h v47 h_0 h_1 h_2 h_3 h_4 v6 a_h_0 f_h_0 _ (by omega) (by omega)) [0, 1] rfl (by decide) [0] rfl 0 10 rfl rfl rfl rfl rfl ⟨(Nat.le_of_ble_eq_true rfl), (Nat.le_of_ble_eq_true rfl)⟩ hl.1 rfl rfl (Nat.le_of_ble_eq_true rfl) ⟨(Nat.le_of_ble_eq_true rfl), (Nat.le_of_ble_eq_true rfl)⟩ dX10_takeSign_48) (fun r48 w48 => ?_)
        refine lv_bipush (v := 62) C.1 C.2.1 dX10_takeSign_51 (by decide) ?_
        refine lv_icmp_ne (tgt := 75) C.1 C.2.1 dX10_takeSign_53 (by decide) (fun c53 => ?_) (fun c53 => ?_)
        · have i53 : ¬ r48.toInt = 62 := kz_ne c53
          exact J75 () _ _ _ ⟨Wd, lv_sub hl [0, 1, 2] rfl⟩
        · have i53 : r48.toInt = 62 := kz_eq c53
          refine lv_aload_n C.1 C.2.1 dX10_takeSign_56 rfl (lv_at hl 0 rfl) ?_
          refine lv_bipush (v := 9) C.1 C.2.1 dX10_takeSign_57 (by decide) ?_
          refine k_put C Wd KX10 0 2 [(h, .inr (10, [.ref h_0, .int h_1, .int 9, .int h_3, .int h_4, .int v6])), (h_0, .inl (a_h_0, 800, .inl f_h_0))] rfl (by decide) fl_X10_25 rfl rfl rfl (Nat.le_of_ble_eq_true rfl) rfl dX10_takeSign_59 (fun H locs Wd => ?_)
          refine lv_aload_n C.1 C.2.1 dX10_takeSign_62 rfl (lv_at hl 0 rfl) ?_
          refine lv_aload_n C.1 C.2.1 dX10_takeSign_63 rfl (lv_at hl 0 rfl) ?_
          refine k_get C Wd KX10 0 4 rfl (by decide) fl_X10_22 rfl dX10_takeSign_64 ?_
          refine lv_iconst (v := 2) C.1 C.2.1 dX10_takeSign_67 (by decide) ?_
          obtain ⟨v68, ev68⟩ : ∃ z : Int32, h_4 + 2 = z := ⟨_, rfl⟩
          refine k_iadd (v := v68) C ev68 dX10_takeSign_68 ?_
          refine k_put C Wd KX10 0 5 [(h, .inr (10, [.ref h_0, .int h_1, .int 9, .int h_3, .int h_4, .int v68])), (h_0, .inl (a_h_0, 800, .inl f_h_0))] rfl (by decide) fl_X10_19 rfl rfl rfl (Nat.le_of_ble_eq_true rfl) rfl dX10_takeSign_69 (fun H locs Wd => ?_)
          refine lv_goto (tgt := 91) C.1 C.2.1 dX10_takeSign_72 (by decide) ?_
          exact J91 (9, v68) _ _ _ ⟨Wd, lv_sub hl [0, 1, 2] rfl⟩
  · have i12 : x0.toInt = (-1) := kz_eq c12
    refine lv_aload_n C.1 C.2.1 dX10_takeSign_15 rfl (lv_at hl 0 rfl) ?_
    refine lv_iconst (v := 1) C.1 C.2.1 dX10_takeSign_16 (by decide) ?_
    refine k_put C Wd KX10 0 2 [(h, .inr (10, [.ref h_0, .int h_1, .int 1, .int h_3, .int h_4, .int v6])), (h_0, .inl (a_h_0, 800, .inl f_h_0))] rfl (by decide) fl_X10_25 rfl rfl rfl (Nat.le_of_ble_eq_true rfl) rfl dX10_takeSign_17 (fun H locs Wd => ?_)
    refine lv_aload_n C.1 C.2.1 dX10_takeSign_20 rfl (lv_at hl 0 rfl) ?_
    refine lv_aload_n C.1 C.2.1 dX10_takeSign_21 rfl (lv_at hl 0 rfl) ?_
    refine k_get C Wd KX10 0 4 rfl (by decide) fl_X10_22 rfl dX10_takeSign_22 ?_
    refine k_put C Wd KX10 0 5 [(h, .inr (10, [.ref h_0, .int h_1, .int 1, .int h_3, .int h_4, .int h_4])), (h_0, .inl (a_h_0, 800, .inl f_h_0))] rfl (by decide) fl_X10_19 rfl rfl rfl (Nat.le_of_ble_eq_true rfl) rfl dX10_takeSign_25 (fun H locs Wd => ?_)
    refine lv_goto (tgt := 91) C.1 C.2.1 dX10_takeSign_28 (by decide) ?_
    exact J91 (1, h_4) _ _ _ ⟨Wd, lv_sub hl [0, 1, 2] rfl⟩
set_option maxHeartbeats 4000000 in
set_option maxRecDepth 100000 in
theorem sX10_takeDigits (l : Launch) (D : va_G) (h : Nat) (h_0 : Nat) (h_1 : Int32) (h_2 : Int32) (h_3 : Int32) (h_4 : Int32) (h_5 : Int32) (a_h_0 : ClassId) (f_h_0 : Nat → Int32) (sz : Nat) (k_h_1_lo : 0 ≤ h_1.toInt) (k_h_1_hi : h_1.toInt ≤ 800)  : Met l yX10_takeDigits (Cond.code yX10_takeDigits cX10_takeDigits 2 none :: gG) { frames := 2, cells := 0, slots := 0, locals := 85 } (cPre D [(a_h_0, .int)] [(h, .inr (10, [.ref h_0, .int h_1, .int h_2, .int h_3, .int h_4, .int h_5])), (h_0, .inl (a_h_0, 800, .inl f_h_0))] sz [.ref h]) (va_Qv (fun (u : (Int32) × (Int32) × (Int32)) => match u with | (jX_F_h_2, jX_F_h_3, jX_F_h_5) => 0 ≤ jX_F_h_2.toInt ∧ jX_F_h_2.toInt ≤ 2 ∧ h_4.toInt ≤ jX_F_h_5.toInt) (fun u t => cB D (va_A [(h, .inr (10, [.ref h_0, .int h_1, .int h_2, .int h_3, .int h_4, .int h_5])), (h_0, .inl (a_h_0, 800, .inl f_h_0))] sz) ((fun (_ : (Int32) × (Int32) × (Int32)) => ([] : List (ClassId × FieldType))) u) ((fun (u : (Int32) × (Int32) × (Int32)) => match u with | (jX_F_h_2, jX_F_h_3, jX_F_h_5) => ([(h, .inr (10, [.ref h_0, .int h_1, .int jX_F_h_2, .int jX_F_h_3, .int h_4, .int jX_F_h_5])), (h_0, .inl (a_h_0, 800, .inl f_h_0))] : va_W)) u) t) (va_A [(h, .inr (10, [.ref h_0, .int h_1, .int h_2, .int h_3, .int h_4, .int h_5])), (h_0, .inl (a_h_0, 800, .inl f_h_0))] sz)) 0 0 (va_A [(h, .inr (10, [.ref h_0, .int h_1, .int h_2, .int h_3, .int h_4, .int h_5])), (h_0, .inl (a_h_0, 800, .inl f_h_0))] sz) := by
  refine Met.ofW (cc := cX10_takeDigits) (maxL := 2) (ret := none) (by decide) rfl ?_
  intro p e s m args below meth c s₁ B hml hv
  obtain ⟨rfl, aks, rfl, Wd⟩ := k_enter hv
  have C : CallFix p m c cX10_takeDigits 2 s _ gG RX10 := ⟨B.exec, B.bytes, hml, findClass_of_methodNamed B.named, fun w h => atoms_spec (ws := Cond.code yX10_takeDigits cX10_takeDigits 2 none :: gG) B.pre w (List.mem_cons_of_mem _ h)⟩
  have hr := B.returns
  have hlk := B.notSynchronized
  generalize va_A [(h, .inr (10, [.ref h_0, .int h_1, .int h_2, .int h_3, .int h_4, .int h_5])), (h_0, .inl (a_h_0, 800, .inl f_h_0))] s.heap.size = A at Wd ⊢
  refine k_locals (Nat.le_of_ble_eq_true rfl) [(0, .ref h)] rfl (fun ls hl => ?_)
  refine lv_aload_n C.1 C.2.1 dX10_takeDigits_0 rfl (lv_at hl 0 rfl) ?_
  refine lv_aload_n C.1 C.2.1 dX10_takeDigits_1 rfl (lv_at hl 0 rfl) ?_
  refine k_get C Wd KX10 0 4 rfl (by decide) fl_X10_22 rfl dX10_takeDigits_2 ?_
  refine k_put C Wd KX10 0 5 [(h, .inr (10, [.ref h_0, .int h_1, .int h_2, .int h_3, .int h_4, .int h_4])), (h_0, .inl (a_h_0, 800, .inl f_h_0))] rfl (by decide) fl_X10_19 rfl rfl rfl (Nat.le_of_ble_eq_true rfl) rfl dX10_takeDigits_5 (fun H locs Wd => ?_)
  refine lv_aload_n C.1 C.2.1 dX10_takeDigits_8 rfl (lv_at hl 0 rfl) ?_
  refine lv_iconst (v := 0) C.1 C.2.1 dX10_takeDigits_9 (by decide) ?_
  refine k_put C Wd KX10 0 3 [(h, .inr (10, [.ref h_0, .int h_1, .int h_2, .int 0, .int h_4, .int h_4])), (h_0, .inl (a_h_0, 800, .inl f_h_0))] rfl (by decide) fl_X10_28 rfl rfl rfl (Nat.le_of_ble_eq_true rfl) rfl dX10_takeDigits_10 (fun H locs Wd => ?_)
  refine lv_aload_n C.1 C.2.1 dX10_takeDigits_13 rfl (lv_at hl 0 rfl) ?_
  refine k_get C Wd KX10 0 4 rfl (by decide) fl_X10_22 rfl dX10_takeDigits_14 ?_
  refine lv_istore_n (lv' := [(1, .int h_4), (0, .ref h)]) C.1 C.2.1 dX10_takeDigits_17 rfl hl (by decide) rfl (fun ls hl => ?_)
  refine k_loopA (fun (u : (Int32) × (Int32) × (Int32)) H locs ls => match u with | (j18_F_h_3, j18_F_h_5, j18_L_1) => h_4.toInt ≤ j18_F_h_5.toInt ∧ h_4.toInt ≤ j18_L_1.toInt ∧ j18_F_h_5.toInt ≤ j18_L_1.toInt ∧ j18_L_1.toInt ≤ j18_F_h_5.toInt ∧ wX D [(a_h_0, .int)] s [(h, .inr (10, [.ref h_0, .int h_1, .int h_2, .int j18_F_h_3, .int h_4, .int j18_F_h_5])), (h_0, .inl (a_h_0, 800, .inl f_h_0))] H A s.heap locs ∧ lv_has ls 2 [(1, .int j18_L_1), (0, .ref h)]) (fun (u : (Int32) × (Int32) × (Int32)) ls => match u with | (j18_F_h_3, j18_F_h_5, j18_L_1) => F0 m 18 ls []) (fun (u : (Int32) × (Int32) × (Int32)) => match u with | (j18_F_h_3, j18_F_h_5, j18_L_1) => (801 - j18_F_h_5.toInt).toNat) (fun u H locs ls hi ih18 => ?_) (0, h_4, h_4) _ _ _ ⟨by omega, by omega, by omega, by omega, Wd, lv_sub hl [0, 1] rfl⟩
  obtain ⟨j18_F_h_3, j18_F_h_5, j18_L_1⟩ := u
  obtain ⟨i18_0, i18_1, i18_2, i18_3, Wd, hl⟩ := hi
  refine lv_iload_n C.1 C.2.1 dX10_takeDigits_18 rfl (lv_at hl 0 rfl) ?_
  refine lv_aload_n C.1 C.2.1 dX10_takeDigits_19 rfl (lv_at hl 1 rfl) ?_
  refine k_get C Wd KX10 0 1 rfl (by decide) fl_X10_15 rfl dX10_takeDigits_20 ?_
  refine k_cutA (fun (_ : Unit) H locs ls => wX D [(a_h_0, .int)] s [(h, .inr (10, [.ref h_0, .int h_1, .int h_2, .int j18_F_h_3, .int h_4, .int j18_F_h_5])), (h_0, .inl (a_h_0, 800, .inl f_h_0))] H A s.heap locs ∧ lv_has ls 2 [(1, .int j18_L_1), (0, .ref h)]) (fun (_ : Unit) ls => F0 m 87 ls []) (fun _ H locs ls hi => ?_) (fun J87 => ?_)
  · obtain ⟨Wd, hl⟩ := hi
    refine lv_aload_n C.1 C.2.1 dX10_takeDigits_87 rfl (lv_at hl 1 rfl) ?_
    refine lv_aload_n C.1 C.2.1 dX10_takeDigits_88 rfl (lv_at hl 1 rfl) ?_
    refine k_get C Wd KX10 0 5 rfl (by decide) fl_X10_19 rfl dX10_takeDigits_89 ?_
    refine lv_aload_n C.1 C.2.1 dX10_takeDigits_92 rfl (lv_at hl 1 rfl) ?_
    refine k_get C Wd KX10 0 4 rfl (by decide) fl_X10_22 rfl dX10_takeDigits_93 ?_
    obtain ⟨v96, ev96⟩ : ∃ z : Int32, j18_F_h_5 - h_4 = z := ⟨_, rfl⟩
    refine k_isub (v := v96) C ev96 dX10_takeDigits_96 ?_
    refine lv_iconst (v := 4) C.1 C.2.1 dX10_takeDigits_97 (by decide) ?_
    refine k_cutA (fun (j106_S_0 : Int32) H locs ls => 0 ≤ j106_S_0.toInt ∧ j106_S_0.toInt ≤ 2 ∧ wX D [(a_h_0, .int)] s [(h, .inr (10, [.ref h_0, .int h_1, .int h_2, .int j18_F_h_3, .int h_4, .int j18_F_h_5])), (h_0, .inl (a_h_0, 800, .inl f_h_0))] H A s.heap locs ∧ lv_has ls 2 [(1, .int j18_L_1), (0, .ref h)]) (fun (j106_S_0 : Int32) ls => F0 m 106 ls [.int j106_S_0, .ref h]) (fun j106_S_0 H locs ls hi => ?_) (fun J106 => ?_)
    · obtain ⟨i106_0, i106_1, Wd, hl⟩ := hi
      refine k_put C Wd KX10 0 2 [(h, .inr (10, [.ref h_0, .int h_1, .int j106_S_0, .int j18_F_h_3, .int h_4, .int j18_F_h_5])), (h_0, .inl (a_h_0, 800, .inl f_h_0))] rfl (by decide) fl_X10_25 rfl rfl rfl (Nat.le_of_ble_eq_true rfl) rfl dX10_takeDigits_106 (fun H locs Wd => ?_)
      exact k_vret C hr hlk Wd (j106_S_0, j18_F_h_3, j18_F_h_5) (by exact ⟨by omega, by omega, by omega⟩) [0, 1] rfl (by decide) [] rfl (by decide) (by decide) dX10_takeDigits_109
    refine lv_icmp_gt (tgt := 105) C.1 C.2.1 dX10_takeDigits_98 (by decide) (fun c98 => ?_) (fun c98 => ?_)
    · have i98 : 4 < v96.toInt := kz_lt c98
      refine lv_iconst (v := 0) C.1 C.2.1 dX10_takeDigits_105 (by decide) ?_
      exact J106 0 _ _ _ ⟨by have zq0 : (0 : Int32).toInt = 0 := (by decide); omega, by have zq0 : (0 : Int32).toInt = 0 := (by decide); omega, Wd, lv_sub hl [0, 1] rfl⟩
    · have i98 : v96.toInt ≤ 4 := kz_nlt c98
      refine lv_iconst (v := 2) C.1 C.2.1 dX10_takeDigits_101 (by decide) ?_
      refine lv_goto (tgt := 106) C.1 C.2.1 dX10_takeDigits_102 (by decide) ?_
      exact J106 2 _ _ _ ⟨by have zq2 : (2 : Int32).toInt = 2 := (by decide); omega, by have zq2 : (2 : Int32).toInt = 2 := (by decide); omega, Wd, lv_sub hl [0, 1] rfl⟩
  refine lv_icmp_ge (tgt := 87) C.1 C.2.1 dX10_takeDigits_23 (by decide) (fun c23 => ?_) (fun c23 => ?_)
  · have i23 : h_1.toInt ≤ j18_L_1.toInt := kz_le c23
    exact J87 () _ _ _ ⟨Wd, lv_sub hl [0, 1] rfl⟩
  · have i23 : j18_L_1.toInt < h_1.toInt := kz_nle c23
    refine lv_aload_n C.1 C.2.1 dX10_takeDigits_26 rfl (lv_at hl 1 rfl) ?_
    refine lv_iload_n C.1 C.2.1 dX10_takeDigits_27 rfl (lv_at hl 0 rfl) ?_
    refine k_pi (k_runV (rest := []) C aks Wd cs_X10_31 (sX10_byteAt l D h j18_L_1 h_0 h_1 h_2 j18_F_h_3 h_4 j18_F_h_5 a_h_0 f_h_0 _ (by omega) (by omega)) [0, 1] rfl (by decide) [0] rfl 0 10 rfl rfl rfl rfl rfl ⟨(Nat.le_of_ble_eq_true rfl), (Nat.le_of_ble_eq_true rfl)⟩ hl.1 rfl rfl (Nat.le_of_ble_eq_true rfl) ⟨(Nat.le_of_ble_eq_true rfl), (Nat.le_of_ble_eq_true rfl)⟩ dX10_takeDigits_28) (fun r28 w28 => ?_)
    refine k_pi (k_runS (rest := []) C aks Wd cs_X10_42 (sX10_isDigit l D r28 _ ) [] rfl (by decide) [] rfl rfl rfl ⟨(Nat.le_of_ble_eq_true rfl), (Nat.le_of_ble_eq_true rfl)⟩ hl.1 rfl rfl (Nat.le_of_ble_eq_true rfl) ⟨(Nat.le_of_ble_eq_true rfl), (Nat.le_of_ble_eq_true rfl)⟩ dX10_takeDigits_31) (fun r31 w31 => ?_)
    obtain ⟨g31_0, g31_1⟩ := w31
    have g31_0 : 0 ≤ r31.toInt := g31_0
    have g31_1 : r31.toInt ≤ 1 := g31_1
    refine lv_if_eq (tgt := 87) C.1 C.2.1 dX10_takeDigits_34 (by decide) (fun c34 => ?_) (fun c34 => ?_)
    · have i34 : r31.toInt = 0 := kz_eq c34
      exact J87 () _ _ _ ⟨Wd, lv_sub hl [0, 1] rfl⟩
    · have i34 : ¬ r31.toInt = 0 := kz_ne c34
      refine lv_aload_n C.1 C.2.1 dX10_takeDigits_37 rfl (lv_at hl 1 rfl) ?_
      refine lv_iload_n C.1 C.2.1 dX10_takeDigits_38 rfl (lv_at hl 0 rfl) ?_
      refine lv_aload_n C.1 C.2.1 dX10_takeDigits_39 rfl (lv_at hl 1 rfl) ?_
      refine k_get C Wd KX10 0 4 rfl (by decide) fl_X10_22 rfl dX10_takeDigits_40 ?_
      obtain ⟨v43, ev43⟩ : ∃ z : Int32, j18_L_1 - h_4 = z := ⟨_, rfl⟩
      refine k_isub (v := v43) C ev43 dX10_takeDigits_43 ?_
      refine lv_iconst (v := 4) C.1 C.2.1 dX10_takeDigits_44 (by decide) ?_
      refine k_cutA (fun (j71_S_0 : Int32) H locs ls => wX D [(a_h_0, .int)] s [(h, .inr (10, [.ref h_0, .int h_1, .int h_2, .int j18_F_h_3, .int h_4, .int j18_F_h_5])), (h_0, .inl (a_h_0, 800, .inl f_h_0))] H A s.heap locs ∧ lv_has ls 2 [(1, .int j18_L_1), (0, .ref h)]) (fun (j71_S_0 : Int32) ls => F0 m 71 ls [.int j71_S_0, .ref h]) (fun j71_S_0 H locs ls hi => ?_) (fun J71 => ?_)
      · obtain ⟨Wd, hl⟩ := hi
        refine k_put C Wd KX10 0 3 [(h, .inr (10, [.ref h_0, .int h_1, .int h_2, .int j71_S_0, .int h_4, .int j18_F_h_5])), (h_0, .inl (a_h_0, 800, .inl f_h_0))] rfl (by decide) fl_X10_28 rfl rfl rfl (Nat.le_of_ble_eq_true rfl) rfl dX10_takeDigits_71 (fun H locs Wd => ?_)
        refine lv_aload_n C.1 C.2.1 dX10_takeDigits_74 rfl (lv_at hl 1 rfl) ?_
        refine lv_iload_n C.1 C.2.1 dX10_takeDigits_75 rfl (lv_at hl 0 rfl) ?_
        refine lv_iconst (v := 1) C.1 C.2.1 dX10_takeDigits_76 (by decide) ?_
        obtain ⟨v77, ev77⟩ : ∃ z : Int32, j18_L_1 + 1 = z := ⟨_, rfl⟩
        have iv77 : v77.toInt = j18_L_1.toInt + 1 := kz_addc ev77 (by decide) (by have zr0 := kz_rng j18_L_1; omega) (by have zr0 := kz_rng j18_L_1; omega)
        refine k_iadd (v := v77) C ev77 dX10_takeDigits_77 ?_
        refine k_put C Wd KX10 0 5 [(h, .inr (10, [.ref h_0, .int h_1, .int h_2, .int j71_S_0, .int h_4, .int v77])), (h_0, .inl (a_h_0, 800, .inl f_h_0))] rfl (by decide) fl_X10_19 rfl rfl rfl (Nat.le_of_ble_eq_true rfl) rfl dX10_takeDigits_78 (fun H locs Wd => ?_)
        obtain ⟨v81, ev81⟩ : ∃ z : Int32, j18_L_1 + 1 = z := ⟨_, rfl⟩
        have iv81 : v81.toInt = j18_L_1.toInt + 1 := kz_addc ev81 (by decide) (by have zr0 := kz_rng j18_L_1; omega) (by have zr0 := kz_rng j18_L_1; omega)
        refine lv_iinc (v := v81) (lv' := [(1, .int v81), (0, .ref h)]) C.1 C.2.1 dX10_takeDigits_81 hl (k := 0) rfl ev81 (by decide) rfl (fun ls hl => ?_)
        refine lv_goto (tgt := 18) C.1 C.2.1 dX10_takeDigits_84 (by decide) ?_
        exact ih18 (j71_S_0, v77, v81) _ _ _ ⟨by omega, by omega, by omega, by omega, Wd, lv_sub hl [0, 1] rfl⟩ (by show (801 - v77.toInt).toNat < (801 - j18_F_h_5.toInt).toNat; omega)
      refine lv_icmp_ge (tgt := 67) C.1 C.2.1 dX10_takeDigits_45 (by decide) (fun c45 => ?_) (fun c45 => ?_)
      · have i45 : 4 ≤ v43.toInt := kz_le c45
        refine lv_aload_n C.1 C.2.1 dX10_takeDigits_67 rfl (lv_at hl 1 rfl) ?_
        refine k_get C Wd KX10 0 3 rfl (by decide) fl_X10_28 rfl dX10_takeDigits_68 ?_
        exact J71 j18_F_h_3 _ _ _ ⟨Wd, lv_sub hl [0, 1] rfl⟩
      · have i45 : v43.toInt < 4 := kz_nle c45
        refine lv_aload_n C.1 C.2.1 dX10_takeDigits_48 rfl (lv_at hl 1 rfl) ?_
        refine k_get C Wd KX10 0 3 rfl (by decide) fl_X10_28 rfl dX10_takeDigits_49 ?_
        refine lv_bipush (v := 10) C.1 C.2.1 dX10_takeDigits_52 (by decide) ?_
        obtain ⟨v54, ev54⟩ : ∃ z : Int32, j18_F_h_3 * 10 = z := ⟨_, rfl⟩
        refine k_imul (v := v54) C ev54 dX10_takeDigits_54 ?_
        refine lv_aload_n C.1 C.2.1 dX10_takeDigits_55 rfl (lv_at hl 1 rfl) ?_
        refine lv_iload_n C.1 C.2.1 dX10_takeDigits_56 rfl (lv_at hl 0 rfl) ?_
        refine k_pi (k_runV (rest := [.int v54, .ref h]) C aks Wd cs_X10_31 (sX10_byteAt l D h j18_L_1 h_0 h_1 h_2 j18_F_h_3 h_4 j18_F_h_5 a_h_0 f_h_0 _ (by omega) (by omega)) [0, 1] rfl (by decide) [0] rfl 0 10 rfl rfl rfl rfl rfl ⟨(Nat.le_of_ble_eq_true rfl), (Nat.le_of_ble_eq_true rfl)⟩ hl.1 rfl rfl (Nat.le_of_ble_eq_true rfl) ⟨(Nat.le_of_ble_eq_true rfl), (Nat.le_of_ble_eq_true rfl)⟩ dX10_takeDigits_57) (fun r57 w57 => ?_)
        obtain ⟨v60, ev60⟩ : ∃ z : Int32, v54 + r57 = z := ⟨_, rfl⟩
        refine k_iadd (v := v60) C ev60 dX10_takeDigits_60 ?_
        refine lv_bipush (v := 48) C.1 C.2.1 dX10_takeDigits_61 (by decide) ?_
        obtain ⟨v63, ev63⟩ : ∃ z : Int32, v60 - 48 = z := ⟨_, rfl⟩
        refine k_isub (v := v63) C ev63 dX10_takeDigits_63 ?_
        refine lv_goto (tgt := 71) C.1 C.2.1 dX10_takeDigits_64 (by decide) ?_
        exact J71 v63 _ _ _ ⟨Wd, lv_sub hl [0, 1] rfl⟩
set_option maxHeartbeats 4000000 in
set_option maxRecDepth 100000 in
theorem sX1_begin (l : Launch) (D : va_G) (h : Nat) (x0 : Int32) (x1 : Int32) (h_0 : Value) (h_1 : Int32) (h_2 : Nat) (h_3 : Nat) (h_4 : Nat) (h_5 : Nat) (h_6 : Nat) (h_7 : Nat) (h_8 : Nat) (h_9 : Nat) (h_10 : Nat) (h_11 : Nat) (h_12 : Nat) (h_13 : Nat) (a_h_2 : ClassId) (f_h_2 : Nat → Int32) (a_h_3 : ClassId) (f_h_3 : Nat → Int32) (a_h_9 : ClassId) (f_h_9 : Nat → Int32) (a_h_4 : ClassId) (f_h_4 : Nat → Int32) (a_h_5 : ClassId) (f_h_5 : Nat → Int32) (a_h_8 : ClassId) (f_h_8 : Nat → Int32) (a_h_6 : ClassId) (f_h_6 : Nat → Int32) (a_h_7 : ClassId) (f_h_7 : Nat → Int32) (sz : Nat) (k_x0_lo : 0 ≤ x0.toInt) (k_x0_hi : x0.toInt ≤ 1000) (k_h_1_lo : 0 ≤ h_1.toInt) (k_h_1_hi : h_1.toInt ≤ 40) (q_f_h_4 : ∀ j : Nat, 0 ≤ (f_h_4 j).toInt ∧ (f_h_4 j).toInt ≤ 2000) (q_f_h_5 : ∀ j : Nat, 0 ≤ (f_h_5 j).toInt ∧ (f_h_5 j).toInt ≤ 2000) : Met l yX1_begin (Cond.code yX1_begin cX1_begin 3 none :: gG) { frames := 2, cells := 0, slots := 0, locals := 84 } (cPre D [(a_h_2, .int), (a_h_3, .int), (a_h_9, .int), (a_h_4, .int), (a_h_5, .int), (a_h_8, .int), (a_h_6, .int), (a_h_7, .int)] [(h, .inr (1, [h_0, .int h_1, .ref h_2, .ref h_3, .ref h_4, .ref h_5, .ref h_6, .ref h_7, .ref h_8, .ref h_9, .ref h_10, .ref h_11, .ref h_12, .ref h_13])), (h_2, .inl (a_h_2, 40, .inl f_h_2)), (h_3, .inl (a_h_3, 40, .inl f_h_3)), (h_9, .inl (a_h_9, 40, .inl f_h_9)), (h_4, .inl (a_h_4, 40, .inl f_h_4)), (h_5, .inl (a_h_5, 40, .inl f_h_5)), (h_8, .inl (a_h_8, 40, .inl f_h_8)), (h_6, .inl (a_h_6, 40, .inl f_h_6)), (h_7, .inl (a_h_7, 40, .inl f_h_7))] sz [.ref h, .int x0, .int x1]) (va_Qv (fun (u : (Int32) × (Nat → Int32) × (Nat → Int32) × (Nat → Int32) × (Nat → Int32) × (Nat → Int32) × (Nat → Int32) × (Nat → Int32) × (Nat → Int32)) => match u with | (jX_F_h_1, jX_C_h_2, jX_C_h_3, jX_C_h_9, jX_C_h_4, jX_C_h_5, jX_C_h_8, jX_C_h_6, jX_C_h_7) => 1 ≤ jX_F_h_1.toInt ∧ jX_F_h_1.toInt ≤ 40 ∧ h_1.toInt ≤ jX_F_h_1.toInt ∧ jX_F_h_1.toInt ≤ h_1.toInt + 1 ∧ (∀ j : Nat, 0 ≤ (jX_C_h_4 j).toInt ∧ (jX_C_h_4 j).toInt ≤ 2000) ∧ (∀ j : Nat, 0 ≤ (jX_C_h_5 j).toInt ∧ (jX_C_h_5 j).toInt ≤ 2000)) (fun u t => cB D (va_A [(h, .inr (1, [h_0, .int h_1, .ref h_2, .ref h_3, .ref h_4, .ref h_5, .ref h_6, .ref h_7, .ref h_8, .ref h_9, .ref h_10, .ref h_11, .ref h_12, .ref h_13])), (h_2, .inl (a_h_2, 40, .inl f_h_2)), (h_3, .inl (a_h_3, 40, .inl f_h_3)), (h_9, .inl (a_h_9, 40, .inl f_h_9)), (h_4, .inl (a_h_4, 40, .inl f_h_4)), (h_5, .inl (a_h_5, 40, .inl f_h_5)), (h_8, .inl (a_h_8, 40, .inl f_h_8)), (h_6, .inl (a_h_6, 40, .inl f_h_6)), (h_7, .inl (a_h_7, 40, .inl f_h_7))] sz) ((fun (_ : (Int32) × (Nat → Int32) × (Nat → Int32) × (Nat → Int32) × (Nat → Int32) × (Nat → Int32) × (Nat → Int32) × (Nat → Int32) × (Nat → Int32)) => ([] : List (ClassId × FieldType))) u) ((fun (u : (Int32) × (Nat → Int32) × (Nat → Int32) × (Nat → Int32) × (Nat → Int32) × (Nat → Int32) × (Nat → Int32) × (Nat → Int32) × (Nat → Int32)) => match u with | (jX_F_h_1, jX_C_h_2, jX_C_h_3, jX_C_h_9, jX_C_h_4, jX_C_h_5, jX_C_h_8, jX_C_h_6, jX_C_h_7) => ([(h, .inr (1, [h_0, .int jX_F_h_1, .ref h_2, .ref h_3, .ref h_4, .ref h_5, .ref h_6, .ref h_7, .ref h_8, .ref h_9, .ref h_10, .ref h_11, .ref h_12, .ref h_13])), (h_2, .inl (a_h_2, 40, .inl jX_C_h_2)), (h_3, .inl (a_h_3, 40, .inl jX_C_h_3)), (h_9, .inl (a_h_9, 40, .inl jX_C_h_9)), (h_4, .inl (a_h_4, 40, .inl jX_C_h_4)), (h_5, .inl (a_h_5, 40, .inl jX_C_h_5)), (h_8, .inl (a_h_8, 40, .inl jX_C_h_8)), (h_6, .inl (a_h_6, 40, .inl jX_C_h_6)), (h_7, .inl (a_h_7, 40, .inl jX_C_h_7))] : va_W)) u) t) (va_A [(h, .inr (1, [h_0, .int h_1, .ref h_2, .ref h_3, .ref h_4, .ref h_5, .ref h_6, .ref h_7, .ref h_8, .ref h_9, .ref h_10, .ref h_11, .ref h_12, .ref h_13])), (h_2, .inl (a_h_2, 40, .inl f_h_2)), (h_3, .inl (a_h_3, 40, .inl f_h_3)), (h_9, .inl (a_h_9, 40, .inl f_h_9)), (h_4, .inl (a_h_4, 40, .inl f_h_4)), (h_5, .inl (a_h_5, 40, .inl f_h_5)), (h_8, .inl (a_h_8, 40, .inl f_h_8)), (h_6, .inl (a_h_6, 40, .inl f_h_6)), (h_7, .inl (a_h_7, 40, .inl f_h_7))] sz)) 0 0 (va_A [(h, .inr (1, [h_0, .int h_1, .ref h_2, .ref h_3, .ref h_4, .ref h_5, .ref h_6, .ref h_7, .ref h_8, .ref h_9, .ref h_10, .ref h_11, .ref h_12, .ref h_13])), (h_2, .inl (a_h_2, 40, .inl f_h_2)), (h_3, .inl (a_h_3, 40, .inl f_h_3)), (h_9, .inl (a_h_9, 40, .inl f_h_9)), (h_4, .inl (a_h_4, 40, .inl f_h_4)), (h_5, .inl (a_h_5, 40, .inl f_h_5)), (h_8, .inl (a_h_8, 40, .inl f_h_8)), (h_6, .inl (a_h_6, 40, .inl f_h_6)), (h_7, .inl (a_h_7, 40, .inl f_h_7))] sz) := by
  refine Met.ofW (cc := cX1_begin) (maxL := 3) (ret := none) (by decide) rfl ?_
  intro p e s m args below meth c s₁ B hml hv
  obtain ⟨rfl, aks, rfl, Wd⟩ := k_enter hv
  have C : CallFix p m c cX1_begin 3 s _ gG RX1 := ⟨B.exec, B.bytes, hml, findClass_of_methodNamed B.named, fun w h => atoms_spec (ws := Cond.code yX1_begin cX1_begin 3 none :: gG) B.pre w (List.mem_cons_of_mem _ h)⟩
  have hr := B.returns
  have hlk := B.notSynchronized
  generalize va_A [(h, .inr (1, [h_0, .int h_1, .ref h_2, .ref h_3, .ref h_4, .ref h_5, .ref h_6, .ref h_7, .ref h_8, .ref h_9, .ref h_10, .ref h_11, .ref h_12, .ref h_13])), (h_2, .inl (a_h_2, 40, .inl f_h_2)), (h_3, .inl (a_h_3, 40, .inl f_h_3)), (h_9, .inl (a_h_9, 40, .inl f_h_9)), (h_4, .inl (a_h_4, 40, .inl f_h_4)), (h_5, .inl (a_h_5, 40, .inl f_h_5)), (h_8, .inl (a_h_8, 40, .inl f_h_8)), (h_6, .inl (a_h_6, 40, .inl f_h_6)), (h_7, .inl (a_h_7, 40, .inl f_h_7))] s.heap.size = A at Wd ⊢
  refine k_locals (Nat.le_of_ble_eq_true rfl) [(0, .ref h), (1, .int x0), (2, .int x1)] rfl (fun ls hl => ?_)
  refine lv_aload_n C.1 C.2.1 dX1_begin_0 rfl (lv_at hl 0 rfl) ?_
  refine k_get C Wd KX1 0 1 rfl (by decide) fl_X1_57 rfl dX1_begin_1 ?_
  refine lv_bipush (v := 40) C.1 C.2.1 dX1_begin_4 (by decide) ?_
  refine lv_icmp_lt (tgt := 10) C.1 C.2.1 dX1_begin_6 (by decide) (fun c6 => ?_) (fun c6 => ?_)
  · have i6 : h_1.toInt < 40 := kz_lt c6
    refine lv_aload_n C.1 C.2.1 dX1_begin_10 rfl (lv_at hl 0 rfl) ?_
    refine k_get C Wd KX1 0 2 rfl (by decide) fl_X1_20 rfl dX1_begin_11 ?_
    refine lv_aload_n C.1 C.2.1 dX1_begin_14 rfl (lv_at hl 0 rfl) ?_
    refine k_get C Wd KX1 0 1 rfl (by decide) fl_X1_57 rfl dX1_begin_15 ?_
    refine lv_iload_n C.1 C.2.1 dX1_begin_18 rfl (lv_at hl 1 rfl) ?_
    obtain ⟨f19, ef19⟩ : ∃ z : Nat → Int32, upd f_h_2 h_1.toNatClampNeg x0 = z := ⟨_, rfl⟩
    refine k_iast C Wd 1 0 [(h, .inr (1, [h_0, .int h_1, .ref h_2, .ref h_3, .ref h_4, .ref h_5, .ref h_6, .ref h_7, .ref h_8, .ref h_9, .ref h_10, .ref h_11, .ref h_12, .ref h_13])), (h_2, .inl (a_h_2, 40, .inl f19)), (h_3, .inl (a_h_3, 40, .inl f_h_3)), (h_9, .inl (a_h_9, 40, .inl f_h_9)), (h_4, .inl (a_h_4, 40, .inl f_h_4)), (h_5, .inl (a_h_5, 40, .inl f_h_5)), (h_8, .inl (a_h_8, 40, .inl f_h_8)), (h_6, .inl (a_h_6, 40, .inl f_h_6)), (h_7, .inl (a_h_7, 40, .inl f_h_7))] rfl rfl (vp_in_iff.mpr ⟨by omega, by omega⟩) ef19 rfl dX1_begin_19 (fun H locs Wd => ?_)
    refine lv_aload_n C.1 C.2.1 dX1_begin_20 rfl (lv_at hl 0 rfl) ?_
    refine k_get C Wd KX1 0 3 rfl (by decide) fl_X1_24 rfl dX1_begin_21 ?_
    refine lv_aload_n C.1 C.2.1 dX1_begin_24 rfl (lv_at hl 0 rfl) ?_
    refine k_get C Wd KX1 0 1 rfl (by decide) fl_X1_57 rfl dX1_begin_25 ?_
    refine lv_iload_n C.1 C.2.1 dX1_begin_28 rfl (lv_at hl 2 rfl) ?_
    obtain ⟨f29, ef29⟩ : ∃ z : Nat → Int32, upd f_h_3 h_1.toNatClampNeg x1 = z := ⟨_, rfl⟩
    refine k_iast C Wd 2 1 [(h, .inr (1, [h_0, .int h_1, .ref h_2, .ref h_3, .ref h_4, .ref h_5, .ref h_6, .ref h_7, .ref h_8, .ref h_9, .ref h_10, .ref h_11, .ref h_12, .ref h_13])), (h_2, .inl (a_h_2, 40, .inl f19)), (h_3, .inl (a_h_3, 40, .inl f29)), (h_9, .inl (a_h_9, 40, .inl f_h_9)), (h_4, .inl (a_h_4, 40, .inl f_h_4)), (h_5, .inl (a_h_5, 40, .inl f_h_5)), (h_8, .inl (a_h_8, 40, .inl f_h_8)), (h_6, .inl (a_h_6, 40, .inl f_h_6)), (h_7, .inl (a_h_7, 40, .inl f_h_7))] rfl rfl (vp_in_iff.mpr ⟨by omega, by omega⟩) ef29 rfl dX1_begin_29 (fun H locs Wd => ?_)
    refine lv_aload_n C.1 C.2.1 dX1_begin_30 rfl (lv_at hl 0 rfl) ?_
    refine k_get C Wd KX1 0 9 rfl (by decide) fl_X1_42 rfl dX1_begin_31 ?_
    refine lv_aload_n C.1 C.2.1 dX1_begin_34 rfl (lv_at hl 0 rfl) ?_
    refine k_get C Wd KX1 0 1 rfl (by decide) fl_X1_57 rfl dX1_begin_35 ?_
    refine lv_iload_n C.1 C.2.1 dX1_begin_38 rfl (lv_at hl 2 rfl) ?_
    refine k_cutA (fun (j55_S_0 : Int32) H locs ls => wX D [(a_h_2, .int), (a_h_3, .int), (a_h_9, .int), (a_h_4, .int), (a_h_5, .int), (a_h_8, .int), (a_h_6, .int), (a_h_7, .int)] s [(h, .inr (1, [h_0, .int h_1, .ref h_2, .ref h_3, .ref h_4, .ref h_5, .ref h_6, .ref h_7, .ref h_8, .ref h_9, .ref h_10, .ref h_11, .ref h_12, .ref h_13])), (h_2, .inl (a_h_2, 40, .inl f19)), (h_3, .inl (a_h_3, 40, .inl f29)), (h_9, .inl (a_h_9, 40, .inl f_h_9)), (h_4, .inl (a_h_4, 40, .inl f_h_4)), (h_5, .inl (a_h_5, 40, .inl f_h_5)), (h_8, .inl (a_h_8, 40, .inl f_h_8)), (h_6, .inl (a_h_6, 40, .inl f_h_6)), (h_7, .inl (a_h_7, 40, .inl f_h_7))] H A s.heap locs ∧ lv_has ls 3 [(0, .ref h), (1, .int x0), (2, .int x1)]) (fun (j55_S_0 : Int32) ls => F0 m 55 ls [.int j55_S_0, .int h_1, .ref h_9]) (fun j55_S_0 H locs ls hi => ?_) (fun J55 => ?_)
    · obtain ⟨Wd, hl⟩ := hi
      obtain ⟨f55, ef55⟩ : ∃ z : Nat → Int32, upd f_h_9 h_1.toNatClampNeg j55_S_0 = z := ⟨_, rfl⟩
      refine k_iast C Wd 3 2 [(h, .inr (1, [h_0, .int h_1, .ref h_2, .ref h_3, .ref h_4, .ref h_5, .ref h_6, .ref h_7, .ref h_8, .ref h_9, .ref h_10, .ref h_11, .ref h_12, .ref h_13])), (h_2, .inl (a_h_2, 40, .inl f19)), (h_3, .inl (a_h_3, 40, .inl f29)), (h_9, .inl (a_h_9, 40, .inl f55)), (h_4, .inl (a_h_4, 40, .inl f_h_4)), (h_5, .inl (a_h_5, 40, .inl f_h_5)), (h_8, .inl (a_h_8, 40, .inl f_h_8)), (h_6, .inl (a_h_6, 40, .inl f_h_6)), (h_7, .inl (a_h_7, 40, .inl f_h_7))] rfl rfl (vp_in_iff.mpr ⟨by omega, by omega⟩) ef55 rfl dX1_begin_55 (fun H locs Wd => ?_)
      refine lv_aload_n C.1 C.2.1 dX1_begin_56 rfl (lv_at hl 0 rfl) ?_
      refine k_get C Wd KX1 0 4 rfl (by decide) fl_X1_27 rfl dX1_begin_57 ?_
      refine lv_aload_n C.1 C.2.1 dX1_begin_60 rfl (lv_at hl 0 rfl) ?_
      refine k_get C Wd KX1 0 1 rfl (by decide) fl_X1_57 rfl dX1_begin_61 ?_
      refine lv_iload_n C.1 C.2.1 dX1_begin_64 rfl (lv_at hl 2 rfl) ?_
      refine k_pi (k_runS (rest := [.int h_1, .ref h_4]) C aks Wd cs_X1_87 (sX8_isBranch l D x1 _ ) [] rfl (by decide) [] rfl rfl rfl ⟨(Nat.le_of_ble_eq_true rfl), (Nat.le_of_ble_eq_true rfl)⟩ hl.1 rfl rfl (Nat.le_of_ble_eq_true rfl) ⟨(Nat.le_of_ble_eq_true rfl), (Nat.le_of_ble_eq_true rfl)⟩ dX1_begin_65) (fun r65 w65 => ?_)
      obtain ⟨g65_0, g65_1⟩ := w65
      have g65_0 : 0 ≤ r65.toInt := g65_0
      have g65_1 : r65.toInt ≤ 1 := g65_1
      refine k_cutA (fun (j80_S_0 : Int32) H locs ls => 1 ≤ j80_S_0.toInt ∧ j80_S_0.toInt ≤ 1002 ∧ r65.toInt + 1 ≤ j80_S_0.toInt ∧ x0.toInt + 1 ≤ j80_S_0.toInt ∧ j80_S_0.toInt ≤ x0.toInt + 2 ∧ j80_S_0.toInt ≤ r65.toInt + 1001 ∧ wX D [(a_h_2, .int), (a_h_3, .int), (a_h_9, .int), (a_h_4, .int), (a_h_5, .int), (a_h_8, .int), (a_h_6, .int), (a_h_7, .int)] s [(h, .inr (1, [h_0, .int h_1, .ref h_2, .ref h_3, .ref h_4, .ref h_5, .ref h_6, .ref h_7, .ref h_8, .ref h_9, .ref h_10, .ref h_11, .ref h_12, .ref h_13])), (h_2, .inl (a_h_2, 40, .inl f19)), (h_3, .inl (a_h_3, 40, .inl f29)), (h_9, .inl (a_h_9, 40, .inl f55)), (h_4, .inl (a_h_4, 40, .inl f_h_4)), (h_5, .inl (a_h_5, 40, .inl f_h_5)), (h_8, .inl (a_h_8, 40, .inl f_h_8)), (h_6, .inl (a_h_6, 40, .inl f_h_6)), (h_7, .inl (a_h_7, 40, .inl f_h_7))] H A s.heap locs ∧ lv_has ls 3 [(0, .ref h), (1, .int x0), (2, .int x1)]) (fun (j80_S_0 : Int32) ls => F0 m 80 ls [.int j80_S_0, .int h_1, .ref h_4]) (fun j80_S_0 H locs ls hi => ?_) (fun J80 => ?_)
      · obtain ⟨i80_0, i80_1, i80_2, i80_3, i80_4, i80_5, Wd, hl⟩ := hi
        obtain ⟨f80, ef80⟩ : ∃ z : Nat → Int32, upd f_h_4 h_1.toNatClampNeg j80_S_0 = z := ⟨_, rfl⟩
        have q_f80 : ∀ j : Nat, 0 ≤ (f80 j).toInt ∧ (f80 j).toInt ≤ 2000 := cr_upd q_f_h_4 ef80 (by omega) (by omega)
        refine k_iast C Wd 4 3 [(h, .inr (1, [h_0, .int h_1, .ref h_2, .ref h_3, .ref h_4, .ref h_5, .ref h_6, .ref h_7, .ref h_8, .ref h_9, .ref h_10, .ref h_11, .ref h_12, .ref h_13])), (h_2, .inl (a_h_2, 40, .inl f19)), (h_3, .inl (a_h_3, 40, .inl f29)), (h_9, .inl (a_h_9, 40, .inl f55)), (h_4, .inl (a_h_4, 40, .inl f80)), (h_5, .inl (a_h_5, 40, .inl f_h_5)), (h_8, .inl (a_h_8, 40, .inl f_h_8)), (h_6, .inl (a_h_6, 40, .inl f_h_6)), (h_7, .inl (a_h_7, 40, .inl f_h_7))] rfl rfl (vp_in_iff.mpr ⟨by omega, by omega⟩) ef80 rfl dX1_begin_80 (fun H locs Wd => ?_)
        refine lv_aload_n C.1 C.2.1 dX1_begin_81 rfl (lv_at hl 0 rfl) ?_
        refine k_get C Wd KX1 0 5 rfl (by decide) fl_X1_30 rfl dX1_begin_82 ?_
        refine lv_aload_n C.1 C.2.1 dX1_begin_85 rfl (lv_at hl 0 rfl) ?_
        refine k_get C Wd KX1 0 1 rfl (by decide) fl_X1_57 rfl dX1_begin_86 ?_
        refine lv_aload_n C.1 C.2.1 dX1_begin_89 rfl (lv_at hl 0 rfl) ?_
        refine k_get C Wd KX1 0 4 rfl (by decide) fl_X1_27 rfl dX1_begin_90 ?_
        refine lv_aload_n C.1 C.2.1 dX1_begin_93 rfl (lv_at hl 0 rfl) ?_
        refine k_get C Wd KX1 0 1 rfl (by decide) fl_X1_57 rfl dX1_begin_94 ?_
        obtain ⟨v97, ev97⟩ : ∃ z : Int32, f80 h_1.toNatClampNeg = z := ⟨_, rfl⟩
        refine k_iald (v := v97) C Wd 4 3 rfl rfl (vp_in_iff.mpr ⟨by omega, by omega⟩) ev97 dX1_begin_97 ?_
        have iv97 : 0 ≤ v97.toInt ∧ v97.toInt ≤ 2000 := by rw [← ev97]; exact q_f80 _
        obtain ⟨f98, ef98⟩ : ∃ z : Nat → Int32, upd f_h_5 h_1.toNatClampNeg v97 = z := ⟨_, rfl⟩
        have q_f98 : ∀ j : Nat, 0 ≤ (f98 j).toInt ∧ (f98 j).toInt ≤ 2000 := cr_upd q_f_h_5 ef98 (by omega) (by omega)
        refine k_iast C Wd 5 4 [(h, .inr (1, [h_0, .int h_1, .ref h_2, .ref h_3, .ref h_4, .ref h_5, .ref h_6, .ref h_7, .ref h_8, .ref h_9, .ref h_10, .ref h_11, .ref h_12, .ref h_13])), (h_2, .inl (a_h_2, 40, .inl f19)), (h_3, .inl (a_h_3, 40, .inl f29)), (h_9, .inl (a_h_9, 40, .inl f55)), (h_4, .inl (a_h_4, 40, .inl f80)), (h_5, .inl (a_h_5, 40, .inl f98)), (h_8, .inl (a_h_8, 40, .inl f_h_8)), (h_6, .inl (a_h_6, 40, .inl f_h_6)), (h_7, .inl (a_h_7, 40, .inl f_h_7))] rfl rfl (vp_in_iff.mpr ⟨by omega, by omega⟩) ef98 rfl dX1_begin_98 (fun H locs Wd => ?_)
        refine lv_aload_n C.1 C.2.1 dX1_begin_99 rfl (lv_at hl 0 rfl) ?_
        refine k_get C Wd KX1 0 8 rfl (by decide) fl_X1_39 rfl dX1_begin_100 ?_
        refine lv_aload_n C.1 C.2.1 dX1_begin_103 rfl (lv_at hl 0 rfl) ?_
        refine k_get C Wd KX1 0 1 rfl (by decide) fl_X1_57 rfl dX1_begin_104 ?_
        refine lv_iconst (v := 0) C.1 C.2.1 dX1_begin_107 (by decide) ?_
        obtain ⟨f108, ef108⟩ : ∃ z : Nat → Int32, upd f_h_8 h_1.toNatClampNeg 0 = z := ⟨_, rfl⟩
        refine k_iast C Wd 6 5 [(h, .inr (1, [h_0, .int h_1, .ref h_2, .ref h_3, .ref h_4, .ref h_5, .ref h_6, .ref h_7, .ref h_8, .ref h_9, .ref h_10, .ref h_11, .ref h_12, .ref h_13])), (h_2, .inl (a_h_2, 40, .inl f19)), (h_3, .inl (a_h_3, 40, .inl f29)), (h_9, .inl (a_h_9, 40, .inl f55)), (h_4, .inl (a_h_4, 40, .inl f80)), (h_5, .inl (a_h_5, 40, .inl f98)), (h_8, .inl (a_h_8, 40, .inl f108)), (h_6, .inl (a_h_6, 40, .inl f_h_6)), (h_7, .inl (a_h_7, 40, .inl f_h_7))] rfl rfl (vp_in_iff.mpr ⟨by omega, by omega⟩) ef108 rfl dX1_begin_108 (fun H locs Wd => ?_)
        refine lv_aload_n C.1 C.2.1 dX1_begin_109 rfl (lv_at hl 0 rfl) ?_
        refine k_get C Wd KX1 0 6 rfl (by decide) fl_X1_33 rfl dX1_begin_110 ?_
        refine lv_aload_n C.1 C.2.1 dX1_begin_113 rfl (lv_at hl 0 rfl) ?_
        refine k_get C Wd KX1 0 1 rfl (by decide) fl_X1_57 rfl dX1_begin_114 ?_
        refine lv_iconst (v := (-1)) C.1 C.2.1 dX1_begin_117 (by decide) ?_
        obtain ⟨f118, ef118⟩ : ∃ z : Nat → Int32, upd f_h_6 h_1.toNatClampNeg (-1) = z := ⟨_, rfl⟩
        refine k_iast C Wd 7 6 [(h, .inr (1, [h_0, .int h_1, .ref h_2, .ref h_3, .ref h_4, .ref h_5, .ref h_6, .ref h_7, .ref h_8, .ref h_9, .ref h_10, .ref h_11, .ref h_12, .ref h_13])), (h_2, .inl (a_h_2, 40, .inl f19)), (h_3, .inl (a_h_3, 40, .inl f29)), (h_9, .inl (a_h_9, 40, .inl f55)), (h_4, .inl (a_h_4, 40, .inl f80)), (h_5, .inl (a_h_5, 40, .inl f98)), (h_8, .inl (a_h_8, 40, .inl f108)), (h_6, .inl (a_h_6, 40, .inl f118)), (h_7, .inl (a_h_7, 40, .inl f_h_7))] rfl rfl (vp_in_iff.mpr ⟨by omega, by omega⟩) ef118 rfl dX1_begin_118 (fun H locs Wd => ?_)
        refine lv_aload_n C.1 C.2.1 dX1_begin_119 rfl (lv_at hl 0 rfl) ?_
        refine k_get C Wd KX1 0 7 rfl (by decide) fl_X1_36 rfl dX1_begin_120 ?_
        refine lv_aload_n C.1 C.2.1 dX1_begin_123 rfl (lv_at hl 0 rfl) ?_
        refine k_get C Wd KX1 0 1 rfl (by decide) fl_X1_57 rfl dX1_begin_124 ?_
        refine lv_iconst (v := (-1)) C.1 C.2.1 dX1_begin_127 (by decide) ?_
        obtain ⟨f128, ef128⟩ : ∃ z : Nat → Int32, upd f_h_7 h_1.toNatClampNeg (-1) = z := ⟨_, rfl⟩
        refine k_iast C Wd 8 7 [(h, .inr (1, [h_0, .int h_1, .ref h_2, .ref h_3, .ref h_4, .ref h_5, .ref h_6, .ref h_7, .ref h_8, .ref h_9, .ref h_10, .ref h_11, .ref h_12, .ref h_13])), (h_2, .inl (a_h_2, 40, .inl f19)), (h_3, .inl (a_h_3, 40, .inl f29)), (h_9, .inl (a_h_9, 40, .inl f55)), (h_4, .inl (a_h_4, 40, .inl f80)), (h_5, .inl (a_h_5, 40, .inl f98)), (h_8, .inl (a_h_8, 40, .inl f108)), (h_6, .inl (a_h_6, 40, .inl f118)), (h_7, .inl (a_h_7, 40, .inl f128))] rfl rfl (vp_in_iff.mpr ⟨by omega, by omega⟩) ef128 rfl dX1_begin_128 (fun H locs Wd => ?_)
        refine lv_aload_n C.1 C.2.1 dX1_begin_129 rfl (lv_at hl 0 rfl) ?_
        refine lv_dup C.1 C.2.1 dX1_begin_130 rfl ?_
        refine k_get C Wd KX1 0 1 rfl (by decide) fl_X1_57 rfl dX1_begin_131 ?_
        refine lv_iconst (v := 1) C.1 C.2.1 dX1_begin_134 (by decide) ?_
        obtain ⟨v135, ev135⟩ : ∃ z : Int32, h_1 + 1 = z := ⟨_, rfl⟩
        have iv135 : v135.toInt = h_1.toInt + 1 := kz_addc ev135 (by decide) (by have zr0 := kz_rng h_1; omega) (by have zr0 := kz_rng h_1; omega)
        refine k_iadd (v := v135) C ev135 dX1_begin_135 ?_
        refine k_put C Wd KX1 0 1 [(h, .inr (1, [h_0, .int v135, .ref h_2, .ref h_3, .ref h_4, .ref h_5, .ref h_6, .ref h_7, .ref h_8, .ref h_9, .ref h_10, .ref h_11, .ref h_12, .ref h_13])), (h_2, .inl (a_h_2, 40, .inl f19)), (h_3, .inl (a_h_3, 40, .inl f29)), (h_9, .inl (a_h_9, 40, .inl f55)), (h_4, .inl (a_h_4, 40, .inl f80)), (h_5, .inl (a_h_5, 40, .inl f98)), (h_8, .inl (a_h_8, 40, .inl f108)), (h_6, .inl (a_h_6, 40, .inl f118)), (h_7, .inl (a_h_7, 40, .inl f128))] rfl (by decide) fl_X1_57 rfl rfl rfl (Nat.le_of_ble_eq_true rfl) rfl dX1_begin_136 (fun H locs Wd => ?_)
        exact k_vret C hr hlk Wd (v135, f19, f29, f55, f80, f98, f108, f118, f128) (by exact ⟨by omega, by omega, by omega, by omega, q_f80, q_f98⟩) [0, 1, 2, 3, 4, 5, 6, 7, 8] rfl (by decide) [] rfl (by decide) (by decide) dX1_begin_139
      refine lv_if_eq (tgt := 77) C.1 C.2.1 dX1_begin_68 (by decide) (fun c68 => ?_) (fun c68 => ?_)
      · have i68 : r65.toInt = 0 := kz_eq c68
        refine lv_iload_n C.1 C.2.1 dX1_begin_77 rfl (lv_at hl 1 rfl) ?_
        refine lv_iconst (v := 1) C.1 C.2.1 dX1_begin_78 (by decide) ?_
        obtain ⟨v79, ev79⟩ : ∃ z : Int32, x0 + 1 = z := ⟨_, rfl⟩
        have iv79 : v79.toInt = x0.toInt + 1 := kz_addc ev79 (by decide) (by have zr0 := kz_rng x0; omega) (by have zr0 := kz_rng x0; omega)
        refine k_iadd (v := v79) C ev79 dX1_begin_79 ?_
        exact J80 v79 _ _ _ ⟨by omega, by omega, by omega, by omega, by omega, by omega, Wd, lv_sub hl [0, 1, 2] rfl⟩
      · have i68 : ¬ r65.toInt = 0 := kz_ne c68
        refine lv_iload_n C.1 C.2.1 dX1_begin_71 rfl (lv_at hl 1 rfl) ?_
        refine lv_iconst (v := 2) C.1 C.2.1 dX1_begin_72 (by decide) ?_
        obtain ⟨v73, ev73⟩ : ∃ z : Int32, x0 + 2 = z := ⟨_, rfl⟩
        have iv73 : v73.toInt = x0.toInt + 2 := kz_addc ev73 (by decide) (by have zr0 := kz_rng x0; omega) (by have zr0 := kz_rng x0; omega)
        refine k_iadd (v := v73) C ev73 dX1_begin_73 ?_
        refine lv_goto (tgt := 80) C.1 C.2.1 dX1_begin_74 (by decide) ?_
        exact J80 v73 _ _ _ ⟨by omega, by omega, by omega, by omega, by omega, by omega, Wd, lv_sub hl [0, 1, 2] rfl⟩
    refine k_pi (k_runS (rest := [.int h_1, .ref h_9]) C aks Wd cs_X1_100 (sX8_isSet l D x1 _ ) [] rfl (by decide) [] rfl rfl rfl ⟨(Nat.le_of_ble_eq_true rfl), (Nat.le_of_ble_eq_true rfl)⟩ hl.1 rfl rfl (Nat.le_of_ble_eq_true rfl) ⟨(Nat.le_of_ble_eq_true rfl), (Nat.le_of_ble_eq_true rfl)⟩ dX1_begin_39) (fun r39 w39 => ?_)
    rcases w39 with rfl | ⟨g39_1_0, g39_1_1, rfl⟩
    · refine lv_if_eq (tgt := 54) C.1 C.2.1 dX1_begin_42 (by decide) (fun _ => ?_) (fun c42 => absurd c42 (by decide))
      refine lv_iconst (v := 0) C.1 C.2.1 dX1_begin_54 (by decide) ?_
      exact J55 0 _ _ _ ⟨Wd, lv_sub hl [0, 1, 2] rfl⟩
    · have g39_1_0 : 100 ≤ x1.toInt := g39_1_0
      have g39_1_1 : x1.toInt ≤ 105 := g39_1_1
      refine lv_if_eq (tgt := 54) C.1 C.2.1 dX1_begin_42 (by decide) (fun c42 => absurd c42 (by decide)) (fun _ => ?_)
      refine lv_iconst (v := 1) C.1 C.2.1 dX1_begin_45 (by decide) ?_
      refine lv_iload_n C.1 C.2.1 dX1_begin_46 rfl (lv_at hl 2 rfl) ?_
      refine lv_bipush (v := 100) C.1 C.2.1 dX1_begin_47 (by decide) ?_
      obtain ⟨v49, ev49⟩ : ∃ z : Int32, x1 - 100 = z := ⟨_, rfl⟩
      have iv49 : v49.toInt = x1.toInt - 100 := kz_subc ev49 (by decide) (by have zr0 := kz_rng x1; omega) (by have zr0 := kz_rng x1; omega)
      refine k_isub (v := v49) C ev49 dX1_begin_49 ?_
      obtain ⟨v50, ev50⟩ : ∃ z : Int32, 1 <<< (v49 &&& 31) = z := ⟨_, rfl⟩
      refine k_ishl (v := v50) C ev50 dX1_begin_50 ?_
      refine lv_goto (tgt := 55) C.1 C.2.1 dX1_begin_51 (by decide) ?_
      exact J55 v50 _ _ _ ⟨Wd, lv_sub hl [0, 1, 2] rfl⟩
  · have i6 : 40 ≤ h_1.toInt := kz_nlt c6
    exact k_vret C hr hlk Wd (h_1, f_h_2, f_h_3, f_h_9, f_h_4, f_h_5, f_h_8, f_h_6, f_h_7) (by exact ⟨by omega, by omega, by omega, by omega, q_f_h_4, q_f_h_5⟩) [0, 1, 2, 3, 4, 5, 6, 7, 8] rfl (by decide) [] rfl (by decide) (by decide) dX1_begin_9
set_option maxHeartbeats 4000000 in
set_option maxRecDepth 100000 in
theorem sX1_isHere (l : Launch) (D : va_G) (h : Nat) (x0 : Int32) (h_0 : Value) (h_1 : Int32) (h_2 : Nat) (h_3 : Nat) (h_4 : Nat) (h_5 : Nat) (h_6 : Nat) (h_7 : Nat) (h_8 : Nat) (h_9 : Nat) (h_10 : Nat) (h_11 : Nat) (h_12 : Nat) (h_13 : Nat) (sz : Nat) (k_h_1_lo : 0 ≤ h_1.toInt) (k_h_1_hi : h_1.toInt ≤ 40)  : Met l yX1_isHere (Cond.code yX1_isHere cX1_isHere 2 (some .boolean) :: gG) { frames := 1, cells := 0, slots := 0, locals := 64 } (cPre D [] [(h, .inr (1, [h_0, .int h_1, .ref h_2, .ref h_3, .ref h_4, .ref h_5, .ref h_6, .ref h_7, .ref h_8, .ref h_9, .ref h_10, .ref h_11, .ref h_12, .ref h_13]))] sz [.ref h, .int x0]) (vp_Si (fun r => (r = 0) ∨ (0 ≤ x0.toInt ∧ 1 ≤ h_1.toInt ∧ x0.toInt ≤ 39 ∧ x0.toInt + 1 ≤ h_1.toInt ∧ r = 1))) 0 0 (fun _ => False) := by
  refine Met.ofW (cc := cX1_isHere) (maxL := 2) (ret := (some .boolean)) (by decide) rfl ?_
  intro p e s m args below meth c s₁ B hml hv
  obtain ⟨rfl, aks, rfl, Wd⟩ := k_enter hv
  have C : CallFix p m c cX1_isHere 2 s _ gG RX1 := ⟨B.exec, B.bytes, hml, findClass_of_methodNamed B.named, fun w h => atoms_spec (ws := Cond.code yX1_isHere cX1_isHere 2 (some .boolean) :: gG) B.pre w (List.mem_cons_of_mem _ h)⟩
  have hr := B.returns
  have hlk := B.notSynchronized
  obtain ⟨A, Wd⟩ : ∃ A, wX D [] s [(h, .inr (1, [h_0, .int h_1, .ref h_2, .ref h_3, .ref h_4, .ref h_5, .ref h_6, .ref h_7, .ref h_8, .ref h_9, .ref h_10, .ref h_11, .ref h_12, .ref h_13]))] s.heap A s.heap [] := ⟨_, Wd⟩
  refine k_locals (Nat.le_of_ble_eq_true rfl) [(0, .ref h), (1, .int x0)] rfl (fun ls hl => ?_)
  refine lv_iload_n C.1 C.2.1 dX1_isHere_0 rfl (lv_at hl 1 rfl) ?_
  refine lv_if_lt (tgt := 22) C.1 C.2.1 dX1_isHere_1 (by decide) (fun c1 => ?_) (fun c1 => ?_)
  · have i1 : x0.toInt < 0 := kz_lt c1
    refine lv_iconst (v := 0) C.1 C.2.1 dX1_isHere_22 (by decide) ?_
    exact k_zretP C hr hlk rfl (by exact Or.inl rfl) dX1_isHere_23
  · have i1 : 0 ≤ x0.toInt := kz_nlt c1
    refine lv_iload_n C.1 C.2.1 dX1_isHere_4 rfl (lv_at hl 1 rfl) ?_
    refine lv_aload_n C.1 C.2.1 dX1_isHere_5 rfl (lv_at hl 0 rfl) ?_
    refine k_get C Wd KX1 0 1 rfl (by decide) fl_X1_57 rfl dX1_isHere_6 ?_
    refine lv_icmp_ge (tgt := 22) C.1 C.2.1 dX1_isHere_9 (by decide) (fun c9 => ?_) (fun c9 => ?_)
    · have i9 : h_1.toInt ≤ x0.toInt := kz_le c9
      refine lv_iconst (v := 0) C.1 C.2.1 dX1_isHere_22 (by decide) ?_
      exact k_zretP C hr hlk rfl (by exact Or.inl rfl) dX1_isHere_23
    · have i9 : x0.toInt < h_1.toInt := kz_nle c9
      refine lv_iload_n C.1 C.2.1 dX1_isHere_12 rfl (lv_at hl 1 rfl) ?_
      refine lv_bipush (v := 40) C.1 C.2.1 dX1_isHere_13 (by decide) ?_
      refine lv_icmp_ge (tgt := 22) C.1 C.2.1 dX1_isHere_15 (by decide) (fun c15 => False.elim (by have i15 : 40 ≤ x0.toInt := kz_le c15; omega)) (fun _ => ?_)
      refine lv_iconst (v := 1) C.1 C.2.1 dX1_isHere_18 (by decide) ?_
      refine lv_goto (tgt := 23) C.1 C.2.1 dX1_isHere_19 (by decide) ?_
      exact k_zretP C hr hlk rfl (by exact Or.inr (⟨by omega, by omega, by omega, by omega, rfl⟩)) dX1_isHere_23
set_option maxHeartbeats 4000000 in
set_option maxRecDepth 100000 in
theorem sX1_number (l : Launch) (D : va_G) (h : Nat) (h_0 : Nat) (h_1 : Int32) (h_2 : Nat) (h_3 : Nat) (h_4 : Nat) (h_5 : Nat) (h_6 : Nat) (h_7 : Nat) (h_8 : Nat) (h_9 : Nat) (h_10 : Nat) (h_11 : Nat) (h_12 : Nat) (h_13 : Nat) (h_0_0 : Nat) (h_0_1 : Int32) (n_h_0_0 : Nat) (a_h_0_0 : ClassId) (f_h_0_0 : Nat → Int32) (a_h_13 : ClassId) (f_h_13 : Nat → Int32) (a_h_12 : ClassId) (f_h_12 : Nat → Int32) (a_h_2 : ClassId) (f_h_2 : Nat → Int32) (a_h_3 : ClassId) (f_h_3 : Nat → Int32) (a_h_9 : ClassId) (f_h_9 : Nat → Int32) (a_h_4 : ClassId) (f_h_4 : Nat → Int32) (a_h_5 : ClassId) (f_h_5 : Nat → Int32) (a_h_8 : ClassId) (f_h_8 : Nat → Int32) (a_h_6 : ClassId) (f_h_6 : Nat → Int32) (a_h_7 : ClassId) (f_h_7 : Nat → Int32) (sz : Nat) (k_h_1_lo : 0 ≤ h_1.toInt) (k_h_1_hi : h_1.toInt ≤ 40) (k_h_0_1_lo : 0 ≤ h_0_1.toInt) (k_n_h_0_0 : n_h_0_0 ≤ 1000) (k_p_h_0_0 : 1 ≤ n_h_0_0) (k_h_0_1_hi : h_0_1.toInt ≤ (n_h_0_0 : Int)) (q_f_h_4 : ∀ j : Nat, 0 ≤ (f_h_4 j).toInt ∧ (f_h_4 j).toInt ≤ 2000) (q_f_h_5 : ∀ j : Nat, 0 ≤ (f_h_5 j).toInt ∧ (f_h_5 j).toInt ≤ 2000) : Met l yX1_number (Cond.code yX1_number cX1_number 4 none :: gG) { frames := 3, cells := 0, slots := 0, locals := 106 } (cPre D [(a_h_0_0, .int), (a_h_13, .int), (a_h_12, .int), (a_h_2, .int), (a_h_3, .int), (a_h_9, .int), (a_h_4, .int), (a_h_5, .int), (a_h_8, .int), (a_h_6, .int), (a_h_7, .int)] [(h, .inr (1, [.ref h_0, .int h_1, .ref h_2, .ref h_3, .ref h_4, .ref h_5, .ref h_6, .ref h_7, .ref h_8, .ref h_9, .ref h_10, .ref h_11, .ref h_12, .ref h_13])), (h_0, .inr (8, [.ref h_0_0, .int h_0_1])), (h_0_0, .inl (a_h_0_0, n_h_0_0, .inl f_h_0_0)), (h_13, .inl (a_h_13, 480, .inl f_h_13)), (h_12, .inl (a_h_12, 40, .inl f_h_12)), (h_2, .inl (a_h_2, 40, .inl f_h_2)), (h_3, .inl (a_h_3, 40, .inl f_h_3)), (h_9, .inl (a_h_9, 40, .inl f_h_9)), (h_4, .inl (a_h_4, 40, .inl f_h_4)), (h_5, .inl (a_h_5, 40, .inl f_h_5)), (h_8, .inl (a_h_8, 40, .inl f_h_8)), (h_6, .inl (a_h_6, 40, .inl f_h_6)), (h_7, .inl (a_h_7, 40, .inl f_h_7))] sz [.ref h]) (va_Qv (fun (u : (Int32) × (Nat → Int32) × (Nat → Int32) × (Nat → Int32) × (Nat → Int32) × (Nat → Int32) × (Nat → Int32) × (Nat → Int32) × (Nat → Int32) × (Nat → Int32) × (Nat → Int32)) => match u with | (jX_F_h_1, jX_C_h_13, jX_C_h_12, jX_C_h_2, jX_C_h_3, jX_C_h_9, jX_C_h_4, jX_C_h_5, jX_C_h_8, jX_C_h_6, jX_C_h_7) => 0 ≤ jX_F_h_1.toInt ∧ jX_F_h_1.toInt ≤ 40 ∧ jX_F_h_1.toInt ≤ (n_h_0_0 : Int) ∧ jX_F_h_1.toInt ≤ h_0_1.toInt ∧ (∀ j : Nat, 0 ≤ (jX_C_h_4 j).toInt ∧ (jX_C_h_4 j).toInt ≤ 2000) ∧ (∀ j : Nat, 0 ≤ (jX_C_h_5 j).toInt ∧ (jX_C_h_5 j).toInt ≤ 2000)) (fun u t => cB D (va_A [(h, .inr (1, [.ref h_0, .int h_1, .ref h_2, .ref h_3, .ref h_4, .ref h_5, .ref h_6, .ref h_7, .ref h_8, .ref h_9, .ref h_10, .ref h_11, .ref h_12, .ref h_13])), (h_0, .inr (8, [.ref h_0_0, .int h_0_1])), (h_0_0, .inl (a_h_0_0, n_h_0_0, .inl f_h_0_0)), (h_13, .inl (a_h_13, 480, .inl f_h_13)), (h_12, .inl (a_h_12, 40, .inl f_h_12)), (h_2, .inl (a_h_2, 40, .inl f_h_2)), (h_3, .inl (a_h_3, 40, .inl f_h_3)), (h_9, .inl (a_h_9, 40, .inl f_h_9)), (h_4, .inl (a_h_4, 40, .inl f_h_4)), (h_5, .inl (a_h_5, 40, .inl f_h_5)), (h_8, .inl (a_h_8, 40, .inl f_h_8)), (h_6, .inl (a_h_6, 40, .inl f_h_6)), (h_7, .inl (a_h_7, 40, .inl f_h_7))] sz) ((fun (_ : (Int32) × (Nat → Int32) × (Nat → Int32) × (Nat → Int32) × (Nat → Int32) × (Nat → Int32) × (Nat → Int32) × (Nat → Int32) × (Nat → Int32) × (Nat → Int32) × (Nat → Int32)) => ([] : List (ClassId × FieldType))) u) ((fun (u : (Int32) × (Nat → Int32) × (Nat → Int32) × (Nat → Int32) × (Nat → Int32) × (Nat → Int32) × (Nat → Int32) × (Nat → Int32) × (Nat → Int32) × (Nat → Int32) × (Nat → Int32)) => match u with | (jX_F_h_1, jX_C_h_13, jX_C_h_12, jX_C_h_2, jX_C_h_3, jX_C_h_9, jX_C_h_4, jX_C_h_5, jX_C_h_8, jX_C_h_6, jX_C_h_7) => ([(h, .inr (1, [.ref h_0, .int jX_F_h_1, .ref h_2, .ref h_3, .ref h_4, .ref h_5, .ref h_6, .ref h_7, .ref h_8, .ref h_9, .ref h_10, .ref h_11, .ref h_12, .ref h_13])), (h_0, .inr (8, [.ref h_0_0, .int h_0_1])), (h_0_0, .inl (a_h_0_0, n_h_0_0, .inl f_h_0_0)), (h_13, .inl (a_h_13, 480, .inl jX_C_h_13)), (h_12, .inl (a_h_12, 40, .inl jX_C_h_12)), (h_2, .inl (a_h_2, 40, .inl jX_C_h_2)), (h_3, .inl (a_h_3, 40, .inl jX_C_h_3)), (h_9, .inl (a_h_9, 40, .inl jX_C_h_9)), (h_4, .inl (a_h_4, 40, .inl jX_C_h_4)), (h_5, .inl (a_h_5, 40, .inl jX_C_h_5)), (h_8, .inl (a_h_8, 40, .inl jX_C_h_8)), (h_6, .inl (a_h_6, 40, .inl jX_C_h_6)), (h_7, .inl (a_h_7, 40, .inl jX_C_h_7))] : va_W)) u) t) (va_A [(h, .inr (1, [.ref h_0, .int h_1, .ref h_2, .ref h_3, .ref h_4, .ref h_5, .ref h_6, .ref h_7, .ref h_8, .ref h_9, .ref h_10, .ref h_11, .ref h_12, .ref h_13])), (h_0, .inr (8, [.ref h_0_0, .int h_0_1])), (h_0_0, .inl (a_h_0_0, n_h_0_0, .inl f_h_0_0)), (h_13, .inl (a_h_13, 480, .inl f_h_13)), (h_12, .inl (a_h_12, 40, .inl f_h_12)), (h_2, .inl (a_h_2, 40, .inl f_h_2)), (h_3, .inl (a_h_3, 40, .inl f_h_3)), (h_9, .inl (a_h_9, 40, .inl f_h_9)), (h_4, .inl (a_h_4, 40, .inl f_h_4)), (h_5, .inl (a_h_5, 40, .inl f_h_5)), (h_8, .inl (a_h_8, 40, .inl f_h_8)), (h_6, .inl (a_h_6, 40, .inl f_h_6)), (h_7, .inl (a_h_7, 40, .inl f_h_7))] sz)) 0 0 (va_A [(h, .inr (1, [.ref h_0, .int h_1, .ref h_2, .ref h_3, .ref h_4, .ref h_5, .ref h_6, .ref h_7, .ref h_8, .ref h_9, .ref h_10, .ref h_11, .ref h_12, .ref h_13])), (h_0, .inr (8, [.ref h_0_0, .int h_0_1])), (h_0_0, .inl (a_h_0_0, n_h_0_0, .inl f_h_0_0)), (h_13, .inl (a_h_13, 480, .inl f_h_13)), (h_12, .inl (a_h_12, 40, .inl f_h_12)), (h_2, .inl (a_h_2, 40, .inl f_h_2)), (h_3, .inl (a_h_3, 40, .inl f_h_3)), (h_9, .inl (a_h_9, 40, .inl f_h_9)), (h_4, .inl (a_h_4, 40, .inl f_h_4)), (h_5, .inl (a_h_5, 40, .inl f_h_5)), (h_8, .inl (a_h_8, 40, .inl f_h_8)), (h_6, .inl (a_h_6, 40, .inl f_h_6)), (h_7, .inl (a_h_7, 40, .inl f_h_7))] sz) := by
  refine Met.ofW (cc := cX1_number) (maxL := 4) (ret := none) (by decide) rfl ?_
  intro p e s m args below meth c s₁ B hml hv
  obtain ⟨rfl, aks, rfl, Wd⟩ := k_enter hv
  have C : CallFix p m c cX1_number 4 s _ gG RX1 := ⟨B.exec, B.bytes, hml, findClass_of_methodNamed B.named, fun w h => atoms_spec (ws := Cond.code yX1_number cX1_number 4 none :: gG) B.pre w (List.mem_cons_of_mem _ h)⟩
  have hr := B.returns
  have hlk := B.notSynchronized
  generalize va_A [(h, .inr (1, [.ref h_0, .int h_1, .ref h_2, .ref h_3, .ref h_4, .ref h_5, .ref h_6, .ref h_7, .ref h_8, .ref h_9, .ref h_10, .ref h_11, .ref h_12, .ref h_13])), (h_0, .inr (8, [.ref h_0_0, .int h_0_1])), (h_0_0, .inl (a_h_0_0, n_h_0_0, .inl f_h_0_0)), (h_13, .inl (a_h_13, 480, .inl f_h_13)), (h_12, .inl (a_h_12, 40, .inl f_h_12)), (h_2, .inl (a_h_2, 40, .inl f_h_2)), (h_3, .inl (a_h_3, 40, .inl f_h_3)), (h_9, .inl (a_h_9, 40, .inl f_h_9)), (h_4, .inl (a_h_4, 40, .inl f_h_4)), (h_5, .inl (a_h_5, 40, .inl f_h_5)), (h_8, .inl (a_h_8, 40, .inl f_h_8)), (h_6, .inl (a_h_6, 40, .inl f_h_6)), (h_7, .inl (a_h_7, 40, .inl f_h_7))] s.heap.size = A at Wd ⊢
  refine k_locals (Nat.le_of_ble_eq_true rfl) [(0, .ref h)] rfl (fun ls hl => ?_)
  refine lv_iconst (v := 0) C.1 C.2.1 dX1_number_0 (by decide) ?_
  refine lv_istore_n (lv' := [(1, .int 0), (0, .ref h)]) C.1 C.2.1 dX1_number_1 rfl hl (by decide) rfl (fun ls hl => ?_)
  refine lv_aload_n C.1 C.2.1 dX1_number_2 rfl (lv_at hl 1 rfl) ?_
  refine lv_iconst (v := 0) C.1 C.2.1 dX1_number_3 (by decide) ?_
  refine k_put C Wd KX1 0 1 [(h, .inr (1, [.ref h_0, .int 0, .ref h_2, .ref h_3, .ref h_4, .ref h_5, .ref h_6, .ref h_7, .ref h_8, .ref h_9, .ref h_10, .ref h_11, .ref h_12, .ref h_13])), (h_0, .inr (8, [.ref h_0_0, .int h_0_1])), (h_0_0, .inl (a_h_0_0, n_h_0_0, .inl f_h_0_0)), (h_13, .inl (a_h_13, 480, .inl f_h_13)), (h_12, .inl (a_h_12, 40, .inl f_h_12)), (h_2, .inl (a_h_2, 40, .inl f_h_2)), (h_3, .inl (a_h_3, 40, .inl f_h_3)), (h_9, .inl (a_h_9, 40, .inl f_h_9)), (h_4, .inl (a_h_4, 40, .inl f_h_4)), (h_5, .inl (a_h_5, 40, .inl f_h_5)), (h_8, .inl (a_h_8, 40, .inl f_h_8)), (h_6, .inl (a_h_6, 40, .inl f_h_6)), (h_7, .inl (a_h_7, 40, .inl f_h_7))] rfl (by decide) fl_X1_57 rfl rfl rfl (Nat.le_of_ble_eq_true rfl) rfl dX1_number_4 (fun H locs Wd => ?_)
  refine lv_iconst (v := 0) C.1 C.2.1 dX1_number_7 (by decide) ?_
  refine lv_istore_n (lv' := [(2, .int 0), (1, .int 0), (0, .ref h)]) C.1 C.2.1 dX1_number_8 rfl hl (by decide) rfl (fun ls hl => ?_)
  refine k_loopA (fun (u : (Nat → Int32) × (Nat → Int32) × (Nat → Int32) × (Nat → Int32) × (Nat → Int32) × (Nat → Int32) × (Nat → Int32) × (Nat → Int32) × (Nat → Int32) × (Nat → Int32) × (Int32) × (Int32) × (Int32)) H locs ls => match u with | (j9_C_h_12, j9_C_h_13, j9_C_h_2, j9_C_h_3, j9_C_h_4, j9_C_h_5, j9_C_h_6, j9_C_h_7, j9_C_h_8, j9_C_h_9, j9_F_h_1, j9_L_1, j9_L_2) => 0 ≤ j9_F_h_1.toInt ∧ 0 ≤ j9_L_1.toInt ∧ 0 ≤ j9_L_2.toInt ∧ j9_F_h_1.toInt ≤ 40 ∧ j9_L_1.toInt ≤ 40 ∧ j9_L_2.toInt ≤ 480 ∧ j9_F_h_1.toInt ≤ (n_h_0_0 : Int) ∧ j9_F_h_1.toInt ≤ h_0_1.toInt ∧ j9_F_h_1.toInt ≤ j9_L_2.toInt ∧ j9_L_1.toInt ≤ (n_h_0_0 : Int) ∧ j9_L_1.toInt ≤ h_0_1.toInt ∧ j9_L_1.toInt ≤ j9_L_2.toInt ∧ j9_L_2.toInt ≤ (n_h_0_0 : Int) ∧ j9_L_2.toInt ≤ h_0_1.toInt ∧ (∀ j : Nat, 0 ≤ (j9_C_h_4 j).toInt ∧ (j9_C_h_4 j).toInt ≤ 2000) ∧ (∀ j : Nat, 0 ≤ (j9_C_h_5 j).toInt ∧ (j9_C_h_5 j).toInt ≤ 2000) ∧ wX D [(a_h_0_0, .int), (a_h_13, .int), (a_h_12, .int), (a_h_2, .int), (a_h_3, .int), (a_h_9, .int), (a_h_4, .int), (a_h_5, .int), (a_h_8, .int), (a_h_6, .int), (a_h_7, .int)] s [(h, .inr (1, [.ref h_0, .int j9_F_h_1, .ref h_2, .ref h_3, .ref h_4, .ref h_5, .ref h_6, .ref h_7, .ref h_8, .ref h_9, .ref h_10, .ref h_11, .ref h_12, .ref h_13])), (h_0, .inr (8, [.ref h_0_0, .int h_0_1])), (h_0_0, .inl (a_h_0_0, n_h_0_0, .inl f_h_0_0)), (h_13, .inl (a_h_13, 480, .inl j9_C_h_13)), (h_12, .inl (a_h_12, 40, .inl j9_C_h_12)), (h_2, .inl (a_h_2, 40, .inl j9_C_h_2)), (h_3, .inl (a_h_3, 40, .inl j9_C_h_3)), (h_9, .inl (a_h_9, 40, .inl j9_C_h_9)), (h_4, .inl (a_h_4, 40, .inl j9_C_h_4)), (h_5, .inl (a_h_5, 40, .inl j9_C_h_5)), (h_8, .inl (a_h_8, 40, .inl j9_C_h_8)), (h_6, .inl (a_h_6, 40, .inl j9_C_h_6)), (h_7, .inl (a_h_7, 40, .inl j9_C_h_7))] H A s.heap locs ∧ lv_has ls 4 [(2, .int j9_L_2), (1, .int j9_L_1), (0, .ref h)]) (fun (u : (Nat → Int32) × (Nat → Int32) × (Nat → Int32) × (Nat → Int32) × (Nat → Int32) × (Nat → Int32) × (Nat → Int32) × (Nat → Int32) × (Nat → Int32) × (Nat → Int32) × (Int32) × (Int32) × (Int32)) ls => match u with | (j9_C_h_12, j9_C_h_13, j9_C_h_2, j9_C_h_3, j9_C_h_4, j9_C_h_5, j9_C_h_6, j9_C_h_7, j9_C_h_8, j9_C_h_9, j9_F_h_1, j9_L_1, j9_L_2) => F0 m 9 ls []) (fun (u : (Nat → Int32) × (Nat → Int32) × (Nat → Int32) × (Nat → Int32) × (Nat → Int32) × (Nat → Int32) × (Nat → Int32) × (Nat → Int32) × (Nat → Int32) × (Nat → Int32) × (Int32) × (Int32) × (Int32)) => match u with | (j9_C_h_12, j9_C_h_13, j9_C_h_2, j9_C_h_3, j9_C_h_4, j9_C_h_5, j9_C_h_6, j9_C_h_7, j9_C_h_8, j9_C_h_9, j9_F_h_1, j9_L_1, j9_L_2) => (481 - j9_L_2.toInt).toNat) (fun u H locs ls hi ih9 => ?_) (f_h_12, f_h_13, f_h_2, f_h_3, f_h_4, f_h_5, f_h_6, f_h_7, f_h_8, f_h_9, 0, 0, 0) _ _ _ ⟨by have zq0 : (0 : Int32).toInt = 0 := (by decide); omega, by have zq0 : (0 : Int32).toInt = 0 := (by decide); omega, by have zq0 : (0 : Int32).toInt = 0 := (by decide); omega, by have zq0 : (0 : Int32).toInt = 0 := (by decide); omega, by have zq0 : (0 : Int32).toInt = 0 := (by decide); omega, by have zq0 : (0 : Int32).toInt = 0 := (by decide); omega, by have zq0 : (0 : Int32).toInt = 0 := (by decide); omega, by have zq0 : (0 : Int32).toInt = 0 := (by decide); omega, by have zq0 : (0 : Int32).toInt = 0 := (by decide); omega, by have zq0 : (0 : Int32).toInt = 0 := (by decide); omega, by have zq0 : (0 : Int32).toInt = 0 := (by decide); omega, by have zq0 : (0 : Int32).toInt = 0 := (by decide); omega, by have zq0 : (0 : Int32).toInt = 0 := (by decide); omega, by have zq0 : (0 : Int32).toInt = 0 := (by decide); omega, q_f_h_4, q_f_h_5, Wd, lv_sub hl [0, 1, 2] rfl⟩
  obtain ⟨j9_C_h_12, j9_C_h_13, j9_C_h_2, j9_C_h_3, j9_C_h_4, j9_C_h_5, j9_C_h_6, j9_C_h_7, j9_C_h_8, j9_C_h_9, j9_F_h_1, j9_L_1, j9_L_2⟩ := u
  obtain ⟨i9_0, i9_1, i9_2, i9_3, i9_4, i9_5, i9_6, i9_7, i9_8, i9_9, i9_10, i9_11, i9_12, i9_13, q_j9_C_h_4, q_j9_C_h_5, Wd, hl⟩ := hi
  refine lv_iload_n C.1 C.2.1 dX1_number_9 rfl (lv_at hl 0 rfl) ?_
  refine lv_aload_n C.1 C.2.1 dX1_number_10 rfl (lv_at hl 2 rfl) ?_
  refine k_get C Wd KX1 0 0 rfl (by decide) fl_X1_14 rfl dX1_number_11 ?_
  refine k_get C Wd KX8 1 1 rfl (by decide) fl_X1_78 rfl dX1_number_14 ?_
  refine k_cutA (fun (_ : Unit) H locs ls => h_0_1.toInt ≤ j9_L_2.toInt + 520 ∧ wX D [(a_h_0_0, .int), (a_h_13, .int), (a_h_12, .int), (a_h_2, .int), (a_h_3, .int), (a_h_9, .int), (a_h_4, .int), (a_h_5, .int), (a_h_8, .int), (a_h_6, .int), (a_h_7, .int)] s [(h, .inr (1, [.ref h_0, .int j9_F_h_1, .ref h_2, .ref h_3, .ref h_4, .ref h_5, .ref h_6, .ref h_7, .ref h_8, .ref h_9, .ref h_10, .ref h_11, .ref h_12, .ref h_13])), (h_0, .inr (8, [.ref h_0_0, .int h_0_1])), (h_0_0, .inl (a_h_0_0, n_h_0_0, .inl f_h_0_0)), (h_13, .inl (a_h_13, 480, .inl j9_C_h_13)), (h_12, .inl (a_h_12, 40, .inl j9_C_h_12)), (h_2, .inl (a_h_2, 40, .inl j9_C_h_2)), (h_3, .inl (a_h_3, 40, .inl j9_C_h_3)), (h_9, .inl (a_h_9, 40, .inl j9_C_h_9)), (h_4, .inl (a_h_4, 40, .inl j9_C_h_4)), (h_5, .inl (a_h_5, 40, .inl j9_C_h_5)), (h_8, .inl (a_h_8, 40, .inl j9_C_h_8)), (h_6, .inl (a_h_6, 40, .inl j9_C_h_6)), (h_7, .inl (a_h_7, 40, .inl j9_C_h_7))] H A s.heap locs ∧ lv_has ls 4 [(2, .int j9_L_2), (1, .int j9_L_1), (0, .ref h)]) (fun (_ : Unit) ls => F0 m 235 ls []) (fun _ H locs ls hi => ?_) (fun J235 => ?_)
  · obtain ⟨i235_0, Wd, hl⟩ := hi
    exact k_vret C hr hlk Wd (j9_F_h_1, j9_C_h_13, j9_C_h_12, j9_C_h_2, j9_C_h_3, j9_C_h_9, j9_C_h_4, j9_C_h_5, j9_C_h_8, j9_C_h_6, j9_C_h_7) (by exact ⟨by omega, by omega, by omega, by omega, q_j9_C_h_4, q_j9_C_h_5⟩) [0, 1, 2, 3, 4, 5, 6, 7, 8, 9, 10, 11, 12] rfl (by decide) [] rfl (by decide) (by decide) dX1_number_235
  refine lv_icmp_ge (tgt := 235) C.1 C.2.1 dX1_number_17 (by decide) (fun c17 => ?_) (fun c17 => ?_)
  · have i17 : h_0_1.toInt ≤ j9_L_2.toInt := kz_le c17
    exact J235 () _ _ _ ⟨by omega, Wd, lv_sub hl [0, 1, 2] rfl⟩
  · have i17 : j9_L_2.toInt < h_0_1.toInt := kz_nle c17
    refine lv_iload_n C.1 C.2.1 dX1_number_20 rfl (lv_at hl 0 rfl) ?_
    refine lv_aload_n C.1 C.2.1 dX1_number_21 rfl (lv_at hl 2 rfl) ?_
    refine k_get C Wd KX1 0 13 rfl (by decide) fl_X1_54 rfl dX1_number_22 ?_
    refine k_alen (v := 480) C Wd 3 1 rfl rfl rfl dX1_number_25 ?_
    refine lv_icmp_ge (tgt := 235) C.1 C.2.1 dX1_number_26 (by decide) (fun c26 => ?_) (fun c26 => ?_)
    · have i26 : 480 ≤ j9_L_2.toInt := kz_le c26
      exact J235 () _ _ _ ⟨by omega, Wd, lv_sub hl [0, 1, 2] rfl⟩
    · have i26 : j9_L_2.toInt < 480 := kz_nle c26
      refine lv_aload_n C.1 C.2.1 dX1_number_29 rfl (lv_at hl 2 rfl) ?_
      refine k_get C Wd KX1 0 0 rfl (by decide) fl_X1_14 rfl dX1_number_30 ?_
      refine lv_iload_n C.1 C.2.1 dX1_number_33 rfl (lv_at hl 0 rfl) ?_
      refine k_pi (k_runV (rest := []) C aks Wd cs_X1_81 (sX8_cell l D h_0 j9_L_2 h_0_0 h_0_1 n_h_0_0 a_h_0_0 f_h_0_0 _ (by omega) (by omega) (by omega) (by omega)) [1, 2] rfl (by decide) [0] rfl 1 8 rfl rfl rfl rfl rfl ⟨(Nat.le_of_ble_eq_true rfl), (Nat.le_of_ble_eq_true rfl)⟩ hl.1 rfl rfl (Nat.le_of_ble_eq_true rfl) ⟨(Nat.le_of_ble_eq_true rfl), (Nat.le_of_ble_eq_true rfl)⟩ dX1_number_34) (fun r34 w34 => ?_)
      refine lv_istore_n (lv' := [(3, .int r34), (2, .int j9_L_2), (1, .int j9_L_1), (0, .ref h)]) C.1 C.2.1 dX1_number_37 rfl hl (by decide) rfl (fun ls hl => ?_)
      refine lv_aload_n C.1 C.2.1 dX1_number_38 rfl (lv_at hl 3 rfl) ?_
      refine k_get C Wd KX1 0 13 rfl (by decide) fl_X1_54 rfl dX1_number_39 ?_
      refine lv_iload_n C.1 C.2.1 dX1_number_42 rfl (lv_at hl 1 rfl) ?_
      refine lv_iconst (v := (-1)) C.1 C.2.1 dX1_number_43 (by decide) ?_
      obtain ⟨f44, ef44⟩ : ∃ z : Nat → Int32, upd j9_C_h_13 j9_L_2.toNatClampNeg (-1) = z := ⟨_, rfl⟩
      refine k_iast C Wd 3 1 [(h, .inr (1, [.ref h_0, .int j9_F_h_1, .ref h_2, .ref h_3, .ref h_4, .ref h_5, .ref h_6, .ref h_7, .ref h_8, .ref h_9, .ref h_10, .ref h_11, .ref h_12, .ref h_13])), (h_0, .inr (8, [.ref h_0_0, .int h_0_1])), (h_0_0, .inl (a_h_0_0, n_h_0_0, .inl f_h_0_0)), (h_13, .inl (a_h_13, 480, .inl f44)), (h_12, .inl (a_h_12, 40, .inl j9_C_h_12)), (h_2, .inl (a_h_2, 40, .inl j9_C_h_2)), (h_3, .inl (a_h_3, 40, .inl j9_C_h_3)), (h_9, .inl (a_h_9, 40, .inl j9_C_h_9)), (h_4, .inl (a_h_4, 40, .inl j9_C_h_4)), (h_5, .inl (a_h_5, 40, .inl j9_C_h_5)), (h_8, .inl (a_h_8, 40, .inl j9_C_h_8)), (h_6, .inl (a_h_6, 40, .inl j9_C_h_6)), (h_7, .inl (a_h_7, 40, .inl j9_C_h_7))] rfl rfl (vp_in_iff.mpr ⟨by omega, by omega⟩) ef44 rfl dX1_number_44 (fun H locs Wd => ?_)
      refine lv_iload_n C.1 C.2.1 dX1_number_45 rfl (lv_at hl 0 rfl) ?_
      refine k_pi (k_runS (rest := []) C aks Wd cs_X1_84 (sX8_isStatement l D r34 _ ) [] rfl (by decide) [] rfl rfl rfl ⟨(Nat.le_of_ble_eq_true rfl), (Nat.le_of_ble_eq_true rfl)⟩ hl.1 rfl rfl (Nat.le_of_ble_eq_true rfl) ⟨(Nat.le_of_ble_eq_true rfl), (Nat.le_of_ble_eq_true rfl)⟩ dX1_number_46) (fun r46 w46 => ?_)
      obtain ⟨g46_0, g46_1⟩ := w46
      have g46_0 : 0 ≤ r46.toInt := g46_0
      have g46_1 : r46.toInt ≤ 1 := g46_1
      refine k_cutA (fun (u : (Int32) × (Int32) × (Nat → Int32) × (Nat → Int32) × (Nat → Int32) × (Nat → Int32) × (Nat → Int32) × (Nat → Int32) × (Nat → Int32) × (Nat → Int32) × (Nat → Int32) × (Nat → Int32)) H locs ls => match u with | (j229_L_1, j229_F_h_1, j229_C_h_13, j229_C_h_12, j229_C_h_2, j229_C_h_3, j229_C_h_9, j229_C_h_4, j229_C_h_5, j229_C_h_8, j229_C_h_6, j229_C_h_7) => 0 ≤ j229_F_h_1.toInt ∧ 0 ≤ j229_L_1.toInt ∧ j229_F_h_1.toInt ≤ 40 ∧ j229_L_1.toInt ≤ 40 ∧ j229_F_h_1.toInt ≤ (n_h_0_0 : Int) ∧ j229_F_h_1.toInt ≤ h_0_1.toInt ∧ j229_L_1.toInt ≤ (n_h_0_0 : Int) ∧ j229_L_1.toInt ≤ h_0_1.toInt ∧ j9_F_h_1.toInt ≤ j229_F_h_1.toInt ∧ r46.toInt ≤ j229_F_h_1.toInt ∧ j229_F_h_1.toInt ≤ j9_F_h_1.toInt + 1 ∧ j229_L_1.toInt ≤ j9_L_1.toInt + 1 ∧ j9_L_1.toInt ≤ j229_L_1.toInt + 1 ∧ (∀ j : Nat, 0 ≤ (j229_C_h_4 j).toInt ∧ (j229_C_h_4 j).toInt ≤ 2000) ∧ (∀ j : Nat, 0 ≤ (j229_C_h_5 j).toInt ∧ (j229_C_h_5 j).toInt ≤ 2000) ∧ wX D [(a_h_0_0, .int), (a_h_13, .int), (a_h_12, .int), (a_h_2, .int), (a_h_3, .int), (a_h_9, .int), (a_h_4, .int), (a_h_5, .int), (a_h_8, .int), (a_h_6, .int), (a_h_7, .int)] s [(h, .inr (1, [.ref h_0, .int j229_F_h_1, .ref h_2, .ref h_3, .ref h_4, .ref h_5, .ref h_6, .ref h_7, .ref h_8, .ref h_9, .ref h_10, .ref h_11, .ref h_12, .ref h_13])), (h_0, .inr (8, [.ref h_0_0, .int h_0_1])), (h_0_0, .inl (a_h_0_0, n_h_0_0, .inl f_h_0_0)), (h_13, .inl (a_h_13, 480, .inl j229_C_h_13)), (h_12, .inl (a_h_12, 40, .inl j229_C_h_12)), (h_2, .inl (a_h_2, 40, .inl j229_C_h_2)), (h_3, .inl (a_h_3, 40, .inl j229_C_h_3)), (h_9, .inl (a_h_9, 40, .inl j229_C_h_9)), (h_4, .inl (a_h_4, 40, .inl j229_C_h_4)), (h_5, .inl (a_h_5, 40, .inl j229_C_h_5)), (h_8, .inl (a_h_8, 40, .inl j229_C_h_8)), (h_6, .inl (a_h_6, 40, .inl j229_C_h_6)), (h_7, .inl (a_h_7, 40, .inl j229_C_h_7))] H A s.heap locs ∧ lv_has ls 4 [(3, .int r34), (2, .int j9_L_2), (1, .int j229_L_1), (0, .ref h)]) (fun (u : (Int32) × (Int32) × (Nat → Int32) × (Nat → Int32) × (Nat → Int32) × (Nat → Int32) × (Nat → Int32) × (Nat → Int32) × (Nat → Int32) × (Nat → Int32) × (Nat → Int32) × (Nat → Int32)) ls => match u with | (j229_L_1, j229_F_h_1, j229_C_h_13, j229_C_h_12, j229_C_h_2, j229_C_h_3, j229_C_h_9, j229_C_h_4, j229_C_h_5, j229_C_h_8, j229_C_h_6, j229_C_h_7) => F0 m 229 ls []) (fun u H locs ls hi => ?_) (fun J229 => ?_)
      · obtain ⟨j229_L_1, j229_F_h_1, j229_C_h_13, j229_C_h_12, j229_C_h_2, j229_C_h_3, j229_C_h_9, j229_C_h_4, j229_C_h_5, j229_C_h_8, j229_C_h_6, j229_C_h_7⟩ := u
        obtain ⟨i229_0, i229_1, i229_2, i229_3, i229_4, i229_5, i229_6, i229_7, i229_8, i229_9, i229_10, i229_11, i229_12, q_j229_C_h_4, q_j229_C_h_5, Wd, hl⟩ := hi
        obtain ⟨v229, ev229⟩ : ∃ z : Int32, j9_L_2 + 1 = z := ⟨_, rfl⟩
        have iv229 : v229.toInt = j9_L_2.toInt + 1 := kz_addc ev229 (by decide) (by have zr0 := kz_rng j9_L_2; omega) (by have zr0 := kz_rng j9_L_2; omega)
        refine lv_iinc (v := v229) (lv' := [(2, .int v229), (3, .int r34), (1, .int j229_L_1), (0, .ref h)]) C.1 C.2.1 dX1_number_229 hl (k := 1) rfl ev229 (by decide) rfl (fun ls hl => ?_)
        refine lv_goto (tgt := 9) C.1 C.2.1 dX1_number_232 (by decide) ?_
        exact ih9 (j229_C_h_12, j229_C_h_13, j229_C_h_2, j229_C_h_3, j229_C_h_4, j229_C_h_5, j229_C_h_6, j229_C_h_7, j229_C_h_8, j229_C_h_9, j229_F_h_1, j229_L_1, v229) _ _ _ ⟨by omega, by omega, by omega, by omega, by omega, by omega, by omega, by omega, by omega, by omega, by omega, by omega, by omega, by omega, q_j229_C_h_4, q_j229_C_h_5, Wd, lv_sub hl [0, 2, 3] rfl⟩ (by show (481 - v229.toInt).toNat < (481 - j9_L_2.toInt).toNat; omega)
      refine k_cutA (fun (_ : Unit) H locs ls => r46.toInt ≤ j9_F_h_1.toInt ∧ wX D [(a_h_0_0, .int), (a_h_13, .int), (a_h_12, .int), (a_h_2, .int), (a_h_3, .int), (a_h_9, .int), (a_h_4, .int), (a_h_5, .int), (a_h_8, .int), (a_h_6, .int), (a_h_7, .int)] s [(h, .inr (1, [.ref h_0, .int j9_F_h_1, .ref h_2, .ref h_3, .ref h_4, .ref h_5, .ref h_6, .ref h_7, .ref h_8, .ref h_9, .ref h_10, .ref h_11, .ref h_12, .ref h_13])), (h_0, .inr (8, [.ref h_0_0, .int h_0_1])), (h_0_0, .inl (a_h_0_0, n_h_0_0, .inl f_h_0_0)), (h_13, .inl (a_h_13, 480, .inl f44)), (h_12, .inl (a_h_12, 40, .inl j9_C_h_12)), (h_2, .inl (a_h_2, 40, .inl j9_C_h_2)), (h_3, .inl (a_h_3, 40, .inl j9_C_h_3)), (h_9, .inl (a_h_9, 40, .inl j9_C_h_9)), (h_4, .inl (a_h_4, 40, .inl j9_C_h_4)), (h_5, .inl (a_h_5, 40, .inl j9_C_h_5)), (h_8, .inl (a_h_8, 40, .inl j9_C_h_8)), (h_6, .inl (a_h_6, 40, .inl j9_C_h_6)), (h_7, .inl (a_h_7, 40, .inl j9_C_h_7))] H A s.heap locs ∧ lv_has ls 4 [(3, .int r34), (2, .int j9_L_2), (1, .int j9_L_1), (0, .ref h)]) (fun (_ : Unit) ls => F0 m 109 ls []) (fun _ H locs ls hi => ?_) (fun J109 => ?_)
      · obtain ⟨i109_0, Wd, hl⟩ := hi
        refine lv_iload_n C.1 C.2.1 dX1_number_109 rfl (lv_at hl 0 rfl) ?_
        refine lv_bipush (v := 113) C.1 C.2.1 dX1_number_110 (by decide) ?_
        refine k_cutA (fun (_ : Unit) H locs ls => wX D [(a_h_0_0, .int), (a_h_13, .int), (a_h_12, .int), (a_h_2, .int), (a_h_3, .int), (a_h_9, .int), (a_h_4, .int), (a_h_5, .int), (a_h_8, .int), (a_h_6, .int), (a_h_7, .int)] s [(h, .inr (1, [.ref h_0, .int j9_F_h_1, .ref h_2, .ref h_3, .ref h_4, .ref h_5, .ref h_6, .ref h_7, .ref h_8, .ref h_9, .ref h_10, .ref h_11, .ref h_12, .ref h_13])), (h_0, .inr (8, [.ref h_0_0, .int h_0_1])), (h_0_0, .inl (a_h_0_0, n_h_0_0, .inl f_h_0_0)), (h_13, .inl (a_h_13, 480, .inl f44)), (h_12, .inl (a_h_12, 40, .inl j9_C_h_12)), (h_2, .inl (a_h_2, 40, .inl j9_C_h_2)), (h_3, .inl (a_h_3, 40, .inl j9_C_h_3)), (h_9, .inl (a_h_9, 40, .inl j9_C_h_9)), (h_4, .inl (a_h_4, 40, .inl j9_C_h_4)), (h_5, .inl (a_h_5, 40, .inl j9_C_h_5)), (h_8, .inl (a_h_8, 40, .inl j9_C_h_8)), (h_6, .inl (a_h_6, 40, .inl j9_C_h_6)), (h_7, .inl (a_h_7, 40, .inl j9_C_h_7))] H A s.heap locs ∧ lv_has ls 4 [(3, .int r34), (2, .int j9_L_2), (1, .int j9_L_1), (0, .ref h)]) (fun (_ : Unit) ls => F0 m 136 ls []) (fun _ H locs ls hi => ?_) (fun J136 => ?_)
        · obtain ⟨Wd, hl⟩ := hi
          refine lv_iload_n C.1 C.2.1 dX1_number_136 rfl (lv_at hl 0 rfl) ?_
          refine lv_bipush (v := 114) C.1 C.2.1 dX1_number_137 (by decide) ?_
          refine k_cutA (fun (_ : Unit) H locs ls => wX D [(a_h_0_0, .int), (a_h_13, .int), (a_h_12, .int), (a_h_2, .int), (a_h_3, .int), (a_h_9, .int), (a_h_4, .int), (a_h_5, .int), (a_h_8, .int), (a_h_6, .int), (a_h_7, .int)] s [(h, .inr (1, [.ref h_0, .int j9_F_h_1, .ref h_2, .ref h_3, .ref h_4, .ref h_5, .ref h_6, .ref h_7, .ref h_8, .ref h_9, .ref h_10, .ref h_11, .ref h_12, .ref h_13])), (h_0, .inr (8, [.ref h_0_0, .int h_0_1])), (h_0_0, .inl (a_h_0_0, n_h_0_0, .inl f_h_0_0)), (h_13, .inl (a_h_13, 480, .inl f44)), (h_12, .inl (a_h_12, 40, .inl j9_C_h_12)), (h_2, .inl (a_h_2, 40, .inl j9_C_h_2)), (h_3, .inl (a_h_3, 40, .inl j9_C_h_3)), (h_9, .inl (a_h_9, 40, .inl j9_C_h_9)), (h_4, .inl (a_h_4, 40, .inl j9_C_h_4)), (h_5, .inl (a_h_5, 40, .inl j9_C_h_5)), (h_8, .inl (a_h_8, 40, .inl j9_C_h_8)), (h_6, .inl (a_h_6, 40, .inl j9_C_h_6)), (h_7, .inl (a_h_7, 40, .inl j9_C_h_7))] H A s.heap locs ∧ lv_has ls 4 [(3, .int r34), (2, .int j9_L_2), (1, .int j9_L_1), (0, .ref h)]) (fun (_ : Unit) ls => F0 m 164 ls []) (fun _ H locs ls hi => ?_) (fun J164 => ?_)
          · obtain ⟨Wd, hl⟩ := hi
            refine lv_iload_n C.1 C.2.1 dX1_number_164 rfl (lv_at hl 0 rfl) ?_
            refine k_pi (k_runS (rest := []) C aks Wd cs_X1_94 (sX8_isExpression l D r34 _ ) [] rfl (by decide) [] rfl rfl rfl ⟨(Nat.le_of_ble_eq_true rfl), (Nat.le_of_ble_eq_true rfl)⟩ hl.1 rfl rfl (Nat.le_of_ble_eq_true rfl) ⟨(Nat.le_of_ble_eq_true rfl), (Nat.le_of_ble_eq_true rfl)⟩ dX1_number_165) (fun r165 w165 => ?_)
            obtain ⟨g165_0, g165_1⟩ := w165
            have g165_0 : 0 ≤ r165.toInt := g165_0
            have g165_1 : r165.toInt ≤ 1 := g165_1
            refine lv_if_eq (tgt := 229) C.1 C.2.1 dX1_number_168 (by decide) (fun c168 => ?_) (fun c168 => ?_)
            · have i168 : r165.toInt = 0 := kz_eq c168
              exact J229 (j9_L_1, j9_F_h_1, f44, j9_C_h_12, j9_C_h_2, j9_C_h_3, j9_C_h_9, j9_C_h_4, j9_C_h_5, j9_C_h_8, j9_C_h_6, j9_C_h_7) _ _ _ ⟨by omega, by omega, by omega, by omega, by omega, by omega, by omega, by omega, by omega, by omega, by omega, by omega, by omega, q_j9_C_h_4, q_j9_C_h_5, Wd, lv_sub hl [0, 1, 2, 3] rfl⟩
            · have i168 : ¬ r165.toInt = 0 := kz_ne c168
              refine lv_aload_n C.1 C.2.1 dX1_number_171 rfl (lv_at hl 3 rfl) ?_
              refine lv_aload_n C.1 C.2.1 dX1_number_172 rfl (lv_at hl 3 rfl) ?_
              refine k_get C Wd KX1 0 1 rfl (by decide) fl_X1_57 rfl dX1_number_173 ?_
              refine lv_iconst (v := 1) C.1 C.2.1 dX1_number_176 (by decide) ?_
              obtain ⟨v177, ev177⟩ : ∃ z : Int32, j9_F_h_1 - 1 = z := ⟨_, rfl⟩
              have iv177 : v177.toInt = j9_F_h_1.toInt - 1 := kz_subc ev177 (by decide) (by have zr0 := kz_rng j9_F_h_1; omega) (by have zr0 := kz_rng j9_F_h_1; omega)
              refine k_isub (v := v177) C ev177 dX1_number_177 ?_
              refine k_pi (k_runV (rest := []) C aks Wd cs_X1_70 (sX1_isHere l D h v177 (.ref h_0 : Value) j9_F_h_1 h_2 h_3 h_4 h_5 h_6 h_7 h_8 h_9 h_10 h_11 h_12 h_13 _ (by omega) (by omega)) [0] rfl (by decide) [] rfl 0 1 rfl rfl rfl rfl rfl ⟨(Nat.le_of_ble_eq_true rfl), (Nat.le_of_ble_eq_true rfl)⟩ hl.1 rfl rfl (Nat.le_of_ble_eq_true rfl) ⟨(Nat.le_of_ble_eq_true rfl), (Nat.le_of_ble_eq_true rfl)⟩ dX1_number_178) (fun r178 w178 => ?_)
              rcases w178 with rfl | ⟨g178_1_0, g178_1_1, g178_1_2, g178_1_3, rfl⟩
              · refine lv_if_eq (tgt := 229) C.1 C.2.1 dX1_number_181 (by decide) (fun _ => ?_) (fun c181 => absurd c181 (by decide))
                exact J229 (j9_L_1, j9_F_h_1, f44, j9_C_h_12, j9_C_h_2, j9_C_h_3, j9_C_h_9, j9_C_h_4, j9_C_h_5, j9_C_h_8, j9_C_h_6, j9_C_h_7) _ _ _ ⟨by omega, by omega, by omega, by omega, by omega, by omega, by omega, by omega, by omega, by omega, by omega, by omega, by omega, q_j9_C_h_4, q_j9_C_h_5, Wd, lv_sub hl [0, 1, 2, 3] rfl⟩
              · have g178_1_0 : 0 ≤ v177.toInt := g178_1_0
                have g178_1_1 : 1 ≤ j9_F_h_1.toInt := g178_1_1
                have g178_1_2 : v177.toInt ≤ 39 := g178_1_2
                have g178_1_3 : v177.toInt + 1 ≤ j9_F_h_1.toInt := g178_1_3
                refine lv_if_eq (tgt := 229) C.1 C.2.1 dX1_number_181 (by decide) (fun c181 => absurd c181 (by decide)) (fun _ => ?_)
                refine lv_aload_n C.1 C.2.1 dX1_number_184 rfl (lv_at hl 3 rfl) ?_
                refine k_get C Wd KX1 0 5 rfl (by decide) fl_X1_30 rfl dX1_number_185 ?_
                refine lv_aload_n C.1 C.2.1 dX1_number_188 rfl (lv_at hl 3 rfl) ?_
                refine k_get C Wd KX1 0 1 rfl (by decide) fl_X1_57 rfl dX1_number_189 ?_
                refine lv_iconst (v := 1) C.1 C.2.1 dX1_number_192 (by decide) ?_
                obtain ⟨v193, ev193⟩ : ∃ z : Int32, j9_F_h_1 - 1 = z := ⟨_, rfl⟩
                have iv193 : v193.toInt = j9_F_h_1.toInt - 1 := kz_subc ev193 (by decide) (by have zr0 := kz_rng j9_F_h_1; omega) (by have zr0 := kz_rng j9_F_h_1; omega)
                refine k_isub (v := v193) C ev193 dX1_number_193 ?_
                refine lv_iload_n C.1 C.2.1 dX1_number_194 rfl (lv_at hl 1 rfl) ?_
                refine lv_iconst (v := 1) C.1 C.2.1 dX1_number_195 (by decide) ?_
                obtain ⟨v196, ev196⟩ : ∃ z : Int32, j9_L_2 + 1 = z := ⟨_, rfl⟩
                have iv196 : v196.toInt = j9_L_2.toInt + 1 := kz_addc ev196 (by decide) (by have zr0 := kz_rng j9_L_2; omega) (by have zr0 := kz_rng j9_L_2; omega)
                refine k_iadd (v := v196) C ev196 dX1_number_196 ?_
                obtain ⟨f197, ef197⟩ : ∃ z : Nat → Int32, upd j9_C_h_5 v193.toNatClampNeg v196 = z := ⟨_, rfl⟩
                have q_f197 : ∀ j : Nat, 0 ≤ (f197 j).toInt ∧ (f197 j).toInt ≤ 2000 := cr_upd q_j9_C_h_5 ef197 (by omega) (by omega)
                refine k_iast C Wd 9 7 [(h, .inr (1, [.ref h_0, .int j9_F_h_1, .ref h_2, .ref h_3, .ref h_4, .ref h_5, .ref h_6, .ref h_7, .ref h_8, .ref h_9, .ref h_10, .ref h_11, .ref h_12, .ref h_13])), (h_0, .inr (8, [.ref h_0_0, .int h_0_1])), (h_0_0, .inl (a_h_0_0, n_h_0_0, .inl f_h_0_0)), (h_13, .inl (a_h_13, 480, .inl f44)), (h_12, .inl (a_h_12, 40, .inl j9_C_h_12)), (h_2, .inl (a_h_2, 40, .inl j9_C_h_2)), (h_3, .inl (a_h_3, 40, .inl j9_C_h_3)), (h_9, .inl (a_h_9, 40, .inl j9_C_h_9)), (h_4, .inl (a_h_4, 40, .inl j9_C_h_4)), (h_5, .inl (a_h_5, 40, .inl f197)), (h_8, .inl (a_h_8, 40, .inl j9_C_h_8)), (h_6, .inl (a_h_6, 40, .inl j9_C_h_6)), (h_7, .inl (a_h_7, 40, .inl j9_C_h_7))] rfl rfl (vp_in_iff.mpr ⟨by omega, by omega⟩) ef197 rfl dX1_number_197 (fun H locs Wd => ?_)
                refine lv_aload_n C.1 C.2.1 dX1_number_198 rfl (lv_at hl 3 rfl) ?_
                refine k_get C Wd KX1 0 8 rfl (by decide) fl_X1_39 rfl dX1_number_199 ?_
                refine lv_aload_n C.1 C.2.1 dX1_number_202 rfl (lv_at hl 3 rfl) ?_
                refine k_get C Wd KX1 0 1 rfl (by decide) fl_X1_57 rfl dX1_number_203 ?_
                refine lv_iconst (v := 1) C.1 C.2.1 dX1_number_206 (by decide) ?_
                obtain ⟨v207, ev207⟩ : ∃ z : Int32, j9_F_h_1 - 1 = z := ⟨_, rfl⟩
                have iv207 : v207.toInt = j9_F_h_1.toInt - 1 := kz_subc ev207 (by decide) (by have zr0 := kz_rng j9_F_h_1; omega) (by have zr0 := kz_rng j9_F_h_1; omega)
                refine k_isub (v := v207) C ev207 dX1_number_207 ?_
                refine lv_dup2_11 C.1 C.2.1 dX1_number_208 rfl rfl ?_
                obtain ⟨v209, ev209⟩ : ∃ z : Int32, j9_C_h_8 v207.toNatClampNeg = z := ⟨_, rfl⟩
                refine k_iald (v := v209) C Wd 10 8 rfl rfl (vp_in_iff.mpr ⟨by omega, by omega⟩) ev209 dX1_number_209 ?_
                refine lv_iload_n C.1 C.2.1 dX1_number_210 rfl (lv_at hl 0 rfl) ?_
                refine k_pi (k_runS (rest := [.int v209, .int v207, .ref h_8]) C aks Wd cs_X1_97 (sX8_isRead l D r34 _ ) [] rfl (by decide) [] rfl rfl rfl ⟨(Nat.le_of_ble_eq_true rfl), (Nat.le_of_ble_eq_true rfl)⟩ hl.1 rfl rfl (Nat.le_of_ble_eq_true rfl) ⟨(Nat.le_of_ble_eq_true rfl), (Nat.le_of_ble_eq_true rfl)⟩ dX1_number_211) (fun r211 w211 => ?_)
                obtain ⟨g211_0, g211_1⟩ := w211
                have g211_0 : 0 ≤ r211.toInt := g211_0
                have g211_1 : r211.toInt ≤ 1 := g211_1
                refine k_cutA (fun (j227_S_0 : Int32) H locs ls => wX D [(a_h_0_0, .int), (a_h_13, .int), (a_h_12, .int), (a_h_2, .int), (a_h_3, .int), (a_h_9, .int), (a_h_4, .int), (a_h_5, .int), (a_h_8, .int), (a_h_6, .int), (a_h_7, .int)] s [(h, .inr (1, [.ref h_0, .int j9_F_h_1, .ref h_2, .ref h_3, .ref h_4, .ref h_5, .ref h_6, .ref h_7, .ref h_8, .ref h_9, .ref h_10, .ref h_11, .ref h_12, .ref h_13])), (h_0, .inr (8, [.ref h_0_0, .int h_0_1])), (h_0_0, .inl (a_h_0_0, n_h_0_0, .inl f_h_0_0)), (h_13, .inl (a_h_13, 480, .inl f44)), (h_12, .inl (a_h_12, 40, .inl j9_C_h_12)), (h_2, .inl (a_h_2, 40, .inl j9_C_h_2)), (h_3, .inl (a_h_3, 40, .inl j9_C_h_3)), (h_9, .inl (a_h_9, 40, .inl j9_C_h_9)), (h_4, .inl (a_h_4, 40, .inl j9_C_h_4)), (h_5, .inl (a_h_5, 40, .inl f197)), (h_8, .inl (a_h_8, 40, .inl j9_C_h_8)), (h_6, .inl (a_h_6, 40, .inl j9_C_h_6)), (h_7, .inl (a_h_7, 40, .inl j9_C_h_7))] H A s.heap locs ∧ lv_has ls 4 [(3, .int r34), (2, .int j9_L_2), (1, .int j9_L_1), (0, .ref h)]) (fun (j227_S_0 : Int32) ls => F0 m 227 ls [.int j227_S_0, .int v209, .int v207, .ref h_8]) (fun j227_S_0 H locs ls hi => ?_) (fun J227 => ?_)
                · obtain ⟨Wd, hl⟩ := hi
                  obtain ⟨v227, ev227⟩ : ∃ z : Int32, v209 ||| j227_S_0 = z := ⟨_, rfl⟩
                  refine k_ior (v := v227) C ev227 dX1_number_227 ?_
                  obtain ⟨f228, ef228⟩ : ∃ z : Nat → Int32, upd j9_C_h_8 v207.toNatClampNeg v227 = z := ⟨_, rfl⟩
                  refine k_iast C Wd 10 8 [(h, .inr (1, [.ref h_0, .int j9_F_h_1, .ref h_2, .ref h_3, .ref h_4, .ref h_5, .ref h_6, .ref h_7, .ref h_8, .ref h_9, .ref h_10, .ref h_11, .ref h_12, .ref h_13])), (h_0, .inr (8, [.ref h_0_0, .int h_0_1])), (h_0_0, .inl (a_h_0_0, n_h_0_0, .inl f_h_0_0)), (h_13, .inl (a_h_13, 480, .inl f44)), (h_12, .inl (a_h_12, 40, .inl j9_C_h_12)), (h_2, .inl (a_h_2, 40, .inl j9_C_h_2)), (h_3, .inl (a_h_3, 40, .inl j9_C_h_3)), (h_9, .inl (a_h_9, 40, .inl j9_C_h_9)), (h_4, .inl (a_h_4, 40, .inl j9_C_h_4)), (h_5, .inl (a_h_5, 40, .inl f197)), (h_8, .inl (a_h_8, 40, .inl f228)), (h_6, .inl (a_h_6, 40, .inl j9_C_h_6)), (h_7, .inl (a_h_7, 40, .inl j9_C_h_7))] rfl rfl (vp_in_iff.mpr ⟨by omega, by omega⟩) ef228 rfl dX1_number_228 (fun H locs Wd => ?_)
                  exact J229 (j9_L_1, j9_F_h_1, f44, j9_C_h_12, j9_C_h_2, j9_C_h_3, j9_C_h_9, j9_C_h_4, f197, f228, j9_C_h_6, j9_C_h_7) _ _ _ ⟨by omega, by omega, by omega, by omega, by omega, by omega, by omega, by omega, by omega, by omega, by omega, by omega, by omega, q_j9_C_h_4, q_f197, Wd, lv_sub hl [0, 1, 2, 3] rfl⟩
                refine lv_if_eq (tgt := 226) C.1 C.2.1 dX1_number_214 (by decide) (fun c214 => ?_) (fun c214 => ?_)
                · have i214 : r211.toInt = 0 := kz_eq c214
                  refine lv_iconst (v := 0) C.1 C.2.1 dX1_number_226 (by decide) ?_
                  exact J227 0 _ _ _ ⟨Wd, lv_sub hl [0, 1, 2, 3] rfl⟩
                · have i214 : ¬ r211.toInt = 0 := kz_ne c214
                  refine lv_iconst (v := 1) C.1 C.2.1 dX1_number_217 (by decide) ?_
                  refine lv_iload_n C.1 C.2.1 dX1_number_218 rfl (lv_at hl 0 rfl) ?_
                  refine lv_bipush (v := 20) C.1 C.2.1 dX1_number_219 (by decide) ?_
                  obtain ⟨v221, ev221⟩ : ∃ z : Int32, r34 - 20 = z := ⟨_, rfl⟩
                  refine k_isub (v := v221) C ev221 dX1_number_221 ?_
                  obtain ⟨v222, ev222⟩ : ∃ z : Int32, 1 <<< (v221 &&& 31) = z := ⟨_, rfl⟩
                  refine k_ishl (v := v222) C ev222 dX1_number_222 ?_
                  refine lv_goto (tgt := 227) C.1 C.2.1 dX1_number_223 (by decide) ?_
                  exact J227 v222 _ _ _ ⟨Wd, lv_sub hl [0, 1, 2, 3] rfl⟩
          refine lv_icmp_ne (tgt := 164) C.1 C.2.1 dX1_number_139 (by decide) (fun c139 => ?_) (fun c139 => ?_)
          · have i139 : ¬ r34.toInt = 114 := kz_ne c139
            exact J164 () _ _ _ ⟨Wd, lv_sub hl [0, 1, 2, 3] rfl⟩
          · have i139 : r34.toInt = 114 := kz_eq c139
            refine lv_iload_n C.1 C.2.1 dX1_number_142 rfl (lv_at hl 2 rfl) ?_
            refine lv_if_le (tgt := 164) C.1 C.2.1 dX1_number_143 (by decide) (fun c143 => ?_) (fun c143 => ?_)
            · have i143 : j9_L_1.toInt ≤ 0 := kz_le c143
              exact J164 () _ _ _ ⟨Wd, lv_sub hl [0, 1, 2, 3] rfl⟩
            · have i143 : 0 < j9_L_1.toInt := kz_nle c143
              obtain ⟨v146, ev146⟩ : ∃ z : Int32, j9_L_1 + (-1) = z := ⟨_, rfl⟩
              have iv146 : v146.toInt = j9_L_1.toInt + (-1) := kz_addc ev146 (by decide) (by have zr0 := kz_rng j9_L_1; omega) (by have zr0 := kz_rng j9_L_1; omega)
              refine lv_iinc (v := v146) (lv' := [(1, .int v146), (3, .int r34), (2, .int j9_L_2), (0, .ref h)]) C.1 C.2.1 dX1_number_146 hl (k := 2) rfl ev146 (by decide) rfl (fun ls hl => ?_)
              refine lv_aload_n C.1 C.2.1 dX1_number_149 rfl (lv_at hl 3 rfl) ?_
              refine k_get C Wd KX1 0 13 rfl (by decide) fl_X1_54 rfl dX1_number_150 ?_
              refine lv_iload_n C.1 C.2.1 dX1_number_153 rfl (lv_at hl 2 rfl) ?_
              refine lv_aload_n C.1 C.2.1 dX1_number_154 rfl (lv_at hl 3 rfl) ?_
              refine k_get C Wd KX1 0 12 rfl (by decide) fl_X1_51 rfl dX1_number_155 ?_
              refine lv_iload_n C.1 C.2.1 dX1_number_158 rfl (lv_at hl 0 rfl) ?_
              obtain ⟨v159, ev159⟩ : ∃ z : Int32, j9_C_h_12 v146.toNatClampNeg = z := ⟨_, rfl⟩
              refine k_iald (v := v159) C Wd 4 2 rfl rfl (vp_in_iff.mpr ⟨by omega, by omega⟩) ev159 dX1_number_159 ?_
              obtain ⟨f160, ef160⟩ : ∃ z : Nat → Int32, upd f44 j9_L_2.toNatClampNeg v159 = z := ⟨_, rfl⟩
              refine k_iast C Wd 3 1 [(h, .inr (1, [.ref h_0, .int j9_F_h_1, .ref h_2, .ref h_3, .ref h_4, .ref h_5, .ref h_6, .ref h_7, .ref h_8, .ref h_9, .ref h_10, .ref h_11, .ref h_12, .ref h_13])), (h_0, .inr (8, [.ref h_0_0, .int h_0_1])), (h_0_0, .inl (a_h_0_0, n_h_0_0, .inl f_h_0_0)), (h_13, .inl (a_h_13, 480, .inl f160)), (h_12, .inl (a_h_12, 40, .inl j9_C_h_12)), (h_2, .inl (a_h_2, 40, .inl j9_C_h_2)), (h_3, .inl (a_h_3, 40, .inl j9_C_h_3)), (h_9, .inl (a_h_9, 40, .inl j9_C_h_9)), (h_4, .inl (a_h_4, 40, .inl j9_C_h_4)), (h_5, .inl (a_h_5, 40, .inl j9_C_h_5)), (h_8, .inl (a_h_8, 40, .inl j9_C_h_8)), (h_6, .inl (a_h_6, 40, .inl j9_C_h_6)), (h_7, .inl (a_h_7, 40, .inl j9_C_h_7))] rfl rfl (vp_in_iff.mpr ⟨by omega, by omega⟩) ef160 rfl dX1_number_160 (fun H locs Wd => ?_)
              refine lv_goto (tgt := 229) C.1 C.2.1 dX1_number_161 (by decide) ?_
              exact J229 (v146, j9_F_h_1, f160, j9_C_h_12, j9_C_h_2, j9_C_h_3, j9_C_h_9, j9_C_h_4, j9_C_h_5, j9_C_h_8, j9_C_h_6, j9_C_h_7) _ _ _ ⟨by omega, by omega, by omega, by omega, by omega, by omega, by omega, by omega, by omega, by omega, by omega, by omega, by omega, q_j9_C_h_4, q_j9_C_h_5, Wd, lv_sub hl [1, 2, 0, 3] rfl⟩
        refine lv_icmp_ne (tgt := 136) C.1 C.2.1 dX1_number_112 (by decide) (fun c112 => ?_) (fun c112 => ?_)
        · have i112 : ¬ r34.toInt = 113 := kz_ne c112
          exact J136 () _ _ _ ⟨Wd, lv_sub hl [0, 1, 2, 3] rfl⟩
        · have i112 : r34.toInt = 113 := kz_eq c112
          refine lv_iload_n C.1 C.2.1 dX1_number_115 rfl (lv_at hl 2 rfl) ?_
          refine lv_if_le (tgt := 136) C.1 C.2.1 dX1_number_116 (by decide) (fun c116 => ?_) (fun c116 => ?_)
          · have i116 : j9_L_1.toInt ≤ 0 := kz_le c116
            exact J136 () _ _ _ ⟨Wd, lv_sub hl [0, 1, 2, 3] rfl⟩
          · have i116 : 0 < j9_L_1.toInt := kz_nle c116
            refine lv_aload_n C.1 C.2.1 dX1_number_119 rfl (lv_at hl 3 rfl) ?_
            refine k_get C Wd KX1 0 13 rfl (by decide) fl_X1_54 rfl dX1_number_120 ?_
            refine lv_iload_n C.1 C.2.1 dX1_number_123 rfl (lv_at hl 1 rfl) ?_
            refine lv_aload_n C.1 C.2.1 dX1_number_124 rfl (lv_at hl 3 rfl) ?_
            refine k_get C Wd KX1 0 12 rfl (by decide) fl_X1_51 rfl dX1_number_125 ?_
            refine lv_iload_n C.1 C.2.1 dX1_number_128 rfl (lv_at hl 2 rfl) ?_
            refine lv_iconst (v := 1) C.1 C.2.1 dX1_number_129 (by decide) ?_
            obtain ⟨v130, ev130⟩ : ∃ z : Int32, j9_L_1 - 1 = z := ⟨_, rfl⟩
            have iv130 : v130.toInt = j9_L_1.toInt - 1 := kz_subc ev130 (by decide) (by have zr0 := kz_rng j9_L_1; omega) (by have zr0 := kz_rng j9_L_1; omega)
            refine k_isub (v := v130) C ev130 dX1_number_130 ?_
            obtain ⟨v131, ev131⟩ : ∃ z : Int32, j9_C_h_12 v130.toNatClampNeg = z := ⟨_, rfl⟩
            refine k_iald (v := v131) C Wd 4 2 rfl rfl (vp_in_iff.mpr ⟨by omega, by omega⟩) ev131 dX1_number_131 ?_
            obtain ⟨f132, ef132⟩ : ∃ z : Nat → Int32, upd f44 j9_L_2.toNatClampNeg v131 = z := ⟨_, rfl⟩
            refine k_iast C Wd 3 1 [(h, .inr (1, [.ref h_0, .int j9_F_h_1, .ref h_2, .ref h_3, .ref h_4, .ref h_5, .ref h_6, .ref h_7, .ref h_8, .ref h_9, .ref h_10, .ref h_11, .ref h_12, .ref h_13])), (h_0, .inr (8, [.ref h_0_0, .int h_0_1])), (h_0_0, .inl (a_h_0_0, n_h_0_0, .inl f_h_0_0)), (h_13, .inl (a_h_13, 480, .inl f132)), (h_12, .inl (a_h_12, 40, .inl j9_C_h_12)), (h_2, .inl (a_h_2, 40, .inl j9_C_h_2)), (h_3, .inl (a_h_3, 40, .inl j9_C_h_3)), (h_9, .inl (a_h_9, 40, .inl j9_C_h_9)), (h_4, .inl (a_h_4, 40, .inl j9_C_h_4)), (h_5, .inl (a_h_5, 40, .inl j9_C_h_5)), (h_8, .inl (a_h_8, 40, .inl j9_C_h_8)), (h_6, .inl (a_h_6, 40, .inl j9_C_h_6)), (h_7, .inl (a_h_7, 40, .inl j9_C_h_7))] rfl rfl (vp_in_iff.mpr ⟨by omega, by omega⟩) ef132 rfl dX1_number_132 (fun H locs Wd => ?_)
            refine lv_goto (tgt := 229) C.1 C.2.1 dX1_number_133 (by decide) ?_
            exact J229 (j9_L_1, j9_F_h_1, f132, j9_C_h_12, j9_C_h_2, j9_C_h_3, j9_C_h_9, j9_C_h_4, j9_C_h_5, j9_C_h_8, j9_C_h_6, j9_C_h_7) _ _ _ ⟨by omega, by omega, by omega, by omega, by omega, by omega, by omega, by omega, by omega, by omega, by omega, by omega, by omega, q_j9_C_h_4, q_j9_C_h_5, Wd, lv_sub hl [0, 1, 2, 3] rfl⟩
      refine lv_if_eq (tgt := 109) C.1 C.2.1 dX1_number_49 (by decide) (fun c49 => ?_) (fun c49 => ?_)
      · have i49 : r46.toInt = 0 := kz_eq c49
        exact J109 () _ _ _ ⟨by omega, Wd, lv_sub hl [0, 1, 2, 3] rfl⟩
      · have i49 : ¬ r46.toInt = 0 := kz_ne c49
        refine lv_aload_n C.1 C.2.1 dX1_number_52 rfl (lv_at hl 3 rfl) ?_
        refine k_get C Wd KX1 0 1 rfl (by decide) fl_X1_57 rfl dX1_number_53 ?_
        refine lv_bipush (v := 40) C.1 C.2.1 dX1_number_56 (by decide) ?_
        refine lv_icmp_ge (tgt := 109) C.1 C.2.1 dX1_number_58 (by decide) (fun c58 => ?_) (fun c58 => ?_)
        · have i58 : 40 ≤ j9_F_h_1.toInt := kz_le c58
          exact J109 () _ _ _ ⟨by omega, Wd, lv_sub hl [0, 1, 2, 3] rfl⟩
        · have i58 : j9_F_h_1.toInt < 40 := kz_nle c58
          refine lv_aload_n C.1 C.2.1 dX1_number_61 rfl (lv_at hl 3 rfl) ?_
          refine k_get C Wd KX1 0 13 rfl (by decide) fl_X1_54 rfl dX1_number_62 ?_
          refine lv_iload_n C.1 C.2.1 dX1_number_65 rfl (lv_at hl 1 rfl) ?_
          refine lv_aload_n C.1 C.2.1 dX1_number_66 rfl (lv_at hl 3 rfl) ?_
          refine k_get C Wd KX1 0 1 rfl (by decide) fl_X1_57 rfl dX1_number_67 ?_
          obtain ⟨f70, ef70⟩ : ∃ z : Nat → Int32, upd f44 j9_L_2.toNatClampNeg j9_F_h_1 = z := ⟨_, rfl⟩
          refine k_iast C Wd 3 1 [(h, .inr (1, [.ref h_0, .int j9_F_h_1, .ref h_2, .ref h_3, .ref h_4, .ref h_5, .ref h_6, .ref h_7, .ref h_8, .ref h_9, .ref h_10, .ref h_11, .ref h_12, .ref h_13])), (h_0, .inr (8, [.ref h_0_0, .int h_0_1])), (h_0_0, .inl (a_h_0_0, n_h_0_0, .inl f_h_0_0)), (h_13, .inl (a_h_13, 480, .inl f70)), (h_12, .inl (a_h_12, 40, .inl j9_C_h_12)), (h_2, .inl (a_h_2, 40, .inl j9_C_h_2)), (h_3, .inl (a_h_3, 40, .inl j9_C_h_3)), (h_9, .inl (a_h_9, 40, .inl j9_C_h_9)), (h_4, .inl (a_h_4, 40, .inl j9_C_h_4)), (h_5, .inl (a_h_5, 40, .inl j9_C_h_5)), (h_8, .inl (a_h_8, 40, .inl j9_C_h_8)), (h_6, .inl (a_h_6, 40, .inl j9_C_h_6)), (h_7, .inl (a_h_7, 40, .inl j9_C_h_7))] rfl rfl (vp_in_iff.mpr ⟨by omega, by omega⟩) ef70 rfl dX1_number_70 (fun H locs Wd => ?_)
          refine lv_iload_n C.1 C.2.1 dX1_number_71 rfl (lv_at hl 0 rfl) ?_
          refine k_pi (k_runS (rest := []) C aks Wd cs_X1_87 (sX8_isBranch l D r34 _ ) [] rfl (by decide) [] rfl rfl rfl ⟨(Nat.le_of_ble_eq_true rfl), (Nat.le_of_ble_eq_true rfl)⟩ hl.1 rfl rfl (Nat.le_of_ble_eq_true rfl) ⟨(Nat.le_of_ble_eq_true rfl), (Nat.le_of_ble_eq_true rfl)⟩ dX1_number_72) (fun r72 w72 => ?_)
          obtain ⟨g72_0, g72_1⟩ := w72
          have g72_0 : 0 ≤ r72.toInt := g72_0
          have g72_1 : r72.toInt ≤ 1 := g72_1
          refine k_cutA (fun (u : (Int32) × (Nat → Int32)) H locs ls => match u with | (j100_L_1, j100_C_h_12) => 0 ≤ j100_L_1.toInt ∧ j100_L_1.toInt ≤ 40 ∧ j100_L_1.toInt ≤ (n_h_0_0 : Int) ∧ j100_L_1.toInt ≤ h_0_1.toInt ∧ j9_L_1.toInt ≤ j100_L_1.toInt ∧ r72.toInt ≤ j100_L_1.toInt ∧ j100_L_1.toInt ≤ j9_L_1.toInt + 1 ∧ wX D [(a_h_0_0, .int), (a_h_13, .int), (a_h_12, .int), (a_h_2, .int), (a_h_3, .int), (a_h_9, .int), (a_h_4, .int), (a_h_5, .int), (a_h_8, .int), (a_h_6, .int), (a_h_7, .int)] s [(h, .inr (1, [.ref h_0, .int j9_F_h_1, .ref h_2, .ref h_3, .ref h_4, .ref h_5, .ref h_6, .ref h_7, .ref h_8, .ref h_9, .ref h_10, .ref h_11, .ref h_12, .ref h_13])), (h_0, .inr (8, [.ref h_0_0, .int h_0_1])), (h_0_0, .inl (a_h_0_0, n_h_0_0, .inl f_h_0_0)), (h_13, .inl (a_h_13, 480, .inl f70)), (h_12, .inl (a_h_12, 40, .inl j100_C_h_12)), (h_2, .inl (a_h_2, 40, .inl j9_C_h_2)), (h_3, .inl (a_h_3, 40, .inl j9_C_h_3)), (h_9, .inl (a_h_9, 40, .inl j9_C_h_9)), (h_4, .inl (a_h_4, 40, .inl j9_C_h_4)), (h_5, .inl (a_h_5, 40, .inl j9_C_h_5)), (h_8, .inl (a_h_8, 40, .inl j9_C_h_8)), (h_6, .inl (a_h_6, 40, .inl j9_C_h_6)), (h_7, .inl (a_h_7, 40, .inl j9_C_h_7))] H A s.heap locs ∧ lv_has ls 4 [(3, .int r34), (2, .int j9_L_2), (1, .int j100_L_1), (0, .ref h)]) (fun (u : (Int32) × (Nat → Int32)) ls => match u with | (j100_L_1, j100_C_h_12) => F0 m 100 ls []) (fun u H locs ls hi => ?_) (fun J100 => ?_)
          · obtain ⟨j100_L_1, j100_C_h_12⟩ := u
            obtain ⟨i100_0, i100_1, i100_2, i100_3, i100_4, i100_5, i100_6, Wd, hl⟩ := hi
            refine lv_aload_n C.1 C.2.1 dX1_number_100 rfl (lv_at hl 3 rfl) ?_
            refine lv_iload_n C.1 C.2.1 dX1_number_101 rfl (lv_at hl 1 rfl) ?_
            refine lv_iload_n C.1 C.2.1 dX1_number_102 rfl (lv_at hl 0 rfl) ?_
            refine k_cv Wd [0, 5, 6, 7, 8, 9, 10, 11, 12] [1, 2, 3, 4] rfl (wr := [(h_0, .inr (8, [.ref h_0_0, .int h_0_1])), (h_0_0, .inl (a_h_0_0, n_h_0_0, .inl f_h_0_0)), (h_13, .inl (a_h_13, 480, .inl f70)), (h_12, .inl (a_h_12, 40, .inl j100_C_h_12))]) rfl (by decide) (by decide) (cells' := 0) (slots' := 0) (by decide) (by decide) (k_runV (rest := []) C aks Wd cs_X1_90 (sX1_begin l D h j9_L_2 r34 (.ref h_0 : Value) j9_F_h_1 h_2 h_3 h_4 h_5 h_6 h_7 h_8 h_9 h_10 h_11 h_12 h_13 a_h_2 j9_C_h_2 a_h_3 j9_C_h_3 a_h_9 j9_C_h_9 a_h_4 j9_C_h_4 a_h_5 j9_C_h_5 a_h_8 j9_C_h_8 a_h_6 j9_C_h_6 a_h_7 j9_C_h_7 _ (by omega) (by omega) (by omega) (by omega) q_j9_C_h_4 q_j9_C_h_5) [0, 5, 6, 7, 8, 9, 10, 11, 12] rfl (by decide) [3, 4, 5, 6, 7, 8, 9, 10] rfl 0 1 rfl rfl rfl rfl rfl ⟨(Nat.le_of_ble_eq_true rfl), (Nat.le_of_ble_eq_true rfl)⟩ hl.1 rfl rfl (Nat.le_of_ble_eq_true rfl) ⟨(Nat.le_of_ble_eq_true rfl), (Nat.le_of_ble_eq_true rfl)⟩ dX1_number_103) (fun u H locs w103 Wd => ?_)
            obtain ⟨s103_0, s103_1, s103_2, s103_3, s103_4, s103_5, s103_6, s103_7, s103_8⟩ := u
            have Wd : wX D [(a_h_0_0, .int), (a_h_13, .int), (a_h_12, .int), (a_h_2, .int), (a_h_3, .int), (a_h_9, .int), (a_h_4, .int), (a_h_5, .int), (a_h_8, .int), (a_h_6, .int), (a_h_7, .int)] s [(h, .inr (1, [.ref h_0, .int s103_0, .ref h_2, .ref h_3, .ref h_4, .ref h_5, .ref h_6, .ref h_7, .ref h_8, .ref h_9, .ref h_10, .ref h_11, .ref h_12, .ref h_13])), (h_0, .inr (8, [.ref h_0_0, .int h_0_1])), (h_0_0, .inl (a_h_0_0, n_h_0_0, .inl f_h_0_0)), (h_13, .inl (a_h_13, 480, .inl f70)), (h_12, .inl (a_h_12, 40, .inl j100_C_h_12)), (h_2, .inl (a_h_2, 40, .inl s103_1)), (h_3, .inl (a_h_3, 40, .inl s103_2)), (h_9, .inl (a_h_9, 40, .inl s103_3)), (h_4, .inl (a_h_4, 40, .inl s103_4)), (h_5, .inl (a_h_5, 40, .inl s103_5)), (h_8, .inl (a_h_8, 40, .inl s103_6)), (h_6, .inl (a_h_6, 40, .inl s103_7)), (h_7, .inl (a_h_7, 40, .inl s103_8))] _ A s.heap _ := k_sub Wd [4, 0, 1, 2, 3, 5, 6, 7, 8, 9, 10, 11, 12] rfl (by decide) [0, 1, 2, 3, 4, 5, 6, 7, 8, 9, 10] rfl
            obtain ⟨g103_0, g103_1, g103_2, g103_3, q_s103_4, q_s103_5⟩ := w103
            have g103_0 : 1 ≤ s103_0.toInt := g103_0
            have g103_1 : s103_0.toInt ≤ 40 := g103_1
            have g103_2 : j9_F_h_1.toInt ≤ s103_0.toInt := g103_2
            have g103_3 : s103_0.toInt ≤ j9_F_h_1.toInt + 1 := g103_3
            refine lv_goto (tgt := 229) C.1 C.2.1 dX1_number_106 (by decide) ?_
            exact J229 (j100_L_1, s103_0, f70, j100_C_h_12, s103_1, s103_2, s103_3, s103_4, s103_5, s103_6, s103_7, s103_8) _ _ _ ⟨by omega, by omega, by omega, by omega, by omega, by omega, by omega, by omega, by omega, by omega, by omega, by omega, by omega, q_s103_4, q_s103_5, Wd, lv_sub hl [0, 1, 2, 3] rfl⟩
          refine lv_if_eq (tgt := 100) C.1 C.2.1 dX1_number_75 (by decide) (fun c75 => ?_) (fun c75 => ?_)
          · have i75 : r72.toInt = 0 := kz_eq c75
            exact J100 (j9_L_1, j9_C_h_12) _ _ _ ⟨by omega, by omega, by omega, by omega, by omega, by omega, by omega, Wd, lv_sub hl [0, 1, 2, 3] rfl⟩
          · have i75 : ¬ r72.toInt = 0 := kz_ne c75
            refine lv_iload_n C.1 C.2.1 dX1_number_78 rfl (lv_at hl 2 rfl) ?_
            refine lv_aload_n C.1 C.2.1 dX1_number_79 rfl (lv_at hl 3 rfl) ?_
            refine k_get C Wd KX1 0 12 rfl (by decide) fl_X1_51 rfl dX1_number_80 ?_
            refine k_alen (v := 40) C Wd 4 2 rfl rfl rfl dX1_number_83 ?_
            refine lv_icmp_ge (tgt := 100) C.1 C.2.1 dX1_number_84 (by decide) (fun c84 => ?_) (fun c84 => ?_)
            · have i84 : 40 ≤ j9_L_1.toInt := kz_le c84
              exact J100 (j9_L_1, j9_C_h_12) _ _ _ ⟨by omega, by omega, by omega, by omega, by omega, by omega, by omega, Wd, lv_sub hl [0, 1, 2, 3] rfl⟩
            · have i84 : j9_L_1.toInt < 40 := kz_nle c84
              refine lv_aload_n C.1 C.2.1 dX1_number_87 rfl (lv_at hl 3 rfl) ?_
              refine k_get C Wd KX1 0 12 rfl (by decide) fl_X1_51 rfl dX1_number_88 ?_
              refine lv_iload_n C.1 C.2.1 dX1_number_91 rfl (lv_at hl 2 rfl) ?_
              refine lv_aload_n C.1 C.2.1 dX1_number_92 rfl (lv_at hl 3 rfl) ?_
              refine k_get C Wd KX1 0 1 rfl (by decide) fl_X1_57 rfl dX1_number_93 ?_
              obtain ⟨f96, ef96⟩ : ∃ z : Nat → Int32, upd j9_C_h_12 j9_L_1.toNatClampNeg j9_F_h_1 = z := ⟨_, rfl⟩
              refine k_iast C Wd 4 2 [(h, .inr (1, [.ref h_0, .int j9_F_h_1, .ref h_2, .ref h_3, .ref h_4, .ref h_5, .ref h_6, .ref h_7, .ref h_8, .ref h_9, .ref h_10, .ref h_11, .ref h_12, .ref h_13])), (h_0, .inr (8, [.ref h_0_0, .int h_0_1])), (h_0_0, .inl (a_h_0_0, n_h_0_0, .inl f_h_0_0)), (h_13, .inl (a_h_13, 480, .inl f70)), (h_12, .inl (a_h_12, 40, .inl f96)), (h_2, .inl (a_h_2, 40, .inl j9_C_h_2)), (h_3, .inl (a_h_3, 40, .inl j9_C_h_3)), (h_9, .inl (a_h_9, 40, .inl j9_C_h_9)), (h_4, .inl (a_h_4, 40, .inl j9_C_h_4)), (h_5, .inl (a_h_5, 40, .inl j9_C_h_5)), (h_8, .inl (a_h_8, 40, .inl j9_C_h_8)), (h_6, .inl (a_h_6, 40, .inl j9_C_h_6)), (h_7, .inl (a_h_7, 40, .inl j9_C_h_7))] rfl rfl (vp_in_iff.mpr ⟨by omega, by omega⟩) ef96 rfl dX1_number_96 (fun H locs Wd => ?_)
              obtain ⟨v97, ev97⟩ : ∃ z : Int32, j9_L_1 + 1 = z := ⟨_, rfl⟩
              have iv97 : v97.toInt = j9_L_1.toInt + 1 := kz_addc ev97 (by decide) (by have zr0 := kz_rng j9_L_1; omega) (by have zr0 := kz_rng j9_L_1; omega)
              refine lv_iinc (v := v97) (lv' := [(1, .int v97), (3, .int r34), (2, .int j9_L_2), (0, .ref h)]) C.1 C.2.1 dX1_number_97 hl (k := 2) rfl ev97 (by decide) rfl (fun ls hl => ?_)
              exact J100 (v97, f96) _ _ _ ⟨by omega, by omega, by omega, by omega, by omega, by omega, by omega, Wd, lv_sub hl [1, 2, 0, 3] rfl⟩
set_option maxHeartbeats 4000000 in
set_option maxRecDepth 100000 in
theorem sX1_linkAt (l : Launch) (D : va_G) (h : Nat) (x0 : Int32) (x1 : Int32) (x2 : Int32) (h_0 : Value) (h_1 : Int32) (h_2 : Nat) (h_3 : Nat) (h_4 : Nat) (h_5 : Nat) (h_6 : Nat) (h_7 : Nat) (h_8 : Nat) (h_9 : Nat) (h_10 : Nat) (h_11 : Nat) (h_12 : Nat) (h_13 : Nat) (a_h_6 : ClassId) (f_h_6 : Nat → Int32) (a_h_7 : ClassId) (f_h_7 : Nat → Int32) (a_h_11 : ClassId) (f_h_11 : Nat → Int32) (a_h_3 : ClassId) (f_h_3 : Nat → Int32) (sz : Nat) (k_h_1_lo : 0 ≤ h_1.toInt) (k_h_1_hi : h_1.toInt ≤ 40)  : Met l yX1_linkAt (Cond.code yX1_linkAt cX1_linkAt 4 (some .int) :: gG) { frames := 2, cells := 0, slots := 0, locals := 85 } (cPre D [(a_h_6, .int), (a_h_7, .int), (a_h_11, .int), (a_h_3, .int)] [(h, .inr (1, [h_0, .int h_1, .ref h_2, .ref h_3, .ref h_4, .ref h_5, .ref h_6, .ref h_7, .ref h_8, .ref h_9, .ref h_10, .ref h_11, .ref h_12, .ref h_13])), (h_6, .inl (a_h_6, 40, .inl f_h_6)), (h_7, .inl (a_h_7, 40, .inl f_h_7)), (h_11, .inl (a_h_11, 40, .inl f_h_11)), (h_3, .inl (a_h_3, 40, .inl f_h_3))] sz [.ref h, .int x0, .int x1, .int x2]) (va_Qi (fun (r : Int32) (u : (Nat → Int32) × (Nat → Int32) × (Nat → Int32)) => match u with | (jX_C_h_7, jX_C_h_11, jX_C_h_6) => True) (fun u t => cB D (va_A [(h, .inr (1, [h_0, .int h_1, .ref h_2, .ref h_3, .ref h_4, .ref h_5, .ref h_6, .ref h_7, .ref h_8, .ref h_9, .ref h_10, .ref h_11, .ref h_12, .ref h_13])), (h_6, .inl (a_h_6, 40, .inl f_h_6)), (h_7, .inl (a_h_7, 40, .inl f_h_7)), (h_11, .inl (a_h_11, 40, .inl f_h_11)), (h_3, .inl (a_h_3, 40, .inl f_h_3))] sz) ((fun (_ : (Nat → Int32) × (Nat → Int32) × (Nat → Int32)) => ([] : List (ClassId × FieldType))) u) ((fun (u : (Nat → Int32) × (Nat → Int32) × (Nat → Int32)) => match u with | (jX_C_h_7, jX_C_h_11, jX_C_h_6) => ([(h, .inr (1, [h_0, .int h_1, .ref h_2, .ref h_3, .ref h_4, .ref h_5, .ref h_6, .ref h_7, .ref h_8, .ref h_9, .ref h_10, .ref h_11, .ref h_12, .ref h_13])), (h_6, .inl (a_h_6, 40, .inl jX_C_h_6)), (h_7, .inl (a_h_7, 40, .inl jX_C_h_7)), (h_11, .inl (a_h_11, 40, .inl jX_C_h_11)), (h_3, .inl (a_h_3, 40, .inl f_h_3))] : va_W)) u) t) (va_A [(h, .inr (1, [h_0, .int h_1, .ref h_2, .ref h_3, .ref h_4, .ref h_5, .ref h_6, .ref h_7, .ref h_8, .ref h_9, .ref h_10, .ref h_11, .ref h_12, .ref h_13])), (h_6, .inl (a_h_6, 40, .inl f_h_6)), (h_7, .inl (a_h_7, 40, .inl f_h_7)), (h_11, .inl (a_h_11, 40, .inl f_h_11)), (h_3, .inl (a_h_3, 40, .inl f_h_3))] sz)) 0 0 (va_A [(h, .inr (1, [h_0, .int h_1, .ref h_2, .ref h_3, .ref h_4, .ref h_5, .ref h_6, .ref h_7, .ref h_8, .ref h_9, .ref h_10, .ref h_11, .ref h_12, .ref h_13])), (h_6, .inl (a_h_6, 40, .inl f_h_6)), (h_7, .inl (a_h_7, 40, .inl f_h_7)), (h_11, .inl (a_h_11, 40, .inl f_h_11)), (h_3, .inl (a_h_3, 40, .inl f_h_3))] sz) := by
  refine Met.ofW (cc := cX1_linkAt) (maxL := 4) (ret := (some .int)) (by decide) rfl ?_
  intro p e s m args below meth c s₁ B hml hv
  obtain ⟨rfl, aks, rfl, Wd⟩ := k_enter hv
  have C : CallFix p m c cX1_linkAt 4 s _ gG RX1 := ⟨B.exec, B.bytes, hml, findClass_of_methodNamed B.named, fun w h => atoms_spec (ws := Cond.code yX1_linkAt cX1_linkAt 4 (some .int) :: gG) B.pre w (List.mem_cons_of_mem _ h)⟩
  have hr := B.returns
  have hlk := B.notSynchronized
  generalize va_A [(h, .inr (1, [h_0, .int h_1, .ref h_2, .ref h_3, .ref h_4, .ref h_5, .ref h_6, .ref h_7, .ref h_8, .ref h_9, .ref h_10, .ref h_11, .ref h_12, .ref h_13])), (h_6, .inl (a_h_6, 40, .inl f_h_6)), (h_7, .inl (a_h_7, 40, .inl f_h_7)), (h_11, .inl (a_h_11, 40, .inl f_h_11)), (h_3, .inl (a_h_3, 40, .inl f_h_3))] s.heap.size = A at Wd ⊢
  refine k_locals (Nat.le_of_ble_eq_true rfl) [(0, .ref h), (1, .int x0), (2, .int x1), (3, .int x2)] rfl (fun ls hl => ?_)
  refine lv_aload_n C.1 C.2.1 dX1_linkAt_0 rfl (lv_at hl 0 rfl) ?_
  refine lv_iload_n C.1 C.2.1 dX1_linkAt_1 rfl (lv_at hl 2 rfl) ?_
  refine k_pi (k_runV (rest := []) C aks Wd cs_X1_70 (sX1_isHere l D h x1 (h_0 : Value) h_1 h_2 h_3 h_4 h_5 h_6 h_7 h_8 h_9 h_10 h_11 h_12 h_13 _ (by omega) (by omega)) [0] rfl (by decide) [] rfl 0 1 rfl rfl rfl rfl rfl ⟨(Nat.le_of_ble_eq_true rfl), (Nat.le_of_ble_eq_true rfl)⟩ hl.1 rfl rfl (Nat.le_of_ble_eq_true rfl) ⟨(Nat.le_of_ble_eq_true rfl), (Nat.le_of_ble_eq_true rfl)⟩ dX1_linkAt_2) (fun r2 w2 => ?_)
  rcases w2 with rfl | ⟨g2_1_0, g2_1_1, g2_1_2, g2_1_3, rfl⟩
  · refine lv_if_ne (tgt := 10) C.1 C.2.1 dX1_linkAt_5 (by decide) (fun c5 => absurd c5 (by decide)) (fun _ => ?_)
    refine lv_iload_n C.1 C.2.1 dX1_linkAt_8 rfl (lv_at hl 3 rfl) ?_
    exact k_zret C hr hlk rfl Wd (f_h_7, f_h_11, f_h_6) trivial [0, 1, 2, 3, 4] rfl (by decide) [] rfl (by decide) (by decide) dX1_linkAt_9
  · have g2_1_0 : 0 ≤ x1.toInt := g2_1_0
    have g2_1_1 : 1 ≤ h_1.toInt := g2_1_1
    have g2_1_2 : x1.toInt ≤ 39 := g2_1_2
    have g2_1_3 : x1.toInt + 1 ≤ h_1.toInt := g2_1_3
    refine lv_if_ne (tgt := 10) C.1 C.2.1 dX1_linkAt_5 (by decide) (fun _ => ?_) (fun c5 => absurd c5 (by decide))
    refine lv_iload_n C.1 C.2.1 dX1_linkAt_10 rfl (lv_at hl 1 rfl) ?_
    refine lv_bipush (v := 114) C.1 C.2.1 dX1_linkAt_11 (by decide) ?_
    refine lv_icmp_ne (tgt := 40) C.1 C.2.1 dX1_linkAt_13 (by decide) (fun c13 => ?_) (fun c13 => ?_)
    · have i13 : ¬ x0.toInt = 114 := kz_ne c13
      refine lv_iload_n C.1 C.2.1 dX1_linkAt_40 rfl (lv_at hl 1 rfl) ?_
      refine lv_bipush (v := 113) C.1 C.2.1 dX1_linkAt_41 (by decide) ?_
      refine lv_icmp_ne (tgt := 60) C.1 C.2.1 dX1_linkAt_43 (by decide) (fun c43 => ?_) (fun c43 => ?_)
      · have i43 : ¬ x0.toInt = 113 := kz_ne c43
        refine lv_iload_n C.1 C.2.1 dX1_linkAt_60 rfl (lv_at hl 1 rfl) ?_
        refine lv_bipush (v := 111) C.1 C.2.1 dX1_linkAt_61 (by decide) ?_
        refine k_cutA (fun (j73_C_h_6 : Nat → Int32) H locs ls => wX D [(a_h_6, .int), (a_h_7, .int), (a_h_11, .int), (a_h_3, .int)] s [(h, .inr (1, [h_0, .int h_1, .ref h_2, .ref h_3, .ref h_4, .ref h_5, .ref h_6, .ref h_7, .ref h_8, .ref h_9, .ref h_10, .ref h_11, .ref h_12, .ref h_13])), (h_6, .inl (a_h_6, 40, .inl j73_C_h_6)), (h_7, .inl (a_h_7, 40, .inl f_h_7)), (h_11, .inl (a_h_11, 40, .inl f_h_11)), (h_3, .inl (a_h_3, 40, .inl f_h_3))] H A s.heap locs ∧ lv_has ls 4 [(0, .ref h), (1, .int x0), (2, .int x1), (3, .int x2)]) (fun (j73_C_h_6 : Nat → Int32) ls => F0 m 73 ls []) (fun j73_C_h_6 H locs ls hi => ?_) (fun J73 => ?_)
        · obtain ⟨Wd, hl⟩ := hi
          refine lv_iload_n C.1 C.2.1 dX1_linkAt_73 rfl (lv_at hl 1 rfl) ?_
          refine lv_bipush (v := 115) C.1 C.2.1 dX1_linkAt_74 (by decide) ?_
          refine k_cutA (fun (j91_C_h_7 : Nat → Int32) H locs ls => wX D [(a_h_6, .int), (a_h_7, .int), (a_h_11, .int), (a_h_3, .int)] s [(h, .inr (1, [h_0, .int h_1, .ref h_2, .ref h_3, .ref h_4, .ref h_5, .ref h_6, .ref h_7, .ref h_8, .ref h_9, .ref h_10, .ref h_11, .ref h_12, .ref h_13])), (h_6, .inl (a_h_6, 40, .inl j73_C_h_6)), (h_7, .inl (a_h_7, 40, .inl j91_C_h_7)), (h_11, .inl (a_h_11, 40, .inl f_h_11)), (h_3, .inl (a_h_3, 40, .inl f_h_3))] H A s.heap locs ∧ lv_has ls 4 [(0, .ref h), (1, .int x0), (2, .int x1), (3, .int x2)]) (fun (j91_C_h_7 : Nat → Int32) ls => F0 m 91 ls []) (fun j91_C_h_7 H locs ls hi => ?_) (fun J91 => ?_)
          · obtain ⟨Wd, hl⟩ := hi
            refine lv_iload_n C.1 C.2.1 dX1_linkAt_91 rfl (lv_at hl 2 rfl) ?_
            exact k_zret C hr hlk rfl Wd (j91_C_h_7, f_h_11, j73_C_h_6) trivial [0, 1, 2, 3, 4] rfl (by decide) [] rfl (by decide) (by decide) dX1_linkAt_92
          refine lv_icmp_ne (tgt := 91) C.1 C.2.1 dX1_linkAt_76 (by decide) (fun c76 => ?_) (fun c76 => ?_)
          · have i76 : ¬ x0.toInt = 115 := kz_ne c76
            exact J91 f_h_7 _ _ _ ⟨Wd, lv_sub hl [0, 1, 2, 3] rfl⟩
          · have i76 : x0.toInt = 115 := kz_eq c76
            refine lv_aload_n C.1 C.2.1 dX1_linkAt_79 rfl (lv_at hl 0 rfl) ?_
            refine k_get C Wd KX1 0 7 rfl (by decide) fl_X1_36 rfl dX1_linkAt_80 ?_
            refine lv_iload_n C.1 C.2.1 dX1_linkAt_83 rfl (lv_at hl 2 rfl) ?_
            refine lv_aload_n C.1 C.2.1 dX1_linkAt_84 rfl (lv_at hl 0 rfl) ?_
            refine k_get C Wd KX1 0 11 rfl (by decide) fl_X1_48 rfl dX1_linkAt_85 ?_
            refine lv_iload_n C.1 C.2.1 dX1_linkAt_88 rfl (lv_at hl 2 rfl) ?_
            obtain ⟨v89, ev89⟩ : ∃ z : Int32, f_h_11 x1.toNatClampNeg = z := ⟨_, rfl⟩
            refine k_iald (v := v89) C Wd 3 2 rfl rfl (vp_in_iff.mpr ⟨by omega, by omega⟩) ev89 dX1_linkAt_89 ?_
            obtain ⟨f90, ef90⟩ : ∃ z : Nat → Int32, upd f_h_7 x1.toNatClampNeg v89 = z := ⟨_, rfl⟩
            refine k_iast C Wd 2 1 [(h, .inr (1, [h_0, .int h_1, .ref h_2, .ref h_3, .ref h_4, .ref h_5, .ref h_6, .ref h_7, .ref h_8, .ref h_9, .ref h_10, .ref h_11, .ref h_12, .ref h_13])), (h_6, .inl (a_h_6, 40, .inl j73_C_h_6)), (h_7, .inl (a_h_7, 40, .inl f90)), (h_11, .inl (a_h_11, 40, .inl f_h_11)), (h_3, .inl (a_h_3, 40, .inl f_h_3))] rfl rfl (vp_in_iff.mpr ⟨by omega, by omega⟩) ef90 rfl dX1_linkAt_90 (fun H locs Wd => ?_)
            exact J91 f90 _ _ _ ⟨Wd, lv_sub hl [0, 1, 2, 3] rfl⟩
        refine lv_icmp_eq (tgt := 73) C.1 C.2.1 dX1_linkAt_63 (by decide) (fun c63 => ?_) (fun c63 => ?_)
        · have i63 : x0.toInt = 111 := kz_eq c63
          exact J73 f_h_6 _ _ _ ⟨Wd, lv_sub hl [0, 1, 2, 3] rfl⟩
        · have i63 : ¬ x0.toInt = 111 := kz_ne c63
          refine lv_aload_n C.1 C.2.1 dX1_linkAt_66 rfl (lv_at hl 0 rfl) ?_
          refine k_get C Wd KX1 0 6 rfl (by decide) fl_X1_33 rfl dX1_linkAt_67 ?_
          refine lv_iload_n C.1 C.2.1 dX1_linkAt_70 rfl (lv_at hl 2 rfl) ?_
          refine lv_iload_n C.1 C.2.1 dX1_linkAt_71 rfl (lv_at hl 3 rfl) ?_
          obtain ⟨f72, ef72⟩ : ∃ z : Nat → Int32, upd f_h_6 x1.toNatClampNeg x2 = z := ⟨_, rfl⟩
          refine k_iast C Wd 1 0 [(h, .inr (1, [h_0, .int h_1, .ref h_2, .ref h_3, .ref h_4, .ref h_5, .ref h_6, .ref h_7, .ref h_8, .ref h_9, .ref h_10, .ref h_11, .ref h_12, .ref h_13])), (h_6, .inl (a_h_6, 40, .inl f72)), (h_7, .inl (a_h_7, 40, .inl f_h_7)), (h_11, .inl (a_h_11, 40, .inl f_h_11)), (h_3, .inl (a_h_3, 40, .inl f_h_3))] rfl rfl (vp_in_iff.mpr ⟨by omega, by omega⟩) ef72 rfl dX1_linkAt_72 (fun H locs Wd => ?_)
          exact J73 f72 _ _ _ ⟨Wd, lv_sub hl [0, 1, 2, 3] rfl⟩
      · have i43 : x0.toInt = 113 := kz_eq c43
        refine lv_aload_n C.1 C.2.1 dX1_linkAt_46 rfl (lv_at hl 0 rfl) ?_
        refine k_get C Wd KX1 0 7 rfl (by decide) fl_X1_36 rfl dX1_linkAt_47 ?_
        refine lv_iload_n C.1 C.2.1 dX1_linkAt_50 rfl (lv_at hl 2 rfl) ?_
        refine lv_iload_n C.1 C.2.1 dX1_linkAt_51 rfl (lv_at hl 3 rfl) ?_
        obtain ⟨f52, ef52⟩ : ∃ z : Nat → Int32, upd f_h_7 x1.toNatClampNeg x2 = z := ⟨_, rfl⟩
        refine k_iast C Wd 2 1 [(h, .inr (1, [h_0, .int h_1, .ref h_2, .ref h_3, .ref h_4, .ref h_5, .ref h_6, .ref h_7, .ref h_8, .ref h_9, .ref h_10, .ref h_11, .ref h_12, .ref h_13])), (h_6, .inl (a_h_6, 40, .inl f_h_6)), (h_7, .inl (a_h_7, 40, .inl f52)), (h_11, .inl (a_h_11, 40, .inl f_h_11)), (h_3, .inl (a_h_3, 40, .inl f_h_3))] rfl rfl (vp_in_iff.mpr ⟨by omega, by omega⟩) ef52 rfl dX1_linkAt_52 (fun H locs Wd => ?_)
        refine lv_aload_n C.1 C.2.1 dX1_linkAt_53 rfl (lv_at hl 0 rfl) ?_
        refine k_get C Wd KX1 0 11 rfl (by decide) fl_X1_48 rfl dX1_linkAt_54 ?_
        refine lv_iload_n C.1 C.2.1 dX1_linkAt_57 rfl (lv_at hl 2 rfl) ?_
        obtain ⟨v58, ev58⟩ : ∃ z : Int32, f_h_11 x1.toNatClampNeg = z := ⟨_, rfl⟩
        refine k_iald (v := v58) C Wd 3 2 rfl rfl (vp_in_iff.mpr ⟨by omega, by omega⟩) ev58 dX1_linkAt_58 ?_
        exact k_zret C hr hlk rfl Wd (f52, f_h_11, f_h_6) trivial [0, 1, 2, 3, 4] rfl (by decide) [] rfl (by decide) (by decide) dX1_linkAt_59
    · have i13 : x0.toInt = 114 := kz_eq c13
      refine lv_aload_n C.1 C.2.1 dX1_linkAt_16 rfl (lv_at hl 0 rfl) ?_
      refine k_get C Wd KX1 0 11 rfl (by decide) fl_X1_48 rfl dX1_linkAt_17 ?_
      refine lv_iload_n C.1 C.2.1 dX1_linkAt_20 rfl (lv_at hl 2 rfl) ?_
      refine lv_iload_n C.1 C.2.1 dX1_linkAt_21 rfl (lv_at hl 3 rfl) ?_
      obtain ⟨f22, ef22⟩ : ∃ z : Nat → Int32, upd f_h_11 x1.toNatClampNeg x2 = z := ⟨_, rfl⟩
      refine k_iast C Wd 3 2 [(h, .inr (1, [h_0, .int h_1, .ref h_2, .ref h_3, .ref h_4, .ref h_5, .ref h_6, .ref h_7, .ref h_8, .ref h_9, .ref h_10, .ref h_11, .ref h_12, .ref h_13])), (h_6, .inl (a_h_6, 40, .inl f_h_6)), (h_7, .inl (a_h_7, 40, .inl f_h_7)), (h_11, .inl (a_h_11, 40, .inl f22)), (h_3, .inl (a_h_3, 40, .inl f_h_3))] rfl rfl (vp_in_iff.mpr ⟨by omega, by omega⟩) ef22 rfl dX1_linkAt_22 (fun H locs Wd => ?_)
      refine lv_aload_n C.1 C.2.1 dX1_linkAt_23 rfl (lv_at hl 0 rfl) ?_
      refine k_get C Wd KX1 0 3 rfl (by decide) fl_X1_24 rfl dX1_linkAt_24 ?_
      refine lv_iload_n C.1 C.2.1 dX1_linkAt_27 rfl (lv_at hl 2 rfl) ?_
      obtain ⟨v28, ev28⟩ : ∃ z : Int32, f_h_3 x1.toNatClampNeg = z := ⟨_, rfl⟩
      refine k_iald (v := v28) C Wd 4 3 rfl rfl (vp_in_iff.mpr ⟨by omega, by omega⟩) ev28 dX1_linkAt_28 ?_
      refine lv_bipush (v := 115) C.1 C.2.1 dX1_linkAt_29 (by decide) ?_
      refine k_cutA (fun (j39_S_0 : Int32) H locs ls => wX D [(a_h_6, .int), (a_h_7, .int), (a_h_11, .int), (a_h_3, .int)] s [(h, .inr (1, [h_0, .int h_1, .ref h_2, .ref h_3, .ref h_4, .ref h_5, .ref h_6, .ref h_7, .ref h_8, .ref h_9, .ref h_10, .ref h_11, .ref h_12, .ref h_13])), (h_6, .inl (a_h_6, 40, .inl f_h_6)), (h_7, .inl (a_h_7, 40, .inl f_h_7)), (h_11, .inl (a_h_11, 40, .inl f22)), (h_3, .inl (a_h_3, 40, .inl f_h_3))] H A s.heap locs ∧ lv_has ls 4 [(0, .ref h), (1, .int x0), (2, .int x1), (3, .int x2)]) (fun (j39_S_0 : Int32) ls => F0 m 39 ls [.int j39_S_0]) (fun j39_S_0 H locs ls hi => ?_) (fun J39 => ?_)
      · obtain ⟨Wd, hl⟩ := hi
        exact k_zret C hr hlk rfl Wd (f_h_7, f22, f_h_6) trivial [0, 1, 2, 3, 4] rfl (by decide) [] rfl (by decide) (by decide) dX1_linkAt_39
      refine lv_icmp_ne (tgt := 38) C.1 C.2.1 dX1_linkAt_31 (by decide) (fun c31 => ?_) (fun c31 => ?_)
      · have i31 : ¬ v28.toInt = 115 := kz_ne c31
        refine lv_iload_n C.1 C.2.1 dX1_linkAt_38 rfl (lv_at hl 3 rfl) ?_
        exact J39 x2 _ _ _ ⟨Wd, lv_sub hl [0, 1, 2, 3] rfl⟩
      · have i31 : v28.toInt = 115 := kz_eq c31
        refine lv_iload_n C.1 C.2.1 dX1_linkAt_34 rfl (lv_at hl 2 rfl) ?_
        refine lv_goto (tgt := 39) C.1 C.2.1 dX1_linkAt_35 (by decide) ?_
        exact J39 x1 _ _ _ ⟨Wd, lv_sub hl [0, 1, 2, 3] rfl⟩
set_option maxHeartbeats 4000000 in
set_option maxRecDepth 100000 in
theorem sX1_link (l : Launch) (D : va_G) (h : Nat) (h_0 : Nat) (h_1 : Int32) (h_2 : Nat) (h_3 : Nat) (h_4 : Nat) (h_5 : Nat) (h_6 : Nat) (h_7 : Nat) (h_8 : Nat) (h_9 : Nat) (h_10 : Nat) (h_11 : Nat) (h_12 : Nat) (h_13 : Nat) (h_0_0 : Nat) (h_0_1 : Int32) (n_h_0_0 : Nat) (a_h_0_0 : ClassId) (f_h_0_0 : Nat → Int32) (a_h_13 : ClassId) (f_h_13 : Nat → Int32) (a_h_6 : ClassId) (f_h_6 : Nat → Int32) (a_h_7 : ClassId) (f_h_7 : Nat → Int32) (a_h_11 : ClassId) (f_h_11 : Nat → Int32) (a_h_3 : ClassId) (f_h_3 : Nat → Int32) (sz : Nat) (k_h_1_lo : 0 ≤ h_1.toInt) (k_h_1_hi : h_1.toInt ≤ 40) (k_h_0_1_lo : 0 ≤ h_0_1.toInt) (k_n_h_0_0 : n_h_0_0 ≤ 1000) (k_p_h_0_0 : 1 ≤ n_h_0_0) (k_h_0_1_hi : h_0_1.toInt ≤ (n_h_0_0 : Int))  : Met l yX1_link (Cond.code yX1_link cX1_link 4 none :: gG) { frames := 3, cells := 0, slots := 0, locals := 108 } (cPre D [(a_h_0_0, .int), (a_h_13, .int), (a_h_6, .int), (a_h_7, .int), (a_h_11, .int), (a_h_3, .int)] [(h, .inr (1, [.ref h_0, .int h_1, .ref h_2, .ref h_3, .ref h_4, .ref h_5, .ref h_6, .ref h_7, .ref h_8, .ref h_9, .ref h_10, .ref h_11, .ref h_12, .ref h_13])), (h_0, .inr (8, [.ref h_0_0, .int h_0_1])), (h_0_0, .inl (a_h_0_0, n_h_0_0, .inl f_h_0_0)), (h_13, .inl (a_h_13, 480, .inl f_h_13)), (h_6, .inl (a_h_6, 40, .inl f_h_6)), (h_7, .inl (a_h_7, 40, .inl f_h_7)), (h_11, .inl (a_h_11, 40, .inl f_h_11)), (h_3, .inl (a_h_3, 40, .inl f_h_3))] sz [.ref h]) (va_Qv (fun (u : (Nat → Int32) × (Nat → Int32) × (Nat → Int32)) => match u with | (jX_C_h_6, jX_C_h_7, jX_C_h_11) => True) (fun u t => cB D (va_A [(h, .inr (1, [.ref h_0, .int h_1, .ref h_2, .ref h_3, .ref h_4, .ref h_5, .ref h_6, .ref h_7, .ref h_8, .ref h_9, .ref h_10, .ref h_11, .ref h_12, .ref h_13])), (h_0, .inr (8, [.ref h_0_0, .int h_0_1])), (h_0_0, .inl (a_h_0_0, n_h_0_0, .inl f_h_0_0)), (h_13, .inl (a_h_13, 480, .inl f_h_13)), (h_6, .inl (a_h_6, 40, .inl f_h_6)), (h_7, .inl (a_h_7, 40, .inl f_h_7)), (h_11, .inl (a_h_11, 40, .inl f_h_11)), (h_3, .inl (a_h_3, 40, .inl f_h_3))] sz) ((fun (_ : (Nat → Int32) × (Nat → Int32) × (Nat → Int32)) => ([] : List (ClassId × FieldType))) u) ((fun (u : (Nat → Int32) × (Nat → Int32) × (Nat → Int32)) => match u with | (jX_C_h_6, jX_C_h_7, jX_C_h_11) => ([(h, .inr (1, [.ref h_0, .int h_1, .ref h_2, .ref h_3, .ref h_4, .ref h_5, .ref h_6, .ref h_7, .ref h_8, .ref h_9, .ref h_10, .ref h_11, .ref h_12, .ref h_13])), (h_0, .inr (8, [.ref h_0_0, .int h_0_1])), (h_0_0, .inl (a_h_0_0, n_h_0_0, .inl f_h_0_0)), (h_13, .inl (a_h_13, 480, .inl f_h_13)), (h_6, .inl (a_h_6, 40, .inl jX_C_h_6)), (h_7, .inl (a_h_7, 40, .inl jX_C_h_7)), (h_11, .inl (a_h_11, 40, .inl jX_C_h_11)), (h_3, .inl (a_h_3, 40, .inl f_h_3))] : va_W)) u) t) (va_A [(h, .inr (1, [.ref h_0, .int h_1, .ref h_2, .ref h_3, .ref h_4, .ref h_5, .ref h_6, .ref h_7, .ref h_8, .ref h_9, .ref h_10, .ref h_11, .ref h_12, .ref h_13])), (h_0, .inr (8, [.ref h_0_0, .int h_0_1])), (h_0_0, .inl (a_h_0_0, n_h_0_0, .inl f_h_0_0)), (h_13, .inl (a_h_13, 480, .inl f_h_13)), (h_6, .inl (a_h_6, 40, .inl f_h_6)), (h_7, .inl (a_h_7, 40, .inl f_h_7)), (h_11, .inl (a_h_11, 40, .inl f_h_11)), (h_3, .inl (a_h_3, 40, .inl f_h_3))] sz)) 0 0 (va_A [(h, .inr (1, [.ref h_0, .int h_1, .ref h_2, .ref h_3, .ref h_4, .ref h_5, .ref h_6, .ref h_7, .ref h_8, .ref h_9, .ref h_10, .ref h_11, .ref h_12, .ref h_13])), (h_0, .inr (8, [.ref h_0_0, .int h_0_1])), (h_0_0, .inl (a_h_0_0, n_h_0_0, .inl f_h_0_0)), (h_13, .inl (a_h_13, 480, .inl f_h_13)), (h_6, .inl (a_h_6, 40, .inl f_h_6)), (h_7, .inl (a_h_7, 40, .inl f_h_7)), (h_11, .inl (a_h_11, 40, .inl f_h_11)), (h_3, .inl (a_h_3, 40, .inl f_h_3))] sz) := by
  refine Met.ofW (cc := cX1_link) (maxL := 4) (ret := none) (by decide) rfl ?_
  intro p e s m args below meth c s₁ B hml hv
  obtain ⟨rfl, aks, rfl, Wd⟩ := k_enter hv
  have C : CallFix p m c cX1_link 4 s _ gG RX1 := ⟨B.exec, B.bytes, hml, findClass_of_methodNamed B.named, fun w h => atoms_spec (ws := Cond.code yX1_link cX1_link 4 none :: gG) B.pre w (List.mem_cons_of_mem _ h)⟩
  have hr := B.returns
  have hlk := B.notSynchronized
  generalize va_A [(h, .inr (1, [.ref h_0, .int h_1, .ref h_2, .ref h_3, .ref h_4, .ref h_5, .ref h_6, .ref h_7, .ref h_8, .ref h_9, .ref h_10, .ref h_11, .ref h_12, .ref h_13])), (h_0, .inr (8, [.ref h_0_0, .int h_0_1])), (h_0_0, .inl (a_h_0_0, n_h_0_0, .inl f_h_0_0)), (h_13, .inl (a_h_13, 480, .inl f_h_13)), (h_6, .inl (a_h_6, 40, .inl f_h_6)), (h_7, .inl (a_h_7, 40, .inl f_h_7)), (h_11, .inl (a_h_11, 40, .inl f_h_11)), (h_3, .inl (a_h_3, 40, .inl f_h_3))] s.heap.size = A at Wd ⊢
  refine k_locals (Nat.le_of_ble_eq_true rfl) [(0, .ref h)] rfl (fun ls hl => ?_)
  refine lv_iconst (v := (-1)) C.1 C.2.1 dX1_link_0 (by decide) ?_
  refine lv_istore_n (lv' := [(1, .int (-1)), (0, .ref h)]) C.1 C.2.1 dX1_link_1 rfl hl (by decide) rfl (fun ls hl => ?_)
  refine lv_aload_n C.1 C.2.1 dX1_link_2 rfl (lv_at hl 1 rfl) ?_
  refine k_get C Wd KX1 0 0 rfl (by decide) fl_X1_14 rfl dX1_link_3 ?_
  refine k_get C Wd KX8 1 1 rfl (by decide) fl_X1_78 rfl dX1_link_6 ?_
  refine lv_aload_n C.1 C.2.1 dX1_link_9 rfl (lv_at hl 1 rfl) ?_
  refine k_get C Wd KX1 0 13 rfl (by decide) fl_X1_54 rfl dX1_link_10 ?_
  refine k_alen (v := 480) C Wd 3 1 rfl rfl rfl dX1_link_13 ?_
  obtain ⟨v14, ev14⟩ : ∃ z : Int32, (if 480 < h_0_1 then 480 else h_0_1) = z := ⟨_, rfl⟩
  have iv14 : v14.toInt ≤ h_0_1.toInt ∧ v14.toInt ≤ 480 ∧ (v14.toInt = h_0_1.toInt ∨ v14.toInt = 480) := kz_min ev14
  refine k_mmin (v := v14) C hl.1 ml_X1_103 st_Lib_Math_min_name in_J9 cd_min (Nat.le_of_ble_eq_true rfl) (Nat.le_of_ble_eq_true rfl) (Nat.le_of_ble_eq_true rfl) (Nat.le_of_ble_eq_true rfl) ev14 dX1_link_14 ?_
  refine lv_iconst (v := 1) C.1 C.2.1 dX1_link_17 (by decide) ?_
  obtain ⟨v18, ev18⟩ : ∃ z : Int32, v14 - 1 = z := ⟨_, rfl⟩
  have iv18 : v18.toInt = v14.toInt - 1 := kz_subc ev18 (by decide) (by have zr0 := kz_rng v14; omega) (by have zr0 := kz_rng v14; omega)
  refine k_isub (v := v18) C ev18 dX1_link_18 ?_
  refine lv_istore_n (lv' := [(2, .int v18), (1, .int (-1)), (0, .ref h)]) C.1 C.2.1 dX1_link_19 rfl hl (by decide) rfl (fun ls hl => ?_)
  refine k_loopA (fun (u : (Nat → Int32) × (Nat → Int32) × (Nat → Int32) × (Int32) × (Int32)) H locs ls => match u with | (j20_C_h_11, j20_C_h_6, j20_C_h_7, j20_L_1, j20_L_2) => -1 ≤ j20_L_2.toInt ∧ j20_L_2.toInt ≤ 479 ∧ j20_L_2.toInt ≤ v18.toInt ∧ wX D [(a_h_0_0, .int), (a_h_13, .int), (a_h_6, .int), (a_h_7, .int), (a_h_11, .int), (a_h_3, .int)] s [(h, .inr (1, [.ref h_0, .int h_1, .ref h_2, .ref h_3, .ref h_4, .ref h_5, .ref h_6, .ref h_7, .ref h_8, .ref h_9, .ref h_10, .ref h_11, .ref h_12, .ref h_13])), (h_0, .inr (8, [.ref h_0_0, .int h_0_1])), (h_0_0, .inl (a_h_0_0, n_h_0_0, .inl f_h_0_0)), (h_13, .inl (a_h_13, 480, .inl f_h_13)), (h_6, .inl (a_h_6, 40, .inl j20_C_h_6)), (h_7, .inl (a_h_7, 40, .inl j20_C_h_7)), (h_11, .inl (a_h_11, 40, .inl j20_C_h_11)), (h_3, .inl (a_h_3, 40, .inl f_h_3))] H A s.heap locs ∧ lv_has ls 4 [(2, .int j20_L_2), (1, .int j20_L_1), (0, .ref h)]) (fun (u : (Nat → Int32) × (Nat → Int32) × (Nat → Int32) × (Int32) × (Int32)) ls => match u with | (j20_C_h_11, j20_C_h_6, j20_C_h_7, j20_L_1, j20_L_2) => F0 m 20 ls []) (fun (u : (Nat → Int32) × (Nat → Int32) × (Nat → Int32) × (Int32) × (Int32)) => match u with | (j20_C_h_11, j20_C_h_6, j20_C_h_7, j20_L_1, j20_L_2) => (j20_L_2.toInt + 2).toNat) (fun u H locs ls hi ih20 => ?_) (f_h_11, f_h_6, f_h_7, (-1), v18) _ _ _ ⟨by omega, by omega, by omega, Wd, lv_sub hl [0, 1, 2] rfl⟩
  obtain ⟨j20_C_h_11, j20_C_h_6, j20_C_h_7, j20_L_1, j20_L_2⟩ := u
  obtain ⟨i20_0, i20_1, i20_2, Wd, hl⟩ := hi
  refine lv_iload_n C.1 C.2.1 dX1_link_20 rfl (lv_at hl 0 rfl) ?_
  refine lv_if_lt (tgt := 60) C.1 C.2.1 dX1_link_21 (by decide) (fun c21 => ?_) (fun c21 => ?_)
  · have i21 : j20_L_2.toInt < 0 := kz_lt c21
    exact k_vret C hr hlk Wd (j20_C_h_6, j20_C_h_7, j20_C_h_11) trivial [0, 1, 2, 3, 4, 5, 6, 7] rfl (by decide) [] rfl (by decide) (by decide) dX1_link_60
  · have i21 : 0 ≤ j20_L_2.toInt := kz_nlt c21
    refine lv_aload_n C.1 C.2.1 dX1_link_24 rfl (lv_at hl 2 rfl) ?_
    refine k_get C Wd KX1 0 13 rfl (by decide) fl_X1_54 rfl dX1_link_25 ?_
    refine lv_iload_n C.1 C.2.1 dX1_link_28 rfl (lv_at hl 0 rfl) ?_
    obtain ⟨v29, ev29⟩ : ∃ z : Int32, f_h_13 j20_L_2.toNatClampNeg = z := ⟨_, rfl⟩
    refine k_iald (v := v29) C Wd 3 1 rfl rfl (vp_in_iff.mpr ⟨by omega, by omega⟩) ev29 dX1_link_29 ?_
    refine lv_istore_n (lv' := [(3, .int v29), (2, .int j20_L_2), (1, .int j20_L_1), (0, .ref h)]) C.1 C.2.1 dX1_link_30 rfl hl (by decide) rfl (fun ls hl => ?_)
    refine lv_aload_n C.1 C.2.1 dX1_link_31 rfl (lv_at hl 3 rfl) ?_
    refine lv_iload_n C.1 C.2.1 dX1_link_32 rfl (lv_at hl 0 rfl) ?_
    refine k_cutA (fun (u : (Int32) × (Nat → Int32) × (Nat → Int32) × (Nat → Int32)) H locs ls => match u with | (j54_L_1, j54_C_h_6, j54_C_h_7, j54_C_h_11) => wX D [(a_h_0_0, .int), (a_h_13, .int), (a_h_6, .int), (a_h_7, .int), (a_h_11, .int), (a_h_3, .int)] s [(h, .inr (1, [.ref h_0, .int h_1, .ref h_2, .ref h_3, .ref h_4, .ref h_5, .ref h_6, .ref h_7, .ref h_8, .ref h_9, .ref h_10, .ref h_11, .ref h_12, .ref h_13])), (h_0, .inr (8, [.ref h_0_0, .int h_0_1])), (h_0_0, .inl (a_h_0_0, n_h_0_0, .inl f_h_0_0)), (h_13, .inl (a_h_13, 480, .inl f_h_13)), (h_6, .inl (a_h_6, 40, .inl j54_C_h_6)), (h_7, .inl (a_h_7, 40, .inl j54_C_h_7)), (h_11, .inl (a_h_11, 40, .inl j54_C_h_11)), (h_3, .inl (a_h_3, 40, .inl f_h_3))] H A s.heap locs ∧ lv_has ls 4 [(3, .int v29), (2, .int j20_L_2), (1, .int j54_L_1), (0, .ref h)]) (fun (u : (Int32) × (Nat → Int32) × (Nat → Int32) × (Nat → Int32)) ls => match u with | (j54_L_1, j54_C_h_6, j54_C_h_7, j54_C_h_11) => F0 m 54 ls []) (fun u H locs ls hi => ?_) (fun J54 => ?_)
    · obtain ⟨j54_L_1, j54_C_h_6, j54_C_h_7, j54_C_h_11⟩ := u
      obtain ⟨Wd, hl⟩ := hi
      obtain ⟨v54, ev54⟩ : ∃ z : Int32, j20_L_2 + (-1) = z := ⟨_, rfl⟩
      have iv54 : v54.toInt = j20_L_2.toInt + (-1) := kz_addc ev54 (by decide) (by have zr0 := kz_rng j20_L_2; omega) (by have zr0 := kz_rng j20_L_2; omega)
      refine lv_iinc (v := v54) (lv' := [(2, .int v54), (3, .int v29), (1, .int j54_L_1), (0, .ref h)]) C.1 C.2.1 dX1_link_54 hl (k := 1) rfl ev54 (by decide) rfl (fun ls hl => ?_)
      refine lv_goto (tgt := 20) C.1 C.2.1 dX1_link_57 (by decide) ?_
      exact ih20 (j54_C_h_11, j54_C_h_6, j54_C_h_7, j54_L_1, v54) _ _ _ ⟨by omega, by omega, by omega, Wd, lv_sub hl [0, 2, 3] rfl⟩ (by show (v54.toInt + 2).toNat < (j20_L_2.toInt + 2).toNat; omega)
    refine k_pi (k_runV (rest := []) C aks Wd cs_X1_70 (sX1_isHere l D h v29 (.ref h_0 : Value) h_1 h_2 h_3 h_4 h_5 h_6 h_7 h_8 h_9 h_10 h_11 h_12 h_13 _ (by omega) (by omega)) [0] rfl (by decide) [] rfl 0 1 rfl rfl rfl rfl rfl ⟨(Nat.le_of_ble_eq_true rfl), (Nat.le_of_ble_eq_true rfl)⟩ hl.1 rfl rfl (Nat.le_of_ble_eq_true rfl) ⟨(Nat.le_of_ble_eq_true rfl), (Nat.le_of_ble_eq_true rfl)⟩ dX1_link_33) (fun r33 w33 => ?_)
    rcases w33 with rfl | ⟨g33_1_0, g33_1_1, g33_1_2, g33_1_3, rfl⟩
    · refine lv_if_eq (tgt := 54) C.1 C.2.1 dX1_link_36 (by decide) (fun _ => ?_) (fun c36 => absurd c36 (by decide))
      exact J54 (j20_L_1, j20_C_h_6, j20_C_h_7, j20_C_h_11) _ _ _ ⟨Wd, lv_sub hl [0, 1, 2, 3] rfl⟩
    · have g33_1_0 : 0 ≤ v29.toInt := g33_1_0
      have g33_1_1 : 1 ≤ h_1.toInt := g33_1_1
      have g33_1_2 : v29.toInt ≤ 39 := g33_1_2
      have g33_1_3 : v29.toInt + 1 ≤ h_1.toInt := g33_1_3
      refine lv_if_eq (tgt := 54) C.1 C.2.1 dX1_link_36 (by decide) (fun c36 => absurd c36 (by decide)) (fun _ => ?_)
      refine lv_aload_n C.1 C.2.1 dX1_link_39 rfl (lv_at hl 3 rfl) ?_
      refine lv_aload_n C.1 C.2.1 dX1_link_40 rfl (lv_at hl 3 rfl) ?_
      refine k_get C Wd KX1 0 0 rfl (by decide) fl_X1_14 rfl dX1_link_41 ?_
      refine lv_iload_n C.1 C.2.1 dX1_link_44 rfl (lv_at hl 1 rfl) ?_
      refine k_pi (k_runV (rest := [.ref h]) C aks Wd cs_X1_81 (sX8_cell l D h_0 j20_L_2 h_0_0 h_0_1 n_h_0_0 a_h_0_0 f_h_0_0 _ (by omega) (by omega) (by omega) (by omega)) [1, 2] rfl (by decide) [0] rfl 1 8 rfl rfl rfl rfl rfl ⟨(Nat.le_of_ble_eq_true rfl), (Nat.le_of_ble_eq_true rfl)⟩ hl.1 rfl rfl (Nat.le_of_ble_eq_true rfl) ⟨(Nat.le_of_ble_eq_true rfl), (Nat.le_of_ble_eq_true rfl)⟩ dX1_link_45) (fun r45 w45 => ?_)
      refine lv_iload_n C.1 C.2.1 dX1_link_48 rfl (lv_at hl 0 rfl) ?_
      refine lv_iload_n C.1 C.2.1 dX1_link_49 rfl (lv_at hl 2 rfl) ?_
      refine k_ci Wd [0, 4, 5, 6, 7] [1, 2, 3] rfl (wr := [(h_0, .inr (8, [.ref h_0_0, .int h_0_1])), (h_0_0, .inl (a_h_0_0, n_h_0_0, .inl f_h_0_0)), (h_13, .inl (a_h_13, 480, .inl f_h_13))]) rfl (by decide) (by decide) (cells' := 0) (slots' := 0) (by decide) (by decide) (k_runV (rest := []) C aks Wd cs_X1_109 (sX1_linkAt l D h r45 v29 j20_L_1 (.ref h_0 : Value) h_1 h_2 h_3 h_4 h_5 h_6 h_7 h_8 h_9 h_10 h_11 h_12 h_13 a_h_6 j20_C_h_6 a_h_7 j20_C_h_7 a_h_11 j20_C_h_11 a_h_3 f_h_3 _ (by omega) (by omega)) [0, 4, 5, 6, 7] rfl (by decide) [2, 3, 4, 5] rfl 0 1 rfl rfl rfl rfl rfl ⟨(Nat.le_of_ble_eq_true rfl), (Nat.le_of_ble_eq_true rfl)⟩ hl.1 rfl rfl (Nat.le_of_ble_eq_true rfl) ⟨(Nat.le_of_ble_eq_true rfl), (Nat.le_of_ble_eq_true rfl)⟩ dX1_link_50) (fun r50 u H locs w50 Wd => ?_)
      obtain ⟨s50_0, s50_1, s50_2⟩ := u
      have Wd : wX D [(a_h_0_0, .int), (a_h_13, .int), (a_h_6, .int), (a_h_7, .int), (a_h_11, .int), (a_h_3, .int)] s [(h, .inr (1, [.ref h_0, .int h_1, .ref h_2, .ref h_3, .ref h_4, .ref h_5, .ref h_6, .ref h_7, .ref h_8, .ref h_9, .ref h_10, .ref h_11, .ref h_12, .ref h_13])), (h_0, .inr (8, [.ref h_0_0, .int h_0_1])), (h_0_0, .inl (a_h_0_0, n_h_0_0, .inl f_h_0_0)), (h_13, .inl (a_h_13, 480, .inl f_h_13)), (h_6, .inl (a_h_6, 40, .inl s50_2)), (h_7, .inl (a_h_7, 40, .inl s50_0)), (h_11, .inl (a_h_11, 40, .inl s50_1)), (h_3, .inl (a_h_3, 40, .inl f_h_3))] _ A s.heap _ := k_sub Wd [3, 0, 1, 2, 4, 5, 6, 7] rfl (by decide) [0, 1, 2, 3, 4, 5] rfl
      refine lv_istore_n (lv' := [(1, .int r50), (3, .int v29), (2, .int j20_L_2), (0, .ref h)]) C.1 C.2.1 dX1_link_53 rfl hl (by decide) rfl (fun ls hl => ?_)
      exact J54 (r50, s50_2, s50_0, s50_1) _ _ _ ⟨Wd, lv_sub hl [1, 2, 0, 3] rfl⟩
set_option maxHeartbeats 4000000 in
set_option maxRecDepth 100000 in
theorem sX1_aheadOf (l : Launch) (D : va_G) (h : Nat) (x0 : Int32) (h_0 : Value) (h_1 : Int32) (h_2 : Nat) (h_3 : Nat) (h_4 : Nat) (h_5 : Nat) (h_6 : Nat) (h_7 : Nat) (h_8 : Nat) (h_9 : Nat) (h_10 : Nat) (h_11 : Nat) (h_12 : Nat) (h_13 : Nat) (a_h_10 : ClassId) (f_h_10 : Nat → Int32) (sz : Nat) (k_h_1_lo : 0 ≤ h_1.toInt) (k_h_1_hi : h_1.toInt ≤ 40)  : Met l yX1_aheadOf (Cond.code yX1_aheadOf cX1_aheadOf 2 (some .int) :: gG) { frames := 2, cells := 0, slots := 0, locals := 85 } (cPre D [(a_h_10, .int)] [(h, .inr (1, [h_0, .int h_1, .ref h_2, .ref h_3, .ref h_4, .ref h_5, .ref h_6, .ref h_7, .ref h_8, .ref h_9, .ref h_10, .ref h_11, .ref h_12, .ref h_13])), (h_10, .inl (a_h_10, 40, .inl f_h_10))] sz [.ref h, .int x0]) (vp_Si (fun r => True)) 0 0 (fun _ => False) := by
  refine Met.ofW (cc := cX1_aheadOf) (maxL := 2) (ret := (some .int)) (by decide) rfl ?_
  intro p e s m args below meth c s₁ B hml hv
  obtain ⟨rfl, aks, rfl, Wd⟩ := k_enter hv
  have C : CallFix p m c cX1_aheadOf 2 s _ gG RX1 := ⟨B.exec, B.bytes, hml, findClass_of_methodNamed B.named, fun w h => atoms_spec (ws := Cond.code yX1_aheadOf cX1_aheadOf 2 (some .int) :: gG) B.pre w (List.mem_cons_of_mem _ h)⟩
  have hr := B.returns
  have hlk := B.notSynchronized
  obtain ⟨A, Wd⟩ : ∃ A, wX D [(a_h_10, .int)] s [(h, .inr (1, [h_0, .int h_1, .ref h_2, .ref h_3, .ref h_4, .ref h_5, .ref h_6, .ref h_7, .ref h_8, .ref h_9, .ref h_10, .ref h_11, .ref h_12, .ref h_13])), (h_10, .inl (a_h_10, 40, .inl f_h_10))] s.heap A s.heap [] := ⟨_, Wd⟩
  refine k_locals (Nat.le_of_ble_eq_true rfl) [(0, .ref h), (1, .int x0)] rfl (fun ls hl => ?_)
  refine lv_aload_n C.1 C.2.1 dX1_aheadOf_0 rfl (lv_at hl 0 rfl) ?_
  refine lv_iload_n C.1 C.2.1 dX1_aheadOf_1 rfl (lv_at hl 1 rfl) ?_
  refine k_cutA (fun (j18_S_0 : Int32) H locs ls => H = s.heap ∧ locs = [] ∧ wX D [(a_h_10, .int)] s [(h, .inr (1, [h_0, .int h_1, .ref h_2, .ref h_3, .ref h_4, .ref h_5, .ref h_6, .ref h_7, .ref h_8, .ref h_9, .ref h_10, .ref h_11, .ref h_12, .ref h_13])), (h_10, .inl (a_h_10, 40, .inl f_h_10))] H A s.heap locs ∧ lv_has ls 2 [(0, .ref h), (1, .int x0)]) (fun (j18_S_0 : Int32) ls => F0 m 18 ls [.int j18_S_0]) (fun j18_S_0 H locs ls hi => ?_) (fun J18 => ?_)
  · obtain ⟨rfl, rfl, Wd, hl⟩ := hi
    exact k_zretP C hr hlk rfl trivial dX1_aheadOf_18
  refine k_pi (k_runV (rest := []) C aks Wd cs_X1_70 (sX1_isHere l D h x0 (h_0 : Value) h_1 h_2 h_3 h_4 h_5 h_6 h_7 h_8 h_9 h_10 h_11 h_12 h_13 _ (by omega) (by omega)) [0] rfl (by decide) [] rfl 0 1 rfl rfl rfl rfl rfl ⟨(Nat.le_of_ble_eq_true rfl), (Nat.le_of_ble_eq_true rfl)⟩ hl.1 rfl rfl (Nat.le_of_ble_eq_true rfl) ⟨(Nat.le_of_ble_eq_true rfl), (Nat.le_of_ble_eq_true rfl)⟩ dX1_aheadOf_2) (fun r2 w2 => ?_)
  rcases w2 with rfl | ⟨g2_1_0, g2_1_1, g2_1_2, g2_1_3, rfl⟩
  · refine lv_if_eq (tgt := 17) C.1 C.2.1 dX1_aheadOf_5 (by decide) (fun _ => ?_) (fun c5 => absurd c5 (by decide))
    refine lv_iconst (v := 0) C.1 C.2.1 dX1_aheadOf_17 (by decide) ?_
    exact J18 0 _ _ _ ⟨rfl, rfl, Wd, lv_sub hl [0, 1] rfl⟩
  · have g2_1_0 : 0 ≤ x0.toInt := g2_1_0
    have g2_1_1 : 1 ≤ h_1.toInt := g2_1_1
    have g2_1_2 : x0.toInt ≤ 39 := g2_1_2
    have g2_1_3 : x0.toInt + 1 ≤ h_1.toInt := g2_1_3
    refine lv_if_eq (tgt := 17) C.1 C.2.1 dX1_aheadOf_5 (by decide) (fun c5 => absurd c5 (by decide)) (fun _ => ?_)
    refine lv_aload_n C.1 C.2.1 dX1_aheadOf_8 rfl (lv_at hl 0 rfl) ?_
    refine k_get C Wd KX1 0 10 rfl (by decide) fl_X1_45 rfl dX1_aheadOf_9 ?_
    refine lv_iload_n C.1 C.2.1 dX1_aheadOf_12 rfl (lv_at hl 1 rfl) ?_
    obtain ⟨v13, ev13⟩ : ∃ z : Int32, f_h_10 x0.toNatClampNeg = z := ⟨_, rfl⟩
    refine k_iald (v := v13) C Wd 1 0 rfl rfl (vp_in_iff.mpr ⟨by omega, by omega⟩) ev13 dX1_aheadOf_13 ?_
    refine lv_goto (tgt := 18) C.1 C.2.1 dX1_aheadOf_14 (by decide) ?_
    exact J18 v13 _ _ _ ⟨rfl, rfl, Wd, lv_sub hl [0, 1] rfl⟩
set_option maxHeartbeats 4000000 in
set_option maxRecDepth 100000 in
theorem sX1_settle (l : Launch) (D : va_G) (h : Nat) (h_0 : Value) (h_1 : Int32) (h_2 : Nat) (h_3 : Nat) (h_4 : Nat) (h_5 : Nat) (h_6 : Nat) (h_7 : Nat) (h_8 : Nat) (h_9 : Nat) (h_10 : Nat) (h_11 : Nat) (h_12 : Nat) (h_13 : Nat) (a_h_10 : ClassId) (f_h_10 : Nat → Int32) (a_h_8 : ClassId) (f_h_8 : Nat → Int32) (a_h_6 : ClassId) (f_h_6 : Nat → Int32) (a_h_7 : ClassId) (f_h_7 : Nat → Int32) (a_h_9 : ClassId) (f_h_9 : Nat → Int32) (sz : Nat) (k_h_1_lo : 0 ≤ h_1.toInt) (k_h_1_hi : h_1.toInt ≤ 40)  : Met l yX1_settle (Cond.code yX1_settle cX1_settle 5 none :: gG) { frames := 3, cells := 0, slots := 0, locals := 106 } (cPre D [(a_h_10, .int), (a_h_8, .int), (a_h_6, .int), (a_h_7, .int), (a_h_9, .int)] [(h, .inr (1, [h_0, .int h_1, .ref h_2, .ref h_3, .ref h_4, .ref h_5, .ref h_6, .ref h_7, .ref h_8, .ref h_9, .ref h_10, .ref h_11, .ref h_12, .ref h_13])), (h_10, .inl (a_h_10, 40, .inl f_h_10)), (h_8, .inl (a_h_8, 40, .inl f_h_8)), (h_6, .inl (a_h_6, 40, .inl f_h_6)), (h_7, .inl (a_h_7, 40, .inl f_h_7)), (h_9, .inl (a_h_9, 40, .inl f_h_9))] sz [.ref h]) (va_Qv (fun (jX_C_h_10 : Nat → Int32) => True) (fun u t => cB D (va_A [(h, .inr (1, [h_0, .int h_1, .ref h_2, .ref h_3, .ref h_4, .ref h_5, .ref h_6, .ref h_7, .ref h_8, .ref h_9, .ref h_10, .ref h_11, .ref h_12, .ref h_13])), (h_10, .inl (a_h_10, 40, .inl f_h_10)), (h_8, .inl (a_h_8, 40, .inl f_h_8)), (h_6, .inl (a_h_6, 40, .inl f_h_6)), (h_7, .inl (a_h_7, 40, .inl f_h_7)), (h_9, .inl (a_h_9, 40, .inl f_h_9))] sz) ((fun (_ : (Nat → Int32)) => ([] : List (ClassId × FieldType))) u) ((fun (jX_C_h_10 : Nat → Int32) => ([(h, .inr (1, [h_0, .int h_1, .ref h_2, .ref h_3, .ref h_4, .ref h_5, .ref h_6, .ref h_7, .ref h_8, .ref h_9, .ref h_10, .ref h_11, .ref h_12, .ref h_13])), (h_10, .inl (a_h_10, 40, .inl jX_C_h_10)), (h_8, .inl (a_h_8, 40, .inl f_h_8)), (h_6, .inl (a_h_6, 40, .inl f_h_6)), (h_7, .inl (a_h_7, 40, .inl f_h_7)), (h_9, .inl (a_h_9, 40, .inl f_h_9))] : va_W)) u) t) (va_A [(h, .inr (1, [h_0, .int h_1, .ref h_2, .ref h_3, .ref h_4, .ref h_5, .ref h_6, .ref h_7, .ref h_8, .ref h_9, .ref h_10, .ref h_11, .ref h_12, .ref h_13])), (h_10, .inl (a_h_10, 40, .inl f_h_10)), (h_8, .inl (a_h_8, 40, .inl f_h_8)), (h_6, .inl (a_h_6, 40, .inl f_h_6)), (h_7, .inl (a_h_7, 40, .inl f_h_7)), (h_9, .inl (a_h_9, 40, .inl f_h_9))] sz)) 0 0 (va_A [(h, .inr (1, [h_0, .int h_1, .ref h_2, .ref h_3, .ref h_4, .ref h_5, .ref h_6, .ref h_7, .ref h_8, .ref h_9, .ref h_10, .ref h_11, .ref h_12, .ref h_13])), (h_10, .inl (a_h_10, 40, .inl f_h_10)), (h_8, .inl (a_h_8, 40, .inl f_h_8)), (h_6, .inl (a_h_6, 40, .inl f_h_6)), (h_7, .inl (a_h_7, 40, .inl f_h_7)), (h_9, .inl (a_h_9, 40, .inl f_h_9))] sz) := by
  refine Met.ofW (cc := cX1_settle) (maxL := 5) (ret := none) (by decide) rfl ?_
  intro p e s m args below meth c s₁ B hml hv
  obtain ⟨rfl, aks, rfl, Wd⟩ := k_enter hv
  have C : CallFix p m c cX1_settle 5 s _ gG RX1 := ⟨B.exec, B.bytes, hml, findClass_of_methodNamed B.named, fun w h => atoms_spec (ws := Cond.code yX1_settle cX1_settle 5 none :: gG) B.pre w (List.mem_cons_of_mem _ h)⟩
  have hr := B.returns
  have hlk := B.notSynchronized
  generalize va_A [(h, .inr (1, [h_0, .int h_1, .ref h_2, .ref h_3, .ref h_4, .ref h_5, .ref h_6, .ref h_7, .ref h_8, .ref h_9, .ref h_10, .ref h_11, .ref h_12, .ref h_13])), (h_10, .inl (a_h_10, 40, .inl f_h_10)), (h_8, .inl (a_h_8, 40, .inl f_h_8)), (h_6, .inl (a_h_6, 40, .inl f_h_6)), (h_7, .inl (a_h_7, 40, .inl f_h_7)), (h_9, .inl (a_h_9, 40, .inl f_h_9))] s.heap.size = A at Wd ⊢
  refine k_locals (Nat.le_of_ble_eq_true rfl) [(0, .ref h)] rfl (fun ls hl => ?_)
  refine lv_iconst (v := 0) C.1 C.2.1 dX1_settle_0 (by decide) ?_
  refine lv_istore_n (lv' := [(1, .int 0), (0, .ref h)]) C.1 C.2.1 dX1_settle_1 rfl hl (by decide) rfl (fun ls hl => ?_)
  refine k_loopA (fun (u : (Nat → Int32) × (Int32)) H locs ls => match u with | (j2_C_h_10, j2_L_1) => 0 ≤ j2_L_1.toInt ∧ j2_L_1.toInt ≤ 40 ∧ j2_L_1.toInt ≤ h_1.toInt ∧ wX D [(a_h_10, .int), (a_h_8, .int), (a_h_6, .int), (a_h_7, .int), (a_h_9, .int)] s [(h, .inr (1, [h_0, .int h_1, .ref h_2, .ref h_3, .ref h_4, .ref h_5, .ref h_6, .ref h_7, .ref h_8, .ref h_9, .ref h_10, .ref h_11, .ref h_12, .ref h_13])), (h_10, .inl (a_h_10, 40, .inl j2_C_h_10)), (h_8, .inl (a_h_8, 40, .inl f_h_8)), (h_6, .inl (a_h_6, 40, .inl f_h_6)), (h_7, .inl (a_h_7, 40, .inl f_h_7)), (h_9, .inl (a_h_9, 40, .inl f_h_9))] H A s.heap locs ∧ lv_has ls 5 [(1, .int j2_L_1), (0, .ref h)]) (fun (u : (Nat → Int32) × (Int32)) ls => match u with | (j2_C_h_10, j2_L_1) => F0 m 2 ls []) (fun (u : (Nat → Int32) × (Int32)) => match u with | (j2_C_h_10, j2_L_1) => (41 - j2_L_1.toInt).toNat) (fun u H locs ls hi ih2 => ?_) (f_h_10, 0) _ _ _ ⟨by have zq0 : (0 : Int32).toInt = 0 := (by decide); omega, by have zq0 : (0 : Int32).toInt = 0 := (by decide); omega, by have zq0 : (0 : Int32).toInt = 0 := (by decide); omega, Wd, lv_sub hl [0, 1] rfl⟩
  obtain ⟨j2_C_h_10, j2_L_1⟩ := u
  obtain ⟨i2_0, i2_1, i2_2, Wd, hl⟩ := hi
  refine lv_iload_n C.1 C.2.1 dX1_settle_2 rfl (lv_at hl 0 rfl) ?_
  refine lv_aload_n C.1 C.2.1 dX1_settle_3 rfl (lv_at hl 1 rfl) ?_
  refine k_get C Wd KX1 0 1 rfl (by decide) fl_X1_57 rfl dX1_settle_4 ?_
  refine lv_icmp_ge (tgt := 29) C.1 C.2.1 dX1_settle_7 (by decide) (fun c7 => ?_) (fun c7 => ?_)
  · have i7 : h_1.toInt ≤ j2_L_1.toInt := kz_le c7
    refine lv_iconst (v := 1) C.1 C.2.1 dX1_settle_29 (by decide) ?_
    refine lv_istore_n (lv' := [(1, .int 1), (0, .ref h)]) C.1 C.2.1 dX1_settle_30 rfl hl (by decide) rfl (fun ls hl => ?_)
    refine lv_iconst (v := 0) C.1 C.2.1 dX1_settle_31 (by decide) ?_
    refine lv_istore_n (lv' := [(2, .int 0), (1, .int 1), (0, .ref h)]) C.1 C.2.1 dX1_settle_32 rfl hl (by decide) rfl (fun ls hl => ?_)
    refine k_loopA (fun (u : (Nat → Int32) × (Int32) × (Int32)) H locs ls => match u with | (j33_C_h_10, j33_L_1, j33_L_2) => 0 ≤ j33_L_1.toInt ∧ 0 ≤ j33_L_2.toInt ∧ j33_L_1.toInt ≤ 1 ∧ j33_L_2.toInt ≤ 256 ∧ j33_L_2.toInt ≤ h_1.toInt + 241 ∧ wX D [(a_h_10, .int), (a_h_8, .int), (a_h_6, .int), (a_h_7, .int), (a_h_9, .int)] s [(h, .inr (1, [h_0, .int h_1, .ref h_2, .ref h_3, .ref h_4, .ref h_5, .ref h_6, .ref h_7, .ref h_8, .ref h_9, .ref h_10, .ref h_11, .ref h_12, .ref h_13])), (h_10, .inl (a_h_10, 40, .inl j33_C_h_10)), (h_8, .inl (a_h_8, 40, .inl f_h_8)), (h_6, .inl (a_h_6, 40, .inl f_h_6)), (h_7, .inl (a_h_7, 40, .inl f_h_7)), (h_9, .inl (a_h_9, 40, .inl f_h_9))] H A s.heap locs ∧ lv_has ls 5 [(2, .int j33_L_2), (1, .int j33_L_1), (0, .ref h)]) (fun (u : (Nat → Int32) × (Int32) × (Int32)) ls => match u with | (j33_C_h_10, j33_L_1, j33_L_2) => F0 m 33 ls []) (fun (u : (Nat → Int32) × (Int32) × (Int32)) => match u with | (j33_C_h_10, j33_L_1, j33_L_2) => (243 - j33_L_2.toInt).toNat) (fun u H locs ls hi ih33 => ?_) (j2_C_h_10, 1, 0) _ _ _ ⟨by have zq1 : (1 : Int32).toInt = 1 := (by decide); omega, by have zq0 : (0 : Int32).toInt = 0 := (by decide); omega, by have zq1 : (1 : Int32).toInt = 1 := (by decide); omega, by have zq0 : (0 : Int32).toInt = 0 := (by decide); omega, by have zq0 : (0 : Int32).toInt = 0 := (by decide); omega, Wd, lv_sub hl [0, 1, 2] rfl⟩
    obtain ⟨j33_C_h_10, j33_L_1, j33_L_2⟩ := u
    obtain ⟨i33_0, i33_1, i33_2, i33_3, i33_4, Wd, hl⟩ := hi
    refine lv_iload_n C.1 C.2.1 dX1_settle_33 rfl (lv_at hl 0 rfl) ?_
    refine lv_sipush (v := 241) C.1 C.2.1 dX1_settle_34 (by decide) ?_
    refine k_cutA (fun (_ : Unit) H locs ls => j33_L_1.toInt ≤ j33_L_2.toInt ∧ wX D [(a_h_10, .int), (a_h_8, .int), (a_h_6, .int), (a_h_7, .int), (a_h_9, .int)] s [(h, .inr (1, [h_0, .int h_1, .ref h_2, .ref h_3, .ref h_4, .ref h_5, .ref h_6, .ref h_7, .ref h_8, .ref h_9, .ref h_10, .ref h_11, .ref h_12, .ref h_13])), (h_10, .inl (a_h_10, 40, .inl j33_C_h_10)), (h_8, .inl (a_h_8, 40, .inl f_h_8)), (h_6, .inl (a_h_6, 40, .inl f_h_6)), (h_7, .inl (a_h_7, 40, .inl f_h_7)), (h_9, .inl (a_h_9, 40, .inl f_h_9))] H A s.heap locs ∧ lv_has ls 5 [(2, .int j33_L_2), (1, .int j33_L_1), (0, .ref h)]) (fun (_ : Unit) ls => F0 m 142 ls []) (fun _ H locs ls hi => ?_) (fun J142 => ?_)
    · obtain ⟨i142_0, Wd, hl⟩ := hi
      exact k_vret C hr hlk Wd j33_C_h_10 trivial [0, 1, 2, 3, 4, 5] rfl (by decide) [] rfl (by decide) (by decide) dX1_settle_142
    refine lv_icmp_ge (tgt := 142) C.1 C.2.1 dX1_settle_37 (by decide) (fun c37 => ?_) (fun c37 => ?_)
    · have i37 : 241 ≤ j33_L_2.toInt := kz_le c37
      exact J142 () _ _ _ ⟨by omega, Wd, lv_sub hl [0, 1, 2] rfl⟩
    · have i37 : j33_L_2.toInt < 241 := kz_nle c37
      refine lv_iload_n C.1 C.2.1 dX1_settle_40 rfl (lv_at hl 1 rfl) ?_
      refine lv_if_eq (tgt := 142) C.1 C.2.1 dX1_settle_41 (by decide) (fun c41 => ?_) (fun c41 => ?_)
      · have i41 : j33_L_1.toInt = 0 := kz_eq c41
        exact J142 () _ _ _ ⟨by omega, Wd, lv_sub hl [0, 1, 2] rfl⟩
      · have i41 : ¬ j33_L_1.toInt = 0 := kz_ne c41
        refine lv_iconst (v := 0) C.1 C.2.1 dX1_settle_44 (by decide) ?_
        refine lv_istore_n (lv' := [(1, .int 0), (2, .int j33_L_2), (0, .ref h)]) C.1 C.2.1 dX1_settle_45 rfl hl (by decide) rfl (fun ls hl => ?_)
        refine lv_aload_n C.1 C.2.1 dX1_settle_46 rfl (lv_at hl 2 rfl) ?_
        refine k_get C Wd KX1 0 1 rfl (by decide) fl_X1_57 rfl dX1_settle_47 ?_
        refine lv_bipush (v := 40) C.1 C.2.1 dX1_settle_50 (by decide) ?_
        obtain ⟨v52, ev52⟩ : ∃ z : Int32, (if 40 < h_1 then 40 else h_1) = z := ⟨_, rfl⟩
        have iv52 : v52.toInt ≤ h_1.toInt ∧ v52.toInt ≤ 40 ∧ (v52.toInt = h_1.toInt ∨ v52.toInt = 40) := kz_min ev52
        refine k_mmin (v := v52) C hl.1 ml_X1_103 st_Lib_Math_min_name in_J9 cd_min (Nat.le_of_ble_eq_true rfl) (Nat.le_of_ble_eq_true rfl) (Nat.le_of_ble_eq_true rfl) (Nat.le_of_ble_eq_true rfl) ev52 dX1_settle_52 ?_
        refine lv_iconst (v := 1) C.1 C.2.1 dX1_settle_55 (by decide) ?_
        obtain ⟨v56, ev56⟩ : ∃ z : Int32, v52 - 1 = z := ⟨_, rfl⟩
        have iv56 : v56.toInt = v52.toInt - 1 := kz_subc ev56 (by decide) (by have zr0 := kz_rng v52; omega) (by have zr0 := kz_rng v52; omega)
        refine k_isub (v := v56) C ev56 dX1_settle_56 ?_
        refine lv_istore_n (lv' := [(3, .int v56), (1, .int 0), (2, .int j33_L_2), (0, .ref h)]) C.1 C.2.1 dX1_settle_57 rfl hl (by decide) rfl (fun ls hl => ?_)
        refine k_loopA (fun (u : (Nat → Int32) × (Int32) × (Int32) × (Int32)) H locs ls => match u with | (j58_C_h_10, j58_L_1, j58_L_2, j58_L_3) => 0 ≤ j58_L_1.toInt ∧ 0 ≤ j58_L_2.toInt ∧ -1 ≤ j58_L_3.toInt ∧ j58_L_1.toInt ≤ 1 ∧ j58_L_3.toInt ≤ 39 ∧ j58_L_2.toInt ≤ 241 ∧ j33_L_2.toInt ≤ j58_L_2.toInt ∧ j58_L_1.toInt ≤ h_1.toInt ∧ j58_L_2.toInt ≤ j33_L_2.toInt ∧ j58_L_3.toInt ≤ v56.toInt ∧ wX D [(a_h_10, .int), (a_h_8, .int), (a_h_6, .int), (a_h_7, .int), (a_h_9, .int)] s [(h, .inr (1, [h_0, .int h_1, .ref h_2, .ref h_3, .ref h_4, .ref h_5, .ref h_6, .ref h_7, .ref h_8, .ref h_9, .ref h_10, .ref h_11, .ref h_12, .ref h_13])), (h_10, .inl (a_h_10, 40, .inl j58_C_h_10)), (h_8, .inl (a_h_8, 40, .inl f_h_8)), (h_6, .inl (a_h_6, 40, .inl f_h_6)), (h_7, .inl (a_h_7, 40, .inl f_h_7)), (h_9, .inl (a_h_9, 40, .inl f_h_9))] H A s.heap locs ∧ lv_has ls 5 [(3, .int j58_L_3), (1, .int j58_L_1), (2, .int j58_L_2), (0, .ref h)]) (fun (u : (Nat → Int32) × (Int32) × (Int32) × (Int32)) ls => match u with | (j58_C_h_10, j58_L_1, j58_L_2, j58_L_3) => F0 m 58 ls []) (fun (u : (Nat → Int32) × (Int32) × (Int32) × (Int32)) => match u with | (j58_C_h_10, j58_L_1, j58_L_2, j58_L_3) => (j58_L_3.toInt + 2).toNat) (fun u H locs ls hi ih58 => ?_) (j33_C_h_10, 0, j33_L_2, v56) _ _ _ ⟨by have zq0 : (0 : Int32).toInt = 0 := (by decide); omega, by omega, by omega, by have zq0 : (0 : Int32).toInt = 0 := (by decide); omega, by omega, by omega, by omega, by have zq0 : (0 : Int32).toInt = 0 := (by decide); omega, by omega, by omega, Wd, lv_sub hl [0, 1, 2, 3] rfl⟩
        obtain ⟨j58_C_h_10, j58_L_1, j58_L_2, j58_L_3⟩ := u
        obtain ⟨i58_0, i58_1, i58_2, i58_3, i58_4, i58_5, i58_6, i58_7, i58_8, i58_9, Wd, hl⟩ := hi
        refine lv_iload_n C.1 C.2.1 dX1_settle_58 rfl (lv_at hl 0 rfl) ?_
        refine lv_if_lt (tgt := 136) C.1 C.2.1 dX1_settle_59 (by decide) (fun c59 => ?_) (fun c59 => ?_)
        · have i59 : j58_L_3.toInt < 0 := kz_lt c59
          obtain ⟨v136, ev136⟩ : ∃ z : Int32, j58_L_2 + 1 = z := ⟨_, rfl⟩
          have iv136 : v136.toInt = j58_L_2.toInt + 1 := kz_addc ev136 (by decide) (by have zr0 := kz_rng j58_L_2; omega) (by have zr0 := kz_rng j58_L_2; omega)
          refine lv_iinc (v := v136) (lv' := [(2, .int v136), (3, .int j58_L_3), (1, .int j58_L_1), (0, .ref h)]) C.1 C.2.1 dX1_settle_136 hl (k := 2) rfl ev136 (by decide) rfl (fun ls hl => ?_)
          refine lv_goto (tgt := 33) C.1 C.2.1 dX1_settle_139 (by decide) ?_
          exact ih33 (j58_C_h_10, j58_L_1, v136) _ _ _ ⟨by omega, by omega, by omega, by omega, by omega, Wd, lv_sub hl [0, 2, 3] rfl⟩ (by show (243 - v136.toInt).toNat < (243 - j33_L_2.toInt).toNat; omega)
        · have i59 : 0 ≤ j58_L_3.toInt := kz_nlt c59
          refine lv_aload_n C.1 C.2.1 dX1_settle_62 rfl (lv_at hl 3 rfl) ?_
          refine k_get C Wd KX1 0 8 rfl (by decide) fl_X1_39 rfl dX1_settle_63 ?_
          refine lv_iload_n C.1 C.2.1 dX1_settle_66 rfl (lv_at hl 0 rfl) ?_
          obtain ⟨v67, ev67⟩ : ∃ z : Int32, f_h_8 j58_L_3.toNatClampNeg = z := ⟨_, rfl⟩
          refine k_iald (v := v67) C Wd 2 1 rfl rfl (vp_in_iff.mpr ⟨by omega, by omega⟩) ev67 dX1_settle_67 ?_
          refine lv_aload_n C.1 C.2.1 dX1_settle_68 rfl (lv_at hl 3 rfl) ?_
          refine lv_aload_n C.1 C.2.1 dX1_settle_69 rfl (lv_at hl 3 rfl) ?_
          refine k_get C Wd KX1 0 6 rfl (by decide) fl_X1_33 rfl dX1_settle_70 ?_
          refine lv_iload_n C.1 C.2.1 dX1_settle_73 rfl (lv_at hl 0 rfl) ?_
          obtain ⟨v74, ev74⟩ : ∃ z : Int32, f_h_6 j58_L_3.toNatClampNeg = z := ⟨_, rfl⟩
          refine k_iald (v := v74) C Wd 3 2 rfl rfl (vp_in_iff.mpr ⟨by omega, by omega⟩) ev74 dX1_settle_74 ?_
          refine k_pi (k_runV (rest := [.int v67]) C aks Wd cs_X1_74 (sX1_aheadOf l D h v74 (h_0 : Value) h_1 h_2 h_3 h_4 h_5 h_6 h_7 h_8 h_9 h_10 h_11 h_12 h_13 a_h_10 j58_C_h_10 _ (by omega) (by omega)) [0, 1] rfl (by decide) [0] rfl 0 1 rfl rfl rfl rfl rfl ⟨(Nat.le_of_ble_eq_true rfl), (Nat.le_of_ble_eq_true rfl)⟩ hl.1 rfl rfl (Nat.le_of_ble_eq_true rfl) ⟨(Nat.le_of_ble_eq_true rfl), (Nat.le_of_ble_eq_true rfl)⟩ dX1_settle_75) (fun r75 w75 => ?_)
          refine lv_aload_n C.1 C.2.1 dX1_settle_78 rfl (lv_at hl 3 rfl) ?_
          refine lv_aload_n C.1 C.2.1 dX1_settle_79 rfl (lv_at hl 3 rfl) ?_
          refine k_get C Wd KX1 0 7 rfl (by decide) fl_X1_36 rfl dX1_settle_80 ?_
          refine lv_iload_n C.1 C.2.1 dX1_settle_83 rfl (lv_at hl 0 rfl) ?_
          obtain ⟨v84, ev84⟩ : ∃ z : Int32, f_h_7 j58_L_3.toNatClampNeg = z := ⟨_, rfl⟩
          refine k_iald (v := v84) C Wd 4 3 rfl rfl (vp_in_iff.mpr ⟨by omega, by omega⟩) ev84 dX1_settle_84 ?_
          refine k_pi (k_runV (rest := [.int r75, .int v67]) C aks Wd cs_X1_74 (sX1_aheadOf l D h v84 (h_0 : Value) h_1 h_2 h_3 h_4 h_5 h_6 h_7 h_8 h_9 h_10 h_11 h_12 h_13 a_h_10 j58_C_h_10 _ (by omega) (by omega)) [0, 1] rfl (by decide) [0] rfl 0 1 rfl rfl rfl rfl rfl ⟨(Nat.le_of_ble_eq_true rfl), (Nat.le_of_ble_eq_true rfl)⟩ hl.1 rfl rfl (Nat.le_of_ble_eq_true rfl) ⟨(Nat.le_of_ble_eq_true rfl), (Nat.le_of_ble_eq_true rfl)⟩ dX1_settle_85) (fun r85 w85 => ?_)
          obtain ⟨v88, ev88⟩ : ∃ z : Int32, r75 ||| r85 = z := ⟨_, rfl⟩
          refine k_ior (v := v88) C ev88 dX1_settle_88 ?_
          refine lv_aload_n C.1 C.2.1 dX1_settle_89 rfl (lv_at hl 3 rfl) ?_
          refine k_get C Wd KX1 0 9 rfl (by decide) fl_X1_42 rfl dX1_settle_90 ?_
          refine lv_iload_n C.1 C.2.1 dX1_settle_93 rfl (lv_at hl 0 rfl) ?_
          obtain ⟨v94, ev94⟩ : ∃ z : Int32, f_h_9 j58_L_3.toNatClampNeg = z := ⟨_, rfl⟩
          refine k_iald (v := v94) C Wd 5 4 rfl rfl (vp_in_iff.mpr ⟨by omega, by omega⟩) ev94 dX1_settle_94 ?_
          refine lv_iconst (v := (-1)) C.1 C.2.1 dX1_settle_95 (by decide) ?_
          obtain ⟨v96, ev96⟩ : ∃ z : Int32, v94 ^^^ (-1) = z := ⟨_, rfl⟩
          refine k_ixor (v := v96) C ev96 dX1_settle_96 ?_
          obtain ⟨v97, ev97⟩ : ∃ z : Int32, v88 &&& v96 = z := ⟨_, rfl⟩
          refine k_iand (v := v97) C ev97 dX1_settle_97 ?_
          obtain ⟨v98, ev98⟩ : ∃ z : Int32, v67 ||| v97 = z := ⟨_, rfl⟩
          refine k_ior (v := v98) C ev98 dX1_settle_98 ?_
          refine lv_istore (lv' := [(4, .int v98), (3, .int j58_L_3), (1, .int j58_L_1), (2, .int j58_L_2), (0, .ref h)]) C.1 C.2.1 dX1_settle_99 hl (by decide) rfl (fun ls hl => ?_)
          refine lv_iload_n C.1 C.2.1 dX1_settle_101 rfl (lv_at hl 2 rfl) ?_
          refine k_cutA (fun (j121_S_0 : Int32) H locs ls => 0 ≤ j121_S_0.toInt ∧ j121_S_0.toInt ≤ 1 ∧ j58_L_1.toInt ≤ j121_S_0.toInt ∧ wX D [(a_h_10, .int), (a_h_8, .int), (a_h_6, .int), (a_h_7, .int), (a_h_9, .int)] s [(h, .inr (1, [h_0, .int h_1, .ref h_2, .ref h_3, .ref h_4, .ref h_5, .ref h_6, .ref h_7, .ref h_8, .ref h_9, .ref h_10, .ref h_11, .ref h_12, .ref h_13])), (h_10, .inl (a_h_10, 40, .inl j58_C_h_10)), (h_8, .inl (a_h_8, 40, .inl f_h_8)), (h_6, .inl (a_h_6, 40, .inl f_h_6)), (h_7, .inl (a_h_7, 40, .inl f_h_7)), (h_9, .inl (a_h_9, 40, .inl f_h_9))] H A s.heap locs ∧ lv_has ls 5 [(4, .int v98), (3, .int j58_L_3), (1, .int j58_L_1), (2, .int j58_L_2), (0, .ref h)]) (fun (j121_S_0 : Int32) ls => F0 m 121 ls [.int j121_S_0]) (fun j121_S_0 H locs ls hi => ?_) (fun J121 => ?_)
          · obtain ⟨i121_0, i121_1, i121_2, Wd, hl⟩ := hi
            refine lv_istore_n (lv' := [(1, .int j121_S_0), (4, .int v98), (3, .int j58_L_3), (2, .int j58_L_2), (0, .ref h)]) C.1 C.2.1 dX1_settle_121 rfl hl (by decide) rfl (fun ls hl => ?_)
            refine lv_aload_n C.1 C.2.1 dX1_settle_122 rfl (lv_at hl 4 rfl) ?_
            refine k_get C Wd KX1 0 10 rfl (by decide) fl_X1_45 rfl dX1_settle_123 ?_
            refine lv_iload_n C.1 C.2.1 dX1_settle_126 rfl (lv_at hl 2 rfl) ?_
            refine lv_iload C.1 C.2.1 dX1_settle_127 (lv_at hl 1 rfl) ?_
            obtain ⟨f129, ef129⟩ : ∃ z : Nat → Int32, upd j58_C_h_10 j58_L_3.toNatClampNeg v98 = z := ⟨_, rfl⟩
            refine k_iast C Wd 1 0 [(h, .inr (1, [h_0, .int h_1, .ref h_2, .ref h_3, .ref h_4, .ref h_5, .ref h_6, .ref h_7, .ref h_8, .ref h_9, .ref h_10, .ref h_11, .ref h_12, .ref h_13])), (h_10, .inl (a_h_10, 40, .inl f129)), (h_8, .inl (a_h_8, 40, .inl f_h_8)), (h_6, .inl (a_h_6, 40, .inl f_h_6)), (h_7, .inl (a_h_7, 40, .inl f_h_7)), (h_9, .inl (a_h_9, 40, .inl f_h_9))] rfl rfl (vp_in_iff.mpr ⟨by omega, by omega⟩) ef129 rfl dX1_settle_129 (fun H locs Wd => ?_)
            obtain ⟨v130, ev130⟩ : ∃ z : Int32, j58_L_3 + (-1) = z := ⟨_, rfl⟩
            have iv130 : v130.toInt = j58_L_3.toInt + (-1) := kz_addc ev130 (by decide) (by have zr0 := kz_rng j58_L_3; omega) (by have zr0 := kz_rng j58_L_3; omega)
            refine lv_iinc (v := v130) (lv' := [(3, .int v130), (1, .int j121_S_0), (4, .int v98), (2, .int j58_L_2), (0, .ref h)]) C.1 C.2.1 dX1_settle_130 hl (k := 2) rfl ev130 (by decide) rfl (fun ls hl => ?_)
            refine lv_goto (tgt := 58) C.1 C.2.1 dX1_settle_133 (by decide) ?_
            exact ih58 (f129, j121_S_0, j58_L_2, v130) _ _ _ ⟨by omega, by omega, by omega, by omega, by omega, by omega, by omega, by omega, by omega, by omega, Wd, lv_sub hl [0, 1, 3, 4] rfl⟩ (by show (v130.toInt + 2).toNat < (j58_L_3.toInt + 2).toNat; omega)
          refine k_cutA (fun (_ : Unit) H locs ls => wX D [(a_h_10, .int), (a_h_8, .int), (a_h_6, .int), (a_h_7, .int), (a_h_9, .int)] s [(h, .inr (1, [h_0, .int h_1, .ref h_2, .ref h_3, .ref h_4, .ref h_5, .ref h_6, .ref h_7, .ref h_8, .ref h_9, .ref h_10, .ref h_11, .ref h_12, .ref h_13])), (h_10, .inl (a_h_10, 40, .inl j58_C_h_10)), (h_8, .inl (a_h_8, 40, .inl f_h_8)), (h_6, .inl (a_h_6, 40, .inl f_h_6)), (h_7, .inl (a_h_7, 40, .inl f_h_7)), (h_9, .inl (a_h_9, 40, .inl f_h_9))] H A s.heap locs ∧ lv_has ls 5 [(4, .int v98), (3, .int j58_L_3), (1, .int j58_L_1), (2, .int j58_L_2), (0, .ref h)]) (fun (_ : Unit) ls => F0 m 116 ls []) (fun _ H locs ls hi => ?_) (fun J116 => ?_)
          · obtain ⟨Wd, hl⟩ := hi
            refine lv_iconst (v := 1) C.1 C.2.1 dX1_settle_116 (by decide) ?_
            refine lv_goto (tgt := 121) C.1 C.2.1 dX1_settle_117 (by decide) ?_
            exact J121 1 _ _ _ ⟨by have zq1 : (1 : Int32).toInt = 1 := (by decide); omega, by have zq1 : (1 : Int32).toInt = 1 := (by decide); omega, by have zq1 : (1 : Int32).toInt = 1 := (by decide); omega, Wd, lv_sub hl [0, 1, 2, 3, 4] rfl⟩
          refine lv_if_ne (tgt := 116) C.1 C.2.1 dX1_settle_102 (by decide) (fun c102 => ?_) (fun c102 => ?_)
          · have i102 : ¬ j58_L_1.toInt = 0 := kz_ne c102
            exact J116 () _ _ _ ⟨Wd, lv_sub hl [0, 1, 2, 3, 4] rfl⟩
          · have i102 : j58_L_1.toInt = 0 := kz_eq c102
            refine lv_iload C.1 C.2.1 dX1_settle_105 (lv_at hl 0 rfl) ?_
            refine lv_aload_n C.1 C.2.1 dX1_settle_107 rfl (lv_at hl 4 rfl) ?_
            refine k_get C Wd KX1 0 10 rfl (by decide) fl_X1_45 rfl dX1_settle_108 ?_
            refine lv_iload_n C.1 C.2.1 dX1_settle_111 rfl (lv_at hl 1 rfl) ?_
            obtain ⟨v112, ev112⟩ : ∃ z : Int32, j58_C_h_10 j58_L_3.toNatClampNeg = z := ⟨_, rfl⟩
            refine k_iald (v := v112) C Wd 1 0 rfl rfl (vp_in_iff.mpr ⟨by omega, by omega⟩) ev112 dX1_settle_112 ?_
            refine lv_icmp_eq (tgt := 120) C.1 C.2.1 dX1_settle_113 (by decide) (fun c113 => ?_) (fun c113 => ?_)
            · have i113 : v98.toInt = v112.toInt := kz_eq c113
              refine lv_iconst (v := 0) C.1 C.2.1 dX1_settle_120 (by decide) ?_
              exact J121 0 _ _ _ ⟨by have zq0 : (0 : Int32).toInt = 0 := (by decide); omega, by have zq0 : (0 : Int32).toInt = 0 := (by decide); omega, by have zq0 : (0 : Int32).toInt = 0 := (by decide); omega, Wd, lv_sub hl [0, 1, 2, 3, 4] rfl⟩
            · have i113 : ¬ v98.toInt = v112.toInt := kz_ne c113
              exact J116 () _ _ _ ⟨Wd, lv_sub hl [0, 1, 2, 3, 4] rfl⟩
  · have i7 : j2_L_1.toInt < h_1.toInt := kz_nle c7
    refine lv_iload_n C.1 C.2.1 dX1_settle_10 rfl (lv_at hl 0 rfl) ?_
    refine lv_bipush (v := 40) C.1 C.2.1 dX1_settle_11 (by decide) ?_
    refine lv_icmp_ge (tgt := 29) C.1 C.2.1 dX1_settle_13 (by decide) (fun c13 => False.elim (by have i13 : 40 ≤ j2_L_1.toInt := kz_le c13; omega)) (fun _ => ?_)
    refine lv_aload_n C.1 C.2.1 dX1_settle_16 rfl (lv_at hl 1 rfl) ?_
    refine k_get C Wd KX1 0 10 rfl (by decide) fl_X1_45 rfl dX1_settle_17 ?_
    refine lv_iload_n C.1 C.2.1 dX1_settle_20 rfl (lv_at hl 0 rfl) ?_
    refine lv_iconst (v := 0) C.1 C.2.1 dX1_settle_21 (by decide) ?_
    obtain ⟨f22, ef22⟩ : ∃ z : Nat → Int32, upd j2_C_h_10 j2_L_1.toNatClampNeg 0 = z := ⟨_, rfl⟩
    refine k_iast C Wd 1 0 [(h, .inr (1, [h_0, .int h_1, .ref h_2, .ref h_3, .ref h_4, .ref h_5, .ref h_6, .ref h_7, .ref h_8, .ref h_9, .ref h_10, .ref h_11, .ref h_12, .ref h_13])), (h_10, .inl (a_h_10, 40, .inl f22)), (h_8, .inl (a_h_8, 40, .inl f_h_8)), (h_6, .inl (a_h_6, 40, .inl f_h_6)), (h_7, .inl (a_h_7, 40, .inl f_h_7)), (h_9, .inl (a_h_9, 40, .inl f_h_9))] rfl rfl (vp_in_iff.mpr ⟨by omega, by omega⟩) ef22 rfl dX1_settle_22 (fun H locs Wd => ?_)
    obtain ⟨v23, ev23⟩ : ∃ z : Int32, j2_L_1 + 1 = z := ⟨_, rfl⟩
    have iv23 : v23.toInt = j2_L_1.toInt + 1 := kz_addc ev23 (by decide) (by have zr0 := kz_rng j2_L_1; omega) (by have zr0 := kz_rng j2_L_1; omega)
    refine lv_iinc (v := v23) (lv' := [(1, .int v23), (0, .ref h)]) C.1 C.2.1 dX1_settle_23 hl (k := 0) rfl ev23 (by decide) rfl (fun ls hl => ?_)
    refine lv_goto (tgt := 2) C.1 C.2.1 dX1_settle_26 (by decide) ?_
    exact ih2 (f22, v23) _ _ _ ⟨by omega, by omega, by omega, Wd, lv_sub hl [0, 1] rfl⟩ (by show (41 - v23.toInt).toNat < (41 - j2_L_1.toInt).toNat; omega)
