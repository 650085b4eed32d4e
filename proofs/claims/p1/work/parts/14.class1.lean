set_option maxHeartbeats 4000000 in
set_option maxRecDepth 100000 in
theorem kcX6_begin_v1 (l : Launch) (D : va_G) (h0 h1 h2 h3 h4 h5 h6 h7 h8 : Nat) (sz : Nat)  : Met l yX6_begin (Cond.code yX6_begin cX6_begin 4 none :: gG) { frames := 2, cells := 0, slots := 0, locals := 84 } (cPre D [] [(h0, .inr (6, [.ref h2, .int 0, .int (-1), .ref h3, .null, .int 0, .int 0, .int 0, .int 0, .int 0, .int 0, .int 0, .int 0, .int 0, .ref h4, .ref h5, .ref h6])), (h1, .inr (8, [.ref h7, .int 0])), (h2, .inr (10, [.ref h8, .int 0, .int 0, .int 0, .int 0, .int 0]))] sz [.ref h0, .ref h1, .null, .int 300]) (va_Qv (fun (_ : Unit) => True) (fun u t => cB D (va_A [(h0, .inr (6, [.ref h2, .int 0, .int (-1), .ref h3, .null, .int 0, .int 0, .int 0, .int 0, .int 0, .int 0, .int 0, .int 0, .int 0, .ref h4, .ref h5, .ref h6])), (h1, .inr (8, [.ref h7, .int 0])), (h2, .inr (10, [.ref h8, .int 0, .int 0, .int 0, .int 0, .int 0]))] sz) ((fun (_ : Unit) => ([] : List (ClassId × FieldType))) u) ((fun (_ : Unit) => ([(h0, .inr (6, [.ref h2, .int 0, .int (-1), .ref h1, .null, .int 0, .int 0, .int 0, .int 0, .int 300, .int 0, .int 0, .int 0, .int 0, .ref h4, .ref h5, .ref h6])), (h1, .inr (8, [.ref h7, .int 0])), (h2, .inr (10, [.ref h8, .int 0, .int 0, .int 0, .int 0, .int 0]))] : va_W)) u) t) (va_A [(h0, .inr (6, [.ref h2, .int 0, .int (-1), .ref h3, .null, .int 0, .int 0, .int 0, .int 0, .int 0, .int 0, .int 0, .int 0, .int 0, .ref h4, .ref h5, .ref h6])), (h1, .inr (8, [.ref h7, .int 0])), (h2, .inr (10, [.ref h8, .int 0, .int 0, .int 0, .int 0, .int 0]))] sz)) 0 0 (va_A [(h0, .inr (6, [.ref h2, .int 0, .int (-1), .ref h3, .null, .int 0, .int 0, .int 0, .int 0, .int 0, .int 0, .int 0, .int 0, .int 0, .ref h4, .ref h5, .ref h6])), (h1, .inr (8, [.ref h7, .int 0])), (h2, .inr (10, [.ref h8, .int 0, .int 0, .int 0, .int 0, .int 0]))] sz) := by
  refine Met.ofW (cc := cX6_begin) (maxL := 4) (ret := none) (by decide) rfl ?_
  intro p e s m args below meth c s₁ B hml hv
  obtain ⟨rfl, aks, rfl, Wd⟩ := k_enter hv
  have C : CallFix p m c cX6_begin 4 s _ gG RX6 := ⟨B.exec, B.bytes, hml, findClass_of_methodNamed B.named, fun w h => atoms_spec (ws := Cond.code yX6_begin cX6_begin 4 none :: gG) B.pre w (List.mem_cons_of_mem _ h)⟩
  have hr := B.returns
  have hlk := B.notSynchronized
  generalize va_A [(h0, .inr (6, [.ref h2, .int 0, .int (-1), .ref h3, .null, .int 0, .int 0, .int 0, .int 0, .int 0, .int 0, .int 0, .int 0, .int 0, .ref h4, .ref h5, .ref h6])), (h1, .inr (8, [.ref h7, .int 0])), (h2, .inr (10, [.ref h8, .int 0, .int 0, .int 0, .int 0, .int 0]))] s.heap.size = A at Wd ⊢
  refine k_locals (Nat.le_of_ble_eq_true rfl) [(0, .ref h0), (1, .ref h1), (2, .null), (3, .int 300)] rfl (fun ls hl => ?_)
  refine lv_aload_n C.1 C.2.1 dX6_begin_0 rfl (lv_at hl 0 rfl) ?_
  refine lv_iconst (v := 0) C.1 C.2.1 dX6_begin_1 (by decide) ?_
  refine k_put C Wd KX6 0 1 [(h0, .inr (6, [.ref h2, .int 0, .int (-1), .ref h3, .null, .int 0, .int 0, .int 0, .int 0, .int 0, .int 0, .int 0, .int 0, .int 0, .ref h4, .ref h5, .ref h6])), (h1, .inr (8, [.ref h7, .int 0])), (h2, .inr (10, [.ref h8, .int 0, .int 0, .int 0, .int 0, .int 0]))] rfl (by decide) fl_X6_37 rfl rfl rfl (Nat.le_of_ble_eq_true rfl) rfl dX6_begin_2 (fun H locs Wd => ?_)
  refine lv_aload_n C.1 C.2.1 dX6_begin_5 rfl (lv_at hl 0 rfl) ?_
  refine lv_iconst (v := (-1)) C.1 C.2.1 dX6_begin_6 (by decide) ?_
  refine k_put C Wd KX6 0 2 [(h0, .inr (6, [.ref h2, .int 0, .int (-1), .ref h3, .null, .int 0, .int 0, .int 0, .int 0, .int 0, .int 0, .int 0, .int 0, .int 0, .ref h4, .ref h5, .ref h6])), (h1, .inr (8, [.ref h7, .int 0])), (h2, .inr (10, [.ref h8, .int 0, .int 0, .int 0, .int 0, .int 0]))] rfl (by decide) fl_X6_41 rfl rfl rfl (Nat.le_of_ble_eq_true rfl) rfl dX6_begin_7 (fun H locs Wd => ?_)
  refine lv_aload_n C.1 C.2.1 dX6_begin_10 rfl (lv_at hl 0 rfl) ?_
  refine lv_aload_n C.1 C.2.1 dX6_begin_11 rfl (lv_at hl 1 rfl) ?_
  refine k_put C Wd KX6 0 3 [(h0, .inr (6, [.ref h2, .int 0, .int (-1), .ref h1, .null, .int 0, .int 0, .int 0, .int 0, .int 0, .int 0, .int 0, .int 0, .int 0, .ref h4, .ref h5, .ref h6])), (h1, .inr (8, [.ref h7, .int 0])), (h2, .inr (10, [.ref h8, .int 0, .int 0, .int 0, .int 0, .int 0]))] rfl (by decide) fl_X6_23 rfl rfl rfl (Nat.le_of_ble_eq_true rfl) rfl dX6_begin_12 (fun H locs Wd => ?_)
  refine lv_aload_n C.1 C.2.1 dX6_begin_15 rfl (lv_at hl 0 rfl) ?_
  refine k_get C Wd KX6 0 3 rfl (by decide) fl_X6_23 rfl dX6_begin_16 ?_
  refine lv_iconst (v := 0) C.1 C.2.1 dX6_begin_19 (by decide) ?_
  refine k_put C Wd KX8 1 1 [(h0, .inr (6, [.ref h2, .int 0, .int (-1), .ref h1, .null, .int 0, .int 0, .int 0, .int 0, .int 0, .int 0, .int 0, .int 0, .int 0, .ref h4, .ref h5, .ref h6])), (h1, .inr (8, [.ref h7, .int 0])), (h2, .inr (10, [.ref h8, .int 0, .int 0, .int 0, .int 0, .int 0]))] rfl (by decide) fl_X6_66 rfl rfl rfl (Nat.le_of_ble_eq_true rfl) rfl dX6_begin_20 (fun H locs Wd => ?_)
  refine lv_aload_n C.1 C.2.1 dX6_begin_23 rfl (lv_at hl 0 rfl) ?_
  refine lv_aload_nN C.1 C.2.1 dX6_begin_24 rfl (lv_at hl 2 rfl) ?_
  refine k_put C Wd KX6 0 4 [(h0, .inr (6, [.ref h2, .int 0, .int (-1), .ref h1, .null, .int 0, .int 0, .int 0, .int 0, .int 0, .int 0, .int 0, .int 0, .int 0, .ref h4, .ref h5, .ref h6])), (h1, .inr (8, [.ref h7, .int 0])), (h2, .inr (10, [.ref h8, .int 0, .int 0, .int 0, .int 0, .int 0]))] rfl (by decide) fl_X6_69 rfl rfl rfl (Nat.le_of_ble_eq_true rfl) rfl dX6_begin_25 (fun H locs Wd => ?_)
  refine lv_aload_n C.1 C.2.1 dX6_begin_28 rfl (lv_at hl 0 rfl) ?_
  refine lv_iconst (v := 0) C.1 C.2.1 dX6_begin_29 (by decide) ?_
  refine k_put C Wd KX6 0 7 [(h0, .inr (6, [.ref h2, .int 0, .int (-1), .ref h1, .null, .int 0, .int 0, .int 0, .int 0, .int 0, .int 0, .int 0, .int 0, .int 0, .ref h4, .ref h5, .ref h6])), (h1, .inr (8, [.ref h7, .int 0])), (h2, .inr (10, [.ref h8, .int 0, .int 0, .int 0, .int 0, .int 0]))] rfl (by decide) fl_X6_73 rfl rfl rfl (Nat.le_of_ble_eq_true rfl) rfl dX6_begin_30 (fun H locs Wd => ?_)
  refine lv_aload_n C.1 C.2.1 dX6_begin_33 rfl (lv_at hl 0 rfl) ?_
  refine lv_iconst (v := 0) C.1 C.2.1 dX6_begin_34 (by decide) ?_
  refine k_put C Wd KX6 0 8 [(h0, .inr (6, [.ref h2, .int 0, .int (-1), .ref h1, .null, .int 0, .int 0, .int 0, .int 0, .int 0, .int 0, .int 0, .int 0, .int 0, .ref h4, .ref h5, .ref h6])), (h1, .inr (8, [.ref h7, .int 0])), (h2, .inr (10, [.ref h8, .int 0, .int 0, .int 0, .int 0, .int 0]))] rfl (by decide) fl_X6_76 rfl rfl rfl (Nat.le_of_ble_eq_true rfl) rfl dX6_begin_35 (fun H locs Wd => ?_)
  refine lv_aload_n C.1 C.2.1 dX6_begin_38 rfl (lv_at hl 0 rfl) ?_
  refine lv_iload_n C.1 C.2.1 dX6_begin_39 rfl (lv_at hl 3 rfl) ?_
  refine k_put C Wd KX6 0 9 [(h0, .inr (6, [.ref h2, .int 0, .int (-1), .ref h1, .null, .int 0, .int 0, .int 0, .int 0, .int 300, .int 0, .int 0, .int 0, .int 0, .ref h4, .ref h5, .ref h6])), (h1, .inr (8, [.ref h7, .int 0])), (h2, .inr (10, [.ref h8, .int 0, .int 0, .int 0, .int 0, .int 0]))] rfl (by decide) fl_X6_79 rfl rfl rfl (Nat.le_of_ble_eq_true rfl) rfl dX6_begin_40 (fun H locs Wd => ?_)
  refine lv_aload_n C.1 C.2.1 dX6_begin_43 rfl (lv_at hl 0 rfl) ?_
  refine lv_iconst (v := 0) C.1 C.2.1 dX6_begin_44 (by decide) ?_
  refine k_put C Wd KX6 0 13 [(h0, .inr (6, [.ref h2, .int 0, .int (-1), .ref h1, .null, .int 0, .int 0, .int 0, .int 0, .int 300, .int 0, .int 0, .int 0, .int 0, .ref h4, .ref h5, .ref h6])), (h1, .inr (8, [.ref h7, .int 0])), (h2, .inr (10, [.ref h8, .int 0, .int 0, .int 0, .int 0, .int 0]))] rfl (by decide) fl_X6_82 rfl rfl rfl (Nat.le_of_ble_eq_true rfl) rfl dX6_begin_45 (fun H locs Wd => ?_)
  refine lv_aload_n C.1 C.2.1 dX6_begin_48 rfl (lv_at hl 0 rfl) ?_
  refine k_get C Wd KX6 0 0 rfl (by decide) fl_X6_12 rfl dX6_begin_49 ?_
  refine k_cv Wd [2] [0, 1] rfl (wr := [(h0, .inr (6, [.ref h2, .int 0, .int (-1), .ref h1, .null, .int 0, .int 0, .int 0, .int 0, .int 300, .int 0, .int 0, .int 0, .int 0, .ref h4, .ref h5, .ref h6])), (h1, .inr (8, [.ref h7, .int 0]))]) rfl (by decide) (by decide) (cells' := 0) (slots' := 0) (by decide) (by decide) (k_runV (rest := []) C aks Wd cs_X6_85 (kcX10_rewind l D h2 h8 _ ) [2] rfl (by decide) [] rfl 2 10 rfl rfl rfl rfl rfl ⟨(Nat.le_of_ble_eq_true rfl), (Nat.le_of_ble_eq_true rfl)⟩ hl.1 rfl rfl (Nat.le_of_ble_eq_true rfl) ⟨(Nat.le_of_ble_eq_true rfl), (Nat.le_of_ble_eq_true rfl)⟩ dX6_begin_52) (fun _ H locs w1376 Wd => ?_)
  have Wd : wX D [] s [(h0, .inr (6, [.ref h2, .int 0, .int (-1), .ref h1, .null, .int 0, .int 0, .int 0, .int 0, .int 300, .int 0, .int 0, .int 0, .int 0, .ref h4, .ref h5, .ref h6])), (h1, .inr (8, [.ref h7, .int 0])), (h2, .inr (10, [.ref h8, .int 0, .int 0, .int 0, .int 0, .int 0]))] _ A s.heap _ := Wd
  exact k_vret C hr hlk Wd () trivial [0, 1, 2] rfl (by decide) [] rfl (by decide) (by decide) dX6_begin_55
set_option maxHeartbeats 4000000 in
set_option maxRecDepth 100000 in
theorem kcX6_beginProgram (l : Launch) (D : va_G) (h0 h1 h2 h3 h4 h5 h6 h7 h8 : Nat) (sz : Nat)  : Met l yX6_beginProgram (Cond.code yX6_beginProgram cX6_beginProgram 2 none :: gG) { frames := 3, cells := 0, slots := 0, locals := 107 } (cPre D [] [(h0, .inr (6, [.ref h2, .int 0, .int (-1), .ref h3, .null, .int 0, .int 0, .int 0, .int 0, .int 0, .int 0, .int 0, .int 0, .int 0, .ref h4, .ref h5, .ref h6])), (h1, .inr (8, [.ref h7, .int 0])), (h2, .inr (10, [.ref h8, .int 0, .int 0, .int 0, .int 0, .int 0]))] sz [.ref h0, .ref h1]) (va_Qv (fun (_ : Unit) => True) (fun u t => cB D (va_A [(h0, .inr (6, [.ref h2, .int 0, .int (-1), .ref h3, .null, .int 0, .int 0, .int 0, .int 0, .int 0, .int 0, .int 0, .int 0, .int 0, .ref h4, .ref h5, .ref h6])), (h1, .inr (8, [.ref h7, .int 0])), (h2, .inr (10, [.ref h8, .int 0, .int 0, .int 0, .int 0, .int 0]))] sz) ((fun (_ : Unit) => ([] : List (ClassId × FieldType))) u) ((fun (_ : Unit) => ([(h0, .inr (6, [.ref h2, .int 0, .int (-1), .ref h1, .null, .int 0, .int 0, .int 0, .int 0, .int 300, .int 0, .int 0, .int 0, .int 0, .ref h4, .ref h5, .ref h6])), (h1, .inr (8, [.ref h7, .int 0])), (h2, .inr (10, [.ref h8, .int 0, .int 0, .int 0, .int 0, .int 0]))] : va_W)) u) t) (va_A [(h0, .inr (6, [.ref h2, .int 0, .int (-1), .ref h3, .null, .int 0, .int 0, .int 0, .int 0, .int 0, .int 0, .int 0, .int 0, .int 0, .ref h4, .ref h5, .ref h6])), (h1, .inr (8, [.ref h7, .int 0])), (h2, .inr (10, [.ref h8, .int 0, .int 0, .int 0, .int 0, .int 0]))] sz)) 0 0 (va_A [(h0, .inr (6, [.ref h2, .int 0, .int (-1), .ref h3, .null, .int 0, .int 0, .int 0, .int 0, .int 0, .int 0, .int 0, .int 0, .int 0, .ref h4, .ref h5, .ref h6])), (h1, .inr (8, [.ref h7, .int 0])), (h2, .inr (10, [.ref h8, .int 0, .int 0, .int 0, .int 0, .int 0]))] sz) := by
  refine Met.ofW (cc := cX6_beginProgram) (maxL := 2) (ret := none) (by decide) rfl ?_
  intro p e s m args below meth c s₁ B hml hv
  obtain ⟨rfl, aks, rfl, Wd⟩ := k_enter hv
  have C : CallFix p m c cX6_beginProgram 2 s _ gG RX6 := ⟨B.exec, B.bytes, hml, findClass_of_methodNamed B.named, fun w h => atoms_spec (ws := Cond.code yX6_beginProgram cX6_beginProgram 2 none :: gG) B.pre w (List.mem_cons_of_mem _ h)⟩
  have hr := B.returns
  have hlk := B.notSynchronized
  generalize va_A [(h0, .inr (6, [.ref h2, .int 0, .int (-1), .ref h3, .null, .int 0, .int 0, .int 0, .int 0, .int 0, .int 0, .int 0, .int 0, .int 0, .ref h4, .ref h5, .ref h6])), (h1, .inr (8, [.ref h7, .int 0])), (h2, .inr (10, [.ref h8, .int 0, .int 0, .int 0, .int 0, .int 0]))] s.heap.size = A at Wd ⊢
  refine k_locals (Nat.le_of_ble_eq_true rfl) [(0, .ref h0), (1, .ref h1)] rfl (fun ls hl => ?_)
  refine lv_aload_n C.1 C.2.1 dX6_beginProgram_0 rfl (lv_at hl 0 rfl) ?_
  refine lv_aload_n C.1 C.2.1 dX6_beginProgram_1 rfl (lv_at hl 1 rfl) ?_
  refine lv_null C.1 C.2.1 dX6_beginProgram_2 ?_
  refine lv_sipush (v := 300) C.1 C.2.1 dX6_beginProgram_3 (by decide) ?_
  refine k_cv Wd [0, 1, 2] [] rfl (wr := []) rfl (by decide) (by decide) (cells' := 0) (slots' := 0) (by decide) (by decide) (k_runV (rest := []) C aks Wd cs_X6_48 (kcX6_begin_v1 l D h0 h1 h2 h3 h4 h5 h6 h7 h8 _ ) [0, 1, 2] rfl (by decide) [] rfl 0 6 rfl rfl rfl rfl rfl ⟨(Nat.le_of_ble_eq_true rfl), (Nat.le_of_ble_eq_true rfl)⟩ hl.1 rfl rfl (Nat.le_of_ble_eq_true rfl) ⟨(Nat.le_of_ble_eq_true rfl), (Nat.le_of_ble_eq_true rfl)⟩ dX6_beginProgram_6) (fun _ H locs w1378 Wd => ?_)
  have Wd : wX D [] s [(h0, .inr (6, [.ref h2, .int 0, .int (-1), .ref h1, .null, .int 0, .int 0, .int 0, .int 0, .int 300, .int 0, .int 0, .int 0, .int 0, .ref h4, .ref h5, .ref h6])), (h1, .inr (8, [.ref h7, .int 0])), (h2, .inr (10, [.ref h8, .int 0, .int 0, .int 0, .int 0, .int 0]))] _ A s.heap _ := Wd
  refine lv_aload_n C.1 C.2.1 dX6_beginProgram_9 rfl (lv_at hl 0 rfl) ?_
  refine lv_iconst (v := 0) C.1 C.2.1 dX6_beginProgram_10 (by decide) ?_
  refine k_put C Wd KX6 0 5 [(h0, .inr (6, [.ref h2, .int 0, .int (-1), .ref h1, .null, .int 0, .int 0, .int 0, .int 0, .int 300, .int 0, .int 0, .int 0, .int 0, .ref h4, .ref h5, .ref h6])), (h1, .inr (8, [.ref h7, .int 0])), (h2, .inr (10, [.ref h8, .int 0, .int 0, .int 0, .int 0, .int 0]))] rfl (by decide) fl_X6_52 rfl rfl rfl (Nat.le_of_ble_eq_true rfl) rfl dX6_beginProgram_11 (fun H locs Wd => ?_)
  exact k_vret C hr hlk Wd () trivial [0, 1, 2] rfl (by decide) [] rfl (by decide) (by decide) dX6_beginProgram_14
set_option maxHeartbeats 4000000 in
set_option maxRecDepth 100000 in
theorem kcX10_takeSign_v1 (l : Launch) (D : va_G) (h0 h1 : Nat) (sz : Nat)  : Met l yX10_takeSign (Cond.code yX10_takeSign cX10_takeSign 3 none :: gG) { frames := 1, cells := 0, slots := 0, locals := 64 } (cPre D [] [(h0, .inr (10, [.ref h1, .int 0, .int 0, .int 0, .int 0, .int 0]))] sz [.ref h0, .int (-1), .int 0]) (va_Qv (fun (_ : Unit) => True) (fun u t => cB D (va_A [(h0, .inr (10, [.ref h1, .int 0, .int 0, .int 0, .int 0, .int 0]))] sz) ((fun (_ : Unit) => ([] : List (ClassId × FieldType))) u) ((fun (_ : Unit) => ([(h0, .inr (10, [.ref h1, .int 0, .int 1, .int 0, .int 0, .int 0]))] : va_W)) u) t) (va_A [(h0, .inr (10, [.ref h1, .int 0, .int 0, .int 0, .int 0, .int 0]))] sz)) 0 0 (va_A [(h0, .inr (10, [.ref h1, .int 0, .int 0, .int 0, .int 0, .int 0]))] sz) := by
  refine Met.ofW (cc := cX10_takeSign) (maxL := 3) (ret := none) (by decide) rfl ?_
  intro p e s m args below meth c s₁ B hml hv
  obtain ⟨rfl, aks, rfl, Wd⟩ := k_enter hv
  have C : CallFix p m c cX10_takeSign 3 s _ gG RX10 := ⟨B.exec, B.bytes, hml, findClass_of_methodNamed B.named, fun w h => atoms_spec (ws := Cond.code yX10_takeSign cX10_takeSign 3 none :: gG) B.pre w (List.mem_cons_of_mem _ h)⟩
  have hr := B.returns
  have hlk := B.notSynchronized
  generalize va_A [(h0, .inr (10, [.ref h1, .int 0, .int 0, .int 0, .int 0, .int 0]))] s.heap.size = A at Wd ⊢
  refine k_locals (Nat.le_of_ble_eq_true rfl) [(0, .ref h0), (1, .int (-1)), (2, .int 0)] rfl (fun ls hl => ?_)
  refine lv_aload_n C.1 C.2.1 dX10_takeSign_0 rfl (lv_at hl 0 rfl) ?_
  refine lv_aload_n C.1 C.2.1 dX10_takeSign_1 rfl (lv_at hl 0 rfl) ?_
  refine k_get C Wd KX10 0 4 rfl (by decide) fl_X10_22 rfl dX10_takeSign_2 ?_
  refine lv_iconst (v := 1) C.1 C.2.1 dX10_takeSign_5 (by decide) ?_
  refine k_iadd (v := 1) C (by decide) dX10_takeSign_6 ?_
  refine k_put C Wd KX10 0 5 [(h0, .inr (10, [.ref h1, .int 0, .int 0, .int 0, .int 0, .int 1]))] rfl (by decide) fl_X10_19 rfl rfl rfl (Nat.le_of_ble_eq_true rfl) rfl dX10_takeSign_7 (fun H locs Wd => ?_)
  refine lv_iload_n C.1 C.2.1 dX10_takeSign_10 rfl (lv_at hl 1 rfl) ?_
  refine lv_iconst (v := (-1)) C.1 C.2.1 dX10_takeSign_11 (by decide) ?_
  refine lv_icmp_ne (tgt := 31) C.1 C.2.1 dX10_takeSign_12 (by decide) (fun c1407 => absurd c1407 (by decide)) (fun _ => ?_)
  refine lv_aload_n C.1 C.2.1 dX10_takeSign_15 rfl (lv_at hl 0 rfl) ?_
  refine lv_iconst (v := 1) C.1 C.2.1 dX10_takeSign_16 (by decide) ?_
  refine k_put C Wd KX10 0 2 [(h0, .inr (10, [.ref h1, .int 0, .int 1, .int 0, .int 0, .int 1]))] rfl (by decide) fl_X10_25 rfl rfl rfl (Nat.le_of_ble_eq_true rfl) rfl dX10_takeSign_17 (fun H locs Wd => ?_)
  refine lv_aload_n C.1 C.2.1 dX10_takeSign_20 rfl (lv_at hl 0 rfl) ?_
  refine lv_aload_n C.1 C.2.1 dX10_takeSign_21 rfl (lv_at hl 0 rfl) ?_
  refine k_get C Wd KX10 0 4 rfl (by decide) fl_X10_22 rfl dX10_takeSign_22 ?_
  refine k_put C Wd KX10 0 5 [(h0, .inr (10, [.ref h1, .int 0, .int 1, .int 0, .int 0, .int 0]))] rfl (by decide) fl_X10_19 rfl rfl rfl (Nat.le_of_ble_eq_true rfl) rfl dX10_takeSign_25 (fun H locs Wd => ?_)
  refine lv_goto (tgt := 91) C.1 C.2.1 dX10_takeSign_28 (by decide) ?_
  exact k_vret C hr hlk Wd () trivial [0] rfl (by decide) [] rfl (by decide) (by decide) dX10_takeSign_91
set_option maxHeartbeats 4000000 in
set_option maxRecDepth 100000 in
theorem kcX10_advance_v1 (l : Launch) (D : va_G) (h0 h1 : Nat) (sz : Nat)  : Met l yX10_advance (Cond.code yX10_advance cX10_advance 3 none :: gG) { frames := 3, cells := 0, slots := 0, locals := 104 } (cPre D [] [(h0, .inr (10, [.ref h1, .int 0, .int 0, .int 0, .int 0, .int 0]))] sz [.ref h0, .int 0]) (va_Qv (fun (_ : Unit) => True) (fun u t => cB D (va_A [(h0, .inr (10, [.ref h1, .int 0, .int 0, .int 0, .int 0, .int 0]))] sz) ((fun (_ : Unit) => ([] : List (ClassId × FieldType))) u) ((fun (_ : Unit) => ([(h0, .inr (10, [.ref h1, .int 0, .int 1, .int 0, .int 0, .int 0]))] : va_W)) u) t) (va_A [(h0, .inr (10, [.ref h1, .int 0, .int 0, .int 0, .int 0, .int 0]))] sz)) 0 0 (va_A [(h0, .inr (10, [.ref h1, .int 0, .int 0, .int 0, .int 0, .int 0]))] sz) := by
  refine Met.ofW (cc := cX10_advance) (maxL := 3) (ret := none) (by decide) rfl ?_
  intro p e s m args below meth c s₁ B hml hv
  obtain ⟨rfl, aks, rfl, Wd⟩ := k_enter hv
  have C : CallFix p m c cX10_advance 3 s _ gG RX10 := ⟨B.exec, B.bytes, hml, findClass_of_methodNamed B.named, fun w h => atoms_spec (ws := Cond.code yX10_advance cX10_advance 3 none :: gG) B.pre w (List.mem_cons_of_mem _ h)⟩
  have hr := B.returns
  have hlk := B.notSynchronized
  generalize va_A [(h0, .inr (10, [.ref h1, .int 0, .int 0, .int 0, .int 0, .int 0]))] s.heap.size = A at Wd ⊢
  refine k_locals (Nat.le_of_ble_eq_true rfl) [(0, .ref h0), (1, .int 0)] rfl (fun ls hl => ?_)
  refine lv_aload_n C.1 C.2.1 dX10_advance_0 rfl (lv_at hl 0 rfl) ?_
  refine lv_aload_n C.1 C.2.1 dX10_advance_1 rfl (lv_at hl 0 rfl) ?_
  refine k_get C Wd KX10 0 5 rfl (by decide) fl_X10_19 rfl dX10_advance_2 ?_
  refine k_put C Wd KX10 0 4 [(h0, .inr (10, [.ref h1, .int 0, .int 0, .int 0, .int 0, .int 0]))] rfl (by decide) fl_X10_22 rfl rfl rfl (Nat.le_of_ble_eq_true rfl) rfl dX10_advance_5 (fun H locs Wd => ?_)
  refine lv_aload_n C.1 C.2.1 dX10_advance_8 rfl (lv_at hl 0 rfl) ?_
  refine k_get C Wd KX10 0 5 rfl (by decide) fl_X10_19 rfl dX10_advance_9 ?_
  refine lv_istore_n (lv' := [(2, .int 0), (0, .ref h0), (1, .int 0)]) C.1 C.2.1 dX10_advance_12 rfl hl (by decide) rfl (fun ls hl => ?_)
  refine lv_iload_n C.1 C.2.1 dX10_advance_13 rfl (lv_at hl 0 rfl) ?_
  refine lv_aload_n C.1 C.2.1 dX10_advance_14 rfl (lv_at hl 1 rfl) ?_
  refine k_get C Wd KX10 0 1 rfl (by decide) fl_X10_15 rfl dX10_advance_15 ?_
  refine lv_icmp_ge (tgt := 54) C.1 C.2.1 dX10_advance_18 (by decide) (fun _ => ?_) (fun c1409 => absurd c1409 (by decide))
  refine lv_aload_n C.1 C.2.1 dX10_advance_54 rfl (lv_at hl 1 rfl) ?_
  refine lv_aload_n C.1 C.2.1 dX10_advance_55 rfl (lv_at hl 1 rfl) ?_
  refine k_get C Wd KX10 0 4 rfl (by decide) fl_X10_22 rfl dX10_advance_56 ?_
  refine k_pi (k_runV (rest := []) C aks Wd cs_X10_31 (kcX10_byteAt l D h0 h1 _ ) [0] rfl (by decide) [] rfl 0 10 rfl rfl rfl rfl rfl ⟨(Nat.le_of_ble_eq_true rfl), (Nat.le_of_ble_eq_true rfl)⟩ hl.1 rfl rfl (Nat.le_of_ble_eq_true rfl) ⟨(Nat.le_of_ble_eq_true rfl), (Nat.le_of_ble_eq_true rfl)⟩ dX10_advance_59) (fun r w1410 => ?_)
  obtain rfl := w1410
  refine lv_istore_n (lv' := [(2, .int (-1)), (0, .ref h0), (1, .int 0)]) C.1 C.2.1 dX10_advance_62 rfl hl (by decide) rfl (fun ls hl => ?_)
  refine lv_iload_n C.1 C.2.1 dX10_advance_63 rfl (lv_at hl 0 rfl) ?_
  refine k_pi (k_runS (rest := []) C aks Wd cs_X10_35 (kcX10_isLetter l D (-1) _ ) [] rfl (by decide) [] rfl rfl rfl ⟨(Nat.le_of_ble_eq_true rfl), (Nat.le_of_ble_eq_true rfl)⟩ hl.1 rfl rfl (Nat.le_of_ble_eq_true rfl) ⟨(Nat.le_of_ble_eq_true rfl), (Nat.le_of_ble_eq_true rfl)⟩ dX10_advance_64) (fun r w1411 => ?_)
  rcases w1411 with ⟨c1412, c1413, rfl⟩ | ⟨c1414, c1415, c1416, rfl⟩ | ⟨c1417, c1418, c1419, rfl⟩ | ⟨c1420, c1421, rfl⟩ | ⟨c1422, c1423, rfl⟩
  · refine lv_if_eq (tgt := 77) C.1 C.2.1 dX10_advance_67 (by decide) (fun _ => ?_) (fun c1424 => absurd c1424 (by decide))
    refine lv_iload_n C.1 C.2.1 dX10_advance_77 rfl (lv_at hl 0 rfl) ?_
    refine k_pi (k_runS (rest := []) C aks Wd cs_X10_42 (kcX10_isDigit l D (-1) _ ) [] rfl (by decide) [] rfl rfl rfl ⟨(Nat.le_of_ble_eq_true rfl), (Nat.le_of_ble_eq_true rfl)⟩ hl.1 rfl rfl (Nat.le_of_ble_eq_true rfl) ⟨(Nat.le_of_ble_eq_true rfl), (Nat.le_of_ble_eq_true rfl)⟩ dX10_advance_78) (fun r w1425 => ?_)
    rcases w1425 with ⟨c1426, rfl⟩ | ⟨c1427, c1428, rfl⟩ | ⟨c1429, c1430, rfl⟩
    · refine lv_if_eq (tgt := 91) C.1 C.2.1 dX10_advance_81 (by decide) (fun _ => ?_) (fun c1431 => absurd c1431 (by decide))
      refine lv_aload_n C.1 C.2.1 dX10_advance_91 rfl (lv_at hl 1 rfl) ?_
      refine lv_iload_n C.1 C.2.1 dX10_advance_92 rfl (lv_at hl 0 rfl) ?_
      refine lv_iload_n C.1 C.2.1 dX10_advance_93 rfl (lv_at hl 2 rfl) ?_
      refine k_cv Wd [0] [] rfl (wr := []) rfl (by decide) (by decide) (cells' := 0) (slots' := 0) (by decide) (by decide) (k_runV (rest := []) C aks Wd cs_X10_48 (kcX10_takeSign_v1 l D h0 h1 _ ) [0] rfl (by decide) [] rfl 0 10 rfl rfl rfl rfl rfl ⟨(Nat.le_of_ble_eq_true rfl), (Nat.le_of_ble_eq_true rfl)⟩ hl.1 rfl rfl (Nat.le_of_ble_eq_true rfl) ⟨(Nat.le_of_ble_eq_true rfl), (Nat.le_of_ble_eq_true rfl)⟩ dX10_advance_94) (fun _ H locs w1432 Wd => ?_)
      have Wd : wX D [] s [(h0, .inr (10, [.ref h1, .int 0, .int 1, .int 0, .int 0, .int 0]))] _ A s.heap _ := Wd
      exact k_vret C hr hlk Wd () trivial [0] rfl (by decide) [] rfl (by decide) (by decide) dX10_advance_97
    · exact absurd c1427 (by decide)
    · exact absurd c1429 (by decide)
  · exact absurd c1415 (by decide)
  · exact absurd c1418 (by decide)
  · exact absurd c1420 (by decide)
  · exact absurd c1422 (by decide)
set_option maxHeartbeats 4000000 in
set_option maxRecDepth 100000 in
theorem kcX6_takeStatement (l : Launch) (D : va_G) (h0 h1 h2 h3 h4 h5 h6 : Nat) (sz : Nat)  : Met l yX6_takeStatement (Cond.code yX6_takeStatement cX6_takeStatement 5 none :: gG) { frames := 1, cells := 0, slots := 0, locals := 64 } (cPre D [] [(h0, .inr (6, [.ref h1, .int 0, .int (-1), .ref h2, .null, .int 0, .int 0, .int 0, .int 0, .int 300, .int 0, .int 0, .int 0, .int 0, .ref h3, .ref h4, .ref h5])), (h1, .inr (10, [.ref h6, .int 0, .int 1, .int 0, .int 0, .int 0]))] sz [.ref h0]) (va_Sv (fun _ => True)) 0 0 (fun _ => False) := by
  refine Met.ofW (cc := cX6_takeStatement) (maxL := 5) (ret := none) (by decide) rfl ?_
  intro p e s m args below meth c s₁ B hml hv
  obtain ⟨rfl, aks, rfl, Wd⟩ := k_enter hv
  have C : CallFix p m c cX6_takeStatement 5 s _ gG RX6 := ⟨B.exec, B.bytes, hml, findClass_of_methodNamed B.named, fun w h => atoms_spec (ws := Cond.code yX6_takeStatement cX6_takeStatement 5 none :: gG) B.pre w (List.mem_cons_of_mem _ h)⟩
  have hr := B.returns
  have hlk := B.notSynchronized
  obtain ⟨A, Wd⟩ : ∃ A, wX D [] s [(h0, .inr (6, [.ref h1, .int 0, .int (-1), .ref h2, .null, .int 0, .int 0, .int 0, .int 0, .int 300, .int 0, .int 0, .int 0, .int 0, .ref h3, .ref h4, .ref h5])), (h1, .inr (10, [.ref h6, .int 0, .int 1, .int 0, .int 0, .int 0]))] s.heap A s.heap [] := ⟨_, Wd⟩
  refine k_locals (Nat.le_of_ble_eq_true rfl) [(0, .ref h0)] rfl (fun ls hl => ?_)
  refine lv_aload_n C.1 C.2.1 dX6_takeStatement_0 rfl (lv_at hl 0 rfl) ?_
  refine k_get C Wd KX6 0 0 rfl (by decide) fl_X6_12 rfl dX6_takeStatement_1 ?_
  refine k_get C Wd KX10 1 2 rfl (by decide) fl_X6_88 rfl dX6_takeStatement_4 ?_
  refine lv_istore_n (lv' := [(1, .int 1), (0, .ref h0)]) C.1 C.2.1 dX6_takeStatement_7 rfl hl (by decide) rfl (fun ls hl => ?_)
  refine lv_iload_n C.1 C.2.1 dX6_takeStatement_8 rfl (lv_at hl 0 rfl) ?_
  refine lv_iconst (v := 1) C.1 C.2.1 dX6_takeStatement_9 (by decide) ?_
  refine lv_icmp_ne (tgt := 21) C.1 C.2.1 dX6_takeStatement_10 (by decide) (fun c1436 => absurd c1436 (by decide)) (fun _ => ?_)
  refine lv_aload_n C.1 C.2.1 dX6_takeStatement_13 rfl (lv_at hl 1 rfl) ?_
  refine k_get C Wd KX6 0 13 rfl (by decide) fl_X6_82 rfl dX6_takeStatement_14 ?_
  refine lv_if_ne (tgt := 21) C.1 C.2.1 dX6_takeStatement_17 (by decide) (fun c1437 => absurd c1437 (by decide)) (fun _ => ?_)
  exact k_vretP C hr hlk trivial dX6_takeStatement_20
set_option maxHeartbeats 4000000 in
set_option maxRecDepth 100000 in
theorem kcX6_readAll_v1 (l : Launch) (D : va_G) (h0 h1 h2 h3 h4 h5 h6 : Nat) (sz : Nat)  : Met l yX6_readAll (Cond.code yX6_readAll cX6_readAll 2 (some .boolean) :: gG) { frames := 4, cells := 0, slots := 0, locals := 126 } (cPre D [] [(h0, .inr (6, [.ref h1, .int 0, .int (-1), .ref h2, .null, .int 0, .int 0, .int 0, .int 0, .int 300, .int 0, .int 0, .int 0, .int 0, .ref h3, .ref h4, .ref h5])), (h1, .inr (10, [.ref h6, .int 0, .int 0, .int 0, .int 0, .int 0]))] sz [.ref h0]) (va_Qi (fun (r : Int32) (_ : Unit) => r = 1) (fun u t => cB D (va_A [(h0, .inr (6, [.ref h1, .int 0, .int (-1), .ref h2, .null, .int 0, .int 0, .int 0, .int 0, .int 300, .int 0, .int 0, .int 0, .int 0, .ref h3, .ref h4, .ref h5])), (h1, .inr (10, [.ref h6, .int 0, .int 0, .int 0, .int 0, .int 0]))] sz) ((fun (_ : Unit) => ([] : List (ClassId × FieldType))) u) ((fun (_ : Unit) => ([(h0, .inr (6, [.ref h1, .int 0, .int (-1), .ref h2, .null, .int 0, .int 0, .int 0, .int 0, .int 300, .int 0, .int 0, .int 0, .int 0, .ref h3, .ref h4, .ref h5]))] : va_W)) u) t) (va_A [(h0, .inr (6, [.ref h1, .int 0, .int (-1), .ref h2, .null, .int 0, .int 0, .int 0, .int 0, .int 300, .int 0, .int 0, .int 0, .int 0, .ref h3, .ref h4, .ref h5])), (h1, .inr (10, [.ref h6, .int 0, .int 0, .int 0, .int 0, .int 0]))] sz)) 0 0 (va_A [(h0, .inr (6, [.ref h1, .int 0, .int (-1), .ref h2, .null, .int 0, .int 0, .int 0, .int 0, .int 300, .int 0, .int 0, .int 0, .int 0, .ref h3, .ref h4, .ref h5])), (h1, .inr (10, [.ref h6, .int 0, .int 0, .int 0, .int 0, .int 0]))] sz) := by
  refine Met.ofW (cc := cX6_readAll) (maxL := 2) (ret := (some .boolean)) (by decide) rfl ?_
  intro p e s m args below meth c s₁ B hml hv
  obtain ⟨rfl, aks, rfl, Wd⟩ := k_enter hv
  have C : CallFix p m c cX6_readAll 2 s _ gG RX6 := ⟨B.exec, B.bytes, hml, findClass_of_methodNamed B.named, fun w h => atoms_spec (ws := Cond.code yX6_readAll cX6_readAll 2 (some .boolean) :: gG) B.pre w (List.mem_cons_of_mem _ h)⟩
  have hr := B.returns
  have hlk := B.notSynchronized
  generalize va_A [(h0, .inr (6, [.ref h1, .int 0, .int (-1), .ref h2, .null, .int 0, .int 0, .int 0, .int 0, .int 300, .int 0, .int 0, .int 0, .int 0, .ref h3, .ref h4, .ref h5])), (h1, .inr (10, [.ref h6, .int 0, .int 0, .int 0, .int 0, .int 0]))] s.heap.size = A at Wd ⊢
  refine k_locals (Nat.le_of_ble_eq_true rfl) [(0, .ref h0)] rfl (fun ls hl => ?_)
  refine lv_iconst (v := 0) C.1 C.2.1 dX6_readAll_0 (by decide) ?_
  refine lv_istore_n (lv' := [(1, .int 0), (0, .ref h0)]) C.1 C.2.1 dX6_readAll_1 rfl hl (by decide) rfl (fun ls hl => ?_)
  refine lv_iload_n C.1 C.2.1 dX6_readAll_2 rfl (lv_at hl 0 rfl) ?_
  refine lv_sipush (v := 800) C.1 C.2.1 dX6_readAll_3 (by decide) ?_
  refine lv_icmp_gt (tgt := 140) C.1 C.2.1 dX6_readAll_6 (by decide) (fun c1444 => absurd c1444 (by decide)) (fun _ => ?_)
  refine lv_aload_n C.1 C.2.1 dX6_readAll_9 rfl (lv_at hl 1 rfl) ?_
  refine k_get C Wd KX6 0 1 rfl (by decide) fl_X6_37 rfl dX6_readAll_10 ?_
  refine lv_if_ne (tgt := 140) C.1 C.2.1 dX6_readAll_13 (by decide) (fun c1445 => absurd c1445 (by decide)) (fun _ => ?_)
  refine lv_aload_n C.1 C.2.1 dX6_readAll_16 rfl (lv_at hl 1 rfl) ?_
  refine k_get C Wd KX6 0 0 rfl (by decide) fl_X6_12 rfl dX6_readAll_17 ?_
  refine k_get C Wd KX10 1 2 rfl (by decide) fl_X6_88 rfl dX6_readAll_20 ?_
  refine lv_iconst (v := 1) C.1 C.2.1 dX6_readAll_23 (by decide) ?_
  refine lv_icmp_eq (tgt := 140) C.1 C.2.1 dX6_readAll_24 (by decide) (fun c1446 => absurd c1446 (by decide)) (fun _ => ?_)
  refine lv_aload_n C.1 C.2.1 dX6_readAll_27 rfl (lv_at hl 1 rfl) ?_
  refine k_get C Wd KX6 0 0 rfl (by decide) fl_X6_12 rfl dX6_readAll_28 ?_
  refine lv_aload_n C.1 C.2.1 dX6_readAll_31 rfl (lv_at hl 1 rfl) ?_
  refine k_get C Wd KX6 0 4 rfl (by decide) fl_X6_69 rfl dX6_readAll_32 ?_
  refine lv_ifnullN (tgt := 42) C.1 C.2.1 dX6_readAll_35 (by decide) ?_
  refine lv_iconst (v := 0) C.1 C.2.1 dX6_readAll_42 (by decide) ?_
  refine k_cv Wd [1] [0] rfl (wr := [(h0, .inr (6, [.ref h1, .int 0, .int (-1), .ref h2, .null, .int 0, .int 0, .int 0, .int 0, .int 300, .int 0, .int 0, .int 0, .int 0, .ref h3, .ref h4, .ref h5]))]) rfl (by decide) (by decide) (cells' := 0) (slots' := 0) (by decide) (by decide) (k_runV (rest := []) C aks Wd cs_X6_91 (kcX10_advance_v1 l D h1 h6 _ ) [1] rfl (by decide) [] rfl 1 10 rfl rfl rfl rfl rfl ⟨(Nat.le_of_ble_eq_true rfl), (Nat.le_of_ble_eq_true rfl)⟩ hl.1 rfl rfl (Nat.le_of_ble_eq_true rfl) ⟨(Nat.le_of_ble_eq_true rfl), (Nat.le_of_ble_eq_true rfl)⟩ dX6_readAll_43) (fun _ H locs w1447 Wd => ?_)
  have Wd : wX D [] s [(h0, .inr (6, [.ref h1, .int 0, .int (-1), .ref h2, .null, .int 0, .int 0, .int 0, .int 0, .int 300, .int 0, .int 0, .int 0, .int 0, .ref h3, .ref h4, .ref h5])), (h1, .inr (10, [.ref h6, .int 0, .int 1, .int 0, .int 0, .int 0]))] _ A s.heap _ := Wd
  refine lv_aload_n C.1 C.2.1 dX6_readAll_46 rfl (lv_at hl 1 rfl) ?_
  refine k_get C Wd KX6 0 5 rfl (by decide) fl_X6_52 rfl dX6_readAll_47 ?_
  refine lv_tableOut (tgt := 130) C.1 C.2.1 dX6_readAll_50 (by decide) (by decide) ?_
  refine lv_aload_n C.1 C.2.1 dX6_readAll_130 rfl (lv_at hl 1 rfl) ?_
  refine k_pv (k_runV (rest := []) C aks Wd cs_X6_113 (kcX6_takeStatement l D h0 h1 h2 h3 h4 h5 h6 _ ) [0, 1] rfl (by decide) [] rfl 0 6 rfl rfl rfl rfl rfl ⟨(Nat.le_of_ble_eq_true rfl), (Nat.le_of_ble_eq_true rfl)⟩ hl.1 rfl rfl (Nat.le_of_ble_eq_true rfl) ⟨(Nat.le_of_ble_eq_true rfl), (Nat.le_of_ble_eq_true rfl)⟩ dX6_readAll_131) (fun w1448 => ?_)
  refine lv_iinc (v := 1) (lv' := [(1, .int 1), (0, .ref h0)]) C.1 C.2.1 dX6_readAll_134 hl (k := 0) rfl (by decide) (by decide) rfl (fun ls hl => ?_)
  refine lv_goto (tgt := 2) C.1 C.2.1 dX6_readAll_137 (by decide) ?_
  refine lv_iload_n C.1 C.2.1 dX6_readAll_2 rfl (lv_at hl 0 rfl) ?_
  refine lv_sipush (v := 800) C.1 C.2.1 dX6_readAll_3 (by decide) ?_
  refine lv_icmp_gt (tgt := 140) C.1 C.2.1 dX6_readAll_6 (by decide) (fun c1449 => absurd c1449 (by decide)) (fun _ => ?_)
  refine lv_aload_n C.1 C.2.1 dX6_readAll_9 rfl (lv_at hl 1 rfl) ?_
  refine k_get C Wd KX6 0 1 rfl (by decide) fl_X6_37 rfl dX6_readAll_10 ?_
  refine lv_if_ne (tgt := 140) C.1 C.2.1 dX6_readAll_13 (by decide) (fun c1450 => absurd c1450 (by decide)) (fun _ => ?_)
  refine lv_aload_n C.1 C.2.1 dX6_readAll_16 rfl (lv_at hl 1 rfl) ?_
  refine k_get C Wd KX6 0 0 rfl (by decide) fl_X6_12 rfl dX6_readAll_17 ?_
  refine k_get C Wd KX10 1 2 rfl (by decide) fl_X6_88 rfl dX6_readAll_20 ?_
  refine lv_iconst (v := 1) C.1 C.2.1 dX6_readAll_23 (by decide) ?_
  refine lv_icmp_eq (tgt := 140) C.1 C.2.1 dX6_readAll_24 (by decide) (fun _ => ?_) (fun c1451 => absurd c1451 (by decide))
  refine lv_aload_n C.1 C.2.1 dX6_readAll_140 rfl (lv_at hl 1 rfl) ?_
  refine k_get C Wd KX6 0 0 rfl (by decide) fl_X6_12 rfl dX6_readAll_141 ?_
  refine lv_iconst (v := 0) C.1 C.2.1 dX6_readAll_144 (by decide) ?_
  refine k_ci Wd [1] [0] rfl (wr := [(h0, .inr (6, [.ref h1, .int 0, .int (-1), .ref h2, .null, .int 0, .int 0, .int 0, .int 0, .int 300, .int 0, .int 0, .int 0, .int 0, .ref h3, .ref h4, .ref h5]))]) rfl (by decide) (by decide) (cells' := 0) (slots' := 0) (by decide) (by decide) (k_runV (rest := []) C aks Wd cs_X6_44 (kcX10_shorten_v1 l D h1 h6 _ ) [1] rfl (by decide) [] rfl 1 10 rfl rfl rfl rfl rfl ⟨(Nat.le_of_ble_eq_true rfl), (Nat.le_of_ble_eq_true rfl)⟩ hl.1 rfl rfl (Nat.le_of_ble_eq_true rfl) ⟨(Nat.le_of_ble_eq_true rfl), (Nat.le_of_ble_eq_true rfl)⟩ dX6_readAll_145) (fun r _ H locs w1452 Wd => ?_)
  have Wd : wX D [] s [(h0, .inr (6, [.ref h1, .int 0, .int (-1), .ref h2, .null, .int 0, .int 0, .int 0, .int 0, .int 300, .int 0, .int 0, .int 0, .int 0, .ref h3, .ref h4, .ref h5]))] _ A s.heap _ := Wd
  obtain rfl := w1452
  refine lv_pop C.1 C.2.1 dX6_readAll_148 rfl ?_
  refine lv_aload_n C.1 C.2.1 dX6_readAll_149 rfl (lv_at hl 1 rfl) ?_
  refine k_get C Wd KX6 0 1 rfl (by decide) fl_X6_37 rfl dX6_readAll_150 ?_
  refine lv_if_ne (tgt := 160) C.1 C.2.1 dX6_readAll_153 (by decide) (fun c1453 => absurd c1453 (by decide)) (fun _ => ?_)
  refine lv_iconst (v := 1) C.1 C.2.1 dX6_readAll_156 (by decide) ?_
  refine lv_goto (tgt := 161) C.1 C.2.1 dX6_readAll_157 (by decide) ?_
  exact k_zret C hr hlk rfl Wd () rfl [0] rfl (by decide) [] rfl (by decide) (by decide) dX6_readAll_161
set_option maxHeartbeats 4000000 in
set_option maxRecDepth 100000 in
theorem kcX8_addPart (l : Launch) (D : va_G) (h0 h1 : Nat) (sz : Nat)  : Met l yX8_addPart (Cond.code yX8_addPart cX8_addPart 5 none :: gG) { frames := 1, cells := 0, slots := 0, locals := 64 } (cPre D [] [] sz [.ref h0, .ref h1, .int 0, .int 0]) (va_Sv (fun _ => True)) 0 0 (fun _ => False) := by
  refine Met.ofW (cc := cX8_addPart) (maxL := 5) (ret := none) (by decide) rfl ?_
  intro p e s m args below meth c s₁ B hml hv
  obtain ⟨rfl, aks, rfl, Wd⟩ := k_enter hv
  have C : CallFix p m c cX8_addPart 5 s _ gG RX8 := ⟨B.exec, B.bytes, hml, findClass_of_methodNamed B.named, fun w h => atoms_spec (ws := Cond.code yX8_addPart cX8_addPart 5 none :: gG) B.pre w (List.mem_cons_of_mem _ h)⟩
  have hr := B.returns
  have hlk := B.notSynchronized
  obtain ⟨A, Wd⟩ : ∃ A, wX D [] s [] s.heap A s.heap [] := ⟨_, Wd⟩
  refine k_locals (Nat.le_of_ble_eq_true rfl) [(0, .ref h0), (1, .ref h1), (2, .int 0), (3, .int 0)] rfl (fun ls hl => ?_)
  refine lv_iload_n C.1 C.2.1 dX8_addPart_0 rfl (lv_at hl 3 rfl) ?_
  refine lv_iload_n C.1 C.2.1 dX8_addPart_1 rfl (lv_at hl 2 rfl) ?_
  refine k_isub (v := 0) C (by decide) dX8_addPart_2 ?_
  refine lv_istore (lv' := [(4, .int 0), (0, .ref h0), (1, .ref h1), (2, .int 0), (3, .int 0)]) C.1 C.2.1 dX8_addPart_3 hl (by decide) rfl (fun ls hl => ?_)
  refine lv_iload_n C.1 C.2.1 dX8_addPart_5 rfl (lv_at hl 3 rfl) ?_
  refine lv_if_lt (tgt := 66) C.1 C.2.1 dX8_addPart_6 (by decide) (fun c1458 => absurd c1458 (by decide)) (fun _ => ?_)
  refine lv_iload C.1 C.2.1 dX8_addPart_9 (lv_at hl 0 rfl) ?_
  refine lv_if_le (tgt := 66) C.1 C.2.1 dX8_addPart_11 (by decide) (fun _ => ?_) (fun c1459 => absurd c1459 (by decide))
  exact k_vretP C hr hlk trivial dX8_addPart_66
set_option maxHeartbeats 4000000 in
set_option maxRecDepth 100000 in
theorem kcX8_copy (l : Launch) (D : va_G) (h0 h1 h2 h3 : Nat) (sz : Nat)  : Met l yX8_copy (Cond.code yX8_copy cX8_copy 2 none :: gG) { frames := 2, cells := 0, slots := 0, locals := 88 } (cPre D [] [(h1, .inr (8, [.ref h3, .int 0])), (h0, .inr (8, [.ref h2, .int 0]))] sz [.ref h0, .ref h1]) (va_Qv (fun (_ : Unit) => True) (fun u t => cB D (va_A [(h1, .inr (8, [.ref h3, .int 0])), (h0, .inr (8, [.ref h2, .int 0]))] sz) ((fun (_ : Unit) => ([] : List (ClassId × FieldType))) u) ((fun (_ : Unit) => ([(h1, .inr (8, [.ref h3, .int 0])), (h0, .inr (8, [.ref h2, .int 0]))] : va_W)) u) t) (va_A [(h1, .inr (8, [.ref h3, .int 0])), (h0, .inr (8, [.ref h2, .int 0]))] sz)) 0 0 (va_A [(h1, .inr (8, [.ref h3, .int 0])), (h0, .inr (8, [.ref h2, .int 0]))] sz) := by
  refine Met.ofW (cc := cX8_copy) (maxL := 2) (ret := none) (by decide) rfl ?_
  intro p e s m args below meth c s₁ B hml hv
  obtain ⟨rfl, aks, rfl, Wd⟩ := k_enter hv
  have C : CallFix p m c cX8_copy 2 s _ gG RX8 := ⟨B.exec, B.bytes, hml, findClass_of_methodNamed B.named, fun w h => atoms_spec (ws := Cond.code yX8_copy cX8_copy 2 none :: gG) B.pre w (List.mem_cons_of_mem _ h)⟩
  have hr := B.returns
  have hlk := B.notSynchronized
  generalize va_A [(h1, .inr (8, [.ref h3, .int 0])), (h0, .inr (8, [.ref h2, .int 0]))] s.heap.size = A at Wd ⊢
  refine k_locals (Nat.le_of_ble_eq_true rfl) [(0, .ref h0), (1, .ref h1)] rfl (fun ls hl => ?_)
  refine lv_aload_n C.1 C.2.1 dX8_copy_0 rfl (lv_at hl 1 rfl) ?_
  refine lv_aload_n C.1 C.2.1 dX8_copy_1 rfl (lv_at hl 0 rfl) ?_
  refine lv_acmp_eq (rx := some h1) (ry := some h0) (tgt := 20) C.1 C.2.1 dX8_copy_2 (by decide) (fun c => False.elim (by have z := Wd.2.2.1.1 0 1 _ _ rfl rfl (Option.some.inj c); exact absurd z (by decide))) (fun _ => ?_)
  refine lv_aload_n C.1 C.2.1 dX8_copy_5 rfl (lv_at hl 0 rfl) ?_
  refine lv_iconst (v := 0) C.1 C.2.1 dX8_copy_6 (by decide) ?_
  refine k_put C Wd KX8 1 1 [(h1, .inr (8, [.ref h3, .int 0])), (h0, .inr (8, [.ref h2, .int 0]))] rfl (by decide) fl_X8_21 rfl rfl rfl (Nat.le_of_ble_eq_true rfl) rfl dX8_copy_7 (fun H locs Wd => ?_)
  refine lv_aload_n C.1 C.2.1 dX8_copy_10 rfl (lv_at hl 0 rfl) ?_
  refine lv_aload_n C.1 C.2.1 dX8_copy_11 rfl (lv_at hl 1 rfl) ?_
  refine lv_iconst (v := 0) C.1 C.2.1 dX8_copy_12 (by decide) ?_
  refine lv_aload_n C.1 C.2.1 dX8_copy_13 rfl (lv_at hl 1 rfl) ?_
  refine k_get C Wd KX8 0 1 rfl (by decide) fl_X8_21 rfl dX8_copy_14 ?_
  refine k_pv (k_runV (rest := []) C aks Wd cs_X8_31 (kcX8_addPart l D h0 h1 _ ) [] rfl (by decide) [] rfl 1 8 rfl rfl rfl rfl rfl ⟨(Nat.le_of_ble_eq_true rfl), (Nat.le_of_ble_eq_true rfl)⟩ hl.1 rfl rfl (Nat.le_of_ble_eq_true rfl) ⟨(Nat.le_of_ble_eq_true rfl), (Nat.le_of_ble_eq_true rfl)⟩ dX8_copy_17) (fun w1461 => ?_)
  exact k_vret C hr hlk Wd () trivial [0, 1] rfl (by decide) [] rfl (by decide) (by decide) dX8_copy_20
set_option maxHeartbeats 4000000 in
set_option maxRecDepth 100000 in
theorem kcX8_statements (l : Launch) (D : va_G) (h0 h1 : Nat) (sz : Nat)  : Met l yX8_statements (Cond.code yX8_statements cX8_statements 3 (some .int) :: gG) { frames := 1, cells := 0, slots := 0, locals := 64 } (cPre D [] [(h0, .inr (8, [.ref h1, .int 0]))] sz [.ref h0]) (vp_Si (fun r => r = 0)) 0 0 (fun _ => False) := by
  refine Met.ofW (cc := cX8_statements) (maxL := 3) (ret := (some .int)) (by decide) rfl ?_
  intro p e s m args below meth c s₁ B hml hv
  obtain ⟨rfl, aks, rfl, Wd⟩ := k_enter hv
  have C : CallFix p m c cX8_statements 3 s _ gG RX8 := ⟨B.exec, B.bytes, hml, findClass_of_methodNamed B.named, fun w h => atoms_spec (ws := Cond.code yX8_statements cX8_statements 3 (some .int) :: gG) B.pre w (List.mem_cons_of_mem _ h)⟩
  have hr := B.returns
  have hlk := B.notSynchronized
  obtain ⟨A, Wd⟩ : ∃ A, wX D [] s [(h0, .inr (8, [.ref h1, .int 0]))] s.heap A s.heap [] := ⟨_, Wd⟩
  refine k_locals (Nat.le_of_ble_eq_true rfl) [(0, .ref h0)] rfl (fun ls hl => ?_)
  refine lv_iconst (v := 0) C.1 C.2.1 dX8_statements_0 (by decide) ?_
  refine lv_istore_n (lv' := [(1, .int 0), (0, .ref h0)]) C.1 C.2.1 dX8_statements_1 rfl hl (by decide) rfl (fun ls hl => ?_)
  refine lv_iconst (v := 0) C.1 C.2.1 dX8_statements_2 (by decide) ?_
  refine lv_istore_n (lv' := [(2, .int 0), (1, .int 0), (0, .ref h0)]) C.1 C.2.1 dX8_statements_3 rfl hl (by decide) rfl (fun ls hl => ?_)
  refine lv_iload_n C.1 C.2.1 dX8_statements_4 rfl (lv_at hl 0 rfl) ?_
  refine lv_aload_n C.1 C.2.1 dX8_statements_5 rfl (lv_at hl 2 rfl) ?_
  refine k_get C Wd KX8 0 1 rfl (by decide) fl_X8_21 rfl dX8_statements_6 ?_
  refine lv_icmp_ge (tgt := 33) C.1 C.2.1 dX8_statements_9 (by decide) (fun _ => ?_) (fun c1464 => absurd c1464 (by decide))
  refine lv_iload_n C.1 C.2.1 dX8_statements_33 rfl (lv_at hl 1 rfl) ?_
  exact k_zretP C hr hlk rfl rfl dX8_statements_34
set_option maxHeartbeats 4000000 in
set_option maxRecDepth 100000 in
theorem kcX11_program_v2 (l : Launch) (D : va_G) (h0 h1 h2 h3 h4 h5 h6 h7 h8 h9 h10 h11 h12 h13 h14 h31 h32 : Nat) (x0 : Int32) (g0 : Nat → Option Nat) (a0 : ClassId) (sz : Nat) (k_g0_x0 : g0 x0.toNatClampNeg = some h8) (as0 : ¬ x0 < (0 : Int32)) (as1 : x0 < (6 : Int32)): Met l yX11_program (Cond.code yX11_program cX11_program 3 (some .int) :: gG) { frames := 5, cells := 0, slots := 0, locals := 147 } (cPre D [(a0, .object RX8)] [(h0, .inr (11, [.ref h1, .int 0, .ref h2, .ref h3, .ref h4, .ref h5, .ref h6, .ref h7])), (h1, .inl (a0, 6, .inr (.inr (.inr (.inr g0))))), (h3, .inr (6, [.ref h10, .int 0, .int (-1), .ref h11, .null, .int 0, .int 0, .int 0, .int 0, .int 0, .int 0, .int 0, .int 0, .int 0, .ref h12, .ref h13, .ref h14])), (h2, .inr (8, [.ref h9, .int 0])), (h10, .inr (10, [.ref h32, .int 0, .int 0, .int 0, .int 0, .int 0])), (h8, .inr (8, [.ref h31, .int 0]))] sz [.ref h0, .int x0]) (va_Qi (fun (r : Int32) (_ : Unit) => ¬ x0 < (0 : Int32) ∧ ¬ (6 : Int32) ≤ x0 ∧ r = 0) (fun u t => cB D (va_A [(h0, .inr (11, [.ref h1, .int 0, .ref h2, .ref h3, .ref h4, .ref h5, .ref h6, .ref h7])), (h1, .inl (a0, 6, .inr (.inr (.inr (.inr g0))))), (h3, .inr (6, [.ref h10, .int 0, .int (-1), .ref h11, .null, .int 0, .int 0, .int 0, .int 0, .int 0, .int 0, .int 0, .int 0, .int 0, .ref h12, .ref h13, .ref h14])), (h2, .inr (8, [.ref h9, .int 0])), (h10, .inr (10, [.ref h32, .int 0, .int 0, .int 0, .int 0, .int 0])), (h8, .inr (8, [.ref h31, .int 0]))] sz) ((fun (_ : Unit) => ([] : List (ClassId × FieldType))) u) ((fun (_ : Unit) => ([] : va_W)) u) t) (va_A [(h0, .inr (11, [.ref h1, .int 0, .ref h2, .ref h3, .ref h4, .ref h5, .ref h6, .ref h7])), (h1, .inl (a0, 6, .inr (.inr (.inr (.inr g0))))), (h3, .inr (6, [.ref h10, .int 0, .int (-1), .ref h11, .null, .int 0, .int 0, .int 0, .int 0, .int 0, .int 0, .int 0, .int 0, .int 0, .ref h12, .ref h13, .ref h14])), (h2, .inr (8, [.ref h9, .int 0])), (h10, .inr (10, [.ref h32, .int 0, .int 0, .int 0, .int 0, .int 0])), (h8, .inr (8, [.ref h31, .int 0]))] sz)) 0 0 (va_A [(h0, .inr (11, [.ref h1, .int 0, .ref h2, .ref h3, .ref h4, .ref h5, .ref h6, .ref h7])), (h1, .inl (a0, 6, .inr (.inr (.inr (.inr g0))))), (h3, .inr (6, [.ref h10, .int 0, .int (-1), .ref h11, .null, .int 0, .int 0, .int 0, .int 0, .int 0, .int 0, .int 0, .int 0, .int 0, .ref h12, .ref h13, .ref h14])), (h2, .inr (8, [.ref h9, .int 0])), (h10, .inr (10, [.ref h32, .int 0, .int 0, .int 0, .int 0, .int 0])), (h8, .inr (8, [.ref h31, .int 0]))] sz) := by
  refine Met.ofW (cc := cX11_program) (maxL := 3) (ret := (some .int)) (by decide) rfl ?_
  intro p e s m args below meth c s₁ B hml hv
  obtain ⟨rfl, aks, rfl, Wd⟩ := k_enter hv
  have C : CallFix p m c cX11_program 3 s _ gG RX11 := ⟨B.exec, B.bytes, hml, findClass_of_methodNamed B.named, fun w h => atoms_spec (ws := Cond.code yX11_program cX11_program 3 (some .int) :: gG) B.pre w (List.mem_cons_of_mem _ h)⟩
  have hr := B.returns
  have hlk := B.notSynchronized
  generalize va_A [(h0, .inr (11, [.ref h1, .int 0, .ref h2, .ref h3, .ref h4, .ref h5, .ref h6, .ref h7])), (h1, .inl (a0, 6, .inr (.inr (.inr (.inr g0))))), (h3, .inr (6, [.ref h10, .int 0, .int (-1), .ref h11, .null, .int 0, .int 0, .int 0, .int 0, .int 0, .int 0, .int 0, .int 0, .int 0, .ref h12, .ref h13, .ref h14])), (h2, .inr (8, [.ref h9, .int 0])), (h10, .inr (10, [.ref h32, .int 0, .int 0, .int 0, .int 0, .int 0])), (h8, .inr (8, [.ref h31, .int 0]))] s.heap.size = A at Wd ⊢
  refine k_locals (Nat.le_of_ble_eq_true rfl) [(0, .ref h0), (1, .int x0)] rfl (fun ls hl => ?_)
  refine lv_aload_n C.1 C.2.1 dX11_program_0 rfl (lv_at hl 0 rfl) ?_
  refine lv_iload_n C.1 C.2.1 dX11_program_1 rfl (lv_at hl 1 rfl) ?_
  refine k_pq (k_runV (rest := []) C aks Wd cs_X11_77 (kcX11_slotAt l D h0 h1 h2 h3 h4 h5 h6 h7 x0 g0 a0 _ ) [0, 1] rfl (by decide) [0] rfl 0 11 rfl rfl rfl rfl rfl ⟨(Nat.le_of_ble_eq_true rfl), (Nat.le_of_ble_eq_true rfl)⟩ hl.1 rfl rfl (Nat.le_of_ble_eq_true rfl) ⟨(Nat.le_of_ble_eq_true rfl), (Nat.le_of_ble_eq_true rfl)⟩ dX11_program_2) (fun r w1466 => ?_)
  rcases w1466 with ⟨c1467, rfl⟩ | ⟨c1468, c1469, rfl⟩ | ⟨c1470, c1471, rfl⟩
  · exact absurd c1467 as0
  · exact False.elim (by have z0 := kz_nlt as0; have z1 := kz_lt as1; have z2 := kz_nlt c1468; have z3 := kz_le c1469; have t0 : (0 : Int32).toInt = 0 := (by decide); have t6 : (6 : Int32).toInt = 6 := (by decide); omega)
  · refine W.eq (g2 := F0 m 5 ls [.ref h8]) (by rw [show (g0 x0.toNatClampNeg) = some h8 from k_g0_x0]; rfl) ?_
    refine lv_astore_n (lv' := [(2, .ref h8), (0, .ref h0), (1, .int x0)]) C.1 C.2.1 dX11_program_5 rfl hl (by decide) rfl (fun ls hl => ?_)
    refine lv_aload_n C.1 C.2.1 dX11_program_6 rfl (lv_at hl 0 rfl) ?_
    refine lv_ifnonnull (tgt := 19) C.1 C.2.1 dX11_program_7 (by decide) ?_
    refine lv_aload_n C.1 C.2.1 dX11_program_19 rfl (lv_at hl 1 rfl) ?_
    refine k_get C Wd KX11 0 3 rfl (by decide) fl_X11_29 rfl dX11_program_20 ?_
    refine lv_aload_n C.1 C.2.1 dX11_program_23 rfl (lv_at hl 1 rfl) ?_
    refine k_get C Wd KX11 0 2 rfl (by decide) fl_X11_22 rfl dX11_program_24 ?_
    refine k_cv Wd [2, 3, 4] [0, 1, 5] rfl (wr := [(h0, .inr (11, [.ref h1, .int 0, .ref h2, .ref h3, .ref h4, .ref h5, .ref h6, .ref h7])), (h1, .inl (a0, 6, .inr (.inr (.inr (.inr g0))))), (h8, .inr (8, [.ref h31, .int 0]))]) rfl (by decide) (by decide) (cells' := 0) (slots' := 0) (by decide) (by decide) (k_runV (rest := []) C aks Wd cs_X11_84 (kcX6_beginProgram l D h3 h2 h10 h11 h12 h13 h14 h9 h32 _ ) [2, 3, 4] rfl (by decide) [] rfl 2 6 rfl rfl rfl rfl rfl ⟨(Nat.le_of_ble_eq_true rfl), (Nat.le_of_ble_eq_true rfl)⟩ hl.1 rfl rfl (Nat.le_of_ble_eq_true rfl) ⟨(Nat.le_of_ble_eq_true rfl), (Nat.le_of_ble_eq_true rfl)⟩ dX11_program_27) (fun _ H locs w1472 Wd => ?_)
    have Wd : wX D [(a0, .object RX8)] s [(h0, .inr (11, [.ref h1, .int 0, .ref h2, .ref h3, .ref h4, .ref h5, .ref h6, .ref h7])), (h1, .inl (a0, 6, .inr (.inr (.inr (.inr g0))))), (h8, .inr (8, [.ref h31, .int 0])), (h3, .inr (6, [.ref h10, .int 0, .int (-1), .ref h2, .null, .int 0, .int 0, .int 0, .int 0, .int 300, .int 0, .int 0, .int 0, .int 0, .ref h12, .ref h13, .ref h14])), (h2, .inr (8, [.ref h9, .int 0])), (h10, .inr (10, [.ref h32, .int 0, .int 0, .int 0, .int 0, .int 0]))] _ A s.heap _ := Wd
    refine lv_aload_n C.1 C.2.1 dX11_program_30 rfl (lv_at hl 1 rfl) ?_
    refine k_get C Wd KX11 0 3 rfl (by decide) fl_X11_29 rfl dX11_program_31 ?_
    refine k_ci Wd [3, 5] [0, 1, 2, 4] rfl (wr := [(h0, .inr (11, [.ref h1, .int 0, .ref h2, .ref h3, .ref h4, .ref h5, .ref h6, .ref h7])), (h1, .inl (a0, 6, .inr (.inr (.inr (.inr g0))))), (h8, .inr (8, [.ref h31, .int 0])), (h2, .inr (8, [.ref h9, .int 0]))]) rfl (by decide) (by decide) (cells' := 0) (slots' := 0) (by decide) (by decide) (k_runV (rest := []) C aks Wd cs_X11_88 (kcX6_readAll_v1 l D h3 h10 h2 h12 h13 h14 h32 _ ) [3, 5] rfl (by decide) [] rfl 3 6 rfl rfl rfl rfl rfl ⟨(Nat.le_of_ble_eq_true rfl), (Nat.le_of_ble_eq_true rfl)⟩ hl.1 rfl rfl (Nat.le_of_ble_eq_true rfl) ⟨(Nat.le_of_ble_eq_true rfl), (Nat.le_of_ble_eq_true rfl)⟩ dX11_program_34) (fun r _ H locs w1473 Wd => ?_)
    have Wd : wX D [(a0, .object RX8)] s [(h0, .inr (11, [.ref h1, .int 0, .ref h2, .ref h3, .ref h4, .ref h5, .ref h6, .ref h7])), (h1, .inl (a0, 6, .inr (.inr (.inr (.inr g0))))), (h8, .inr (8, [.ref h31, .int 0])), (h2, .inr (8, [.ref h9, .int 0])), (h3, .inr (6, [.ref h10, .int 0, .int (-1), .ref h2, .null, .int 0, .int 0, .int 0, .int 0, .int 300, .int 0, .int 0, .int 0, .int 0, .ref h12, .ref h13, .ref h14]))] _ A s.heap _ := Wd
    obtain rfl := w1473
    refine lv_if_ne (tgt := 42) C.1 C.2.1 dX11_program_37 (by decide) (fun _ => ?_) (fun c1474 => absurd c1474 (by decide))
    refine lv_aload_n C.1 C.2.1 dX11_program_42 rfl (lv_at hl 0 rfl) ?_
    refine lv_aload_n C.1 C.2.1 dX11_program_43 rfl (lv_at hl 1 rfl) ?_
    refine k_get C Wd KX11 0 2 rfl (by decide) fl_X11_22 rfl dX11_program_44 ?_
    refine k_cv Wd [3, 2] [0, 1, 4] rfl (wr := [(h0, .inr (11, [.ref h1, .int 0, .ref h2, .ref h3, .ref h4, .ref h5, .ref h6, .ref h7])), (h1, .inl (a0, 6, .inr (.inr (.inr (.inr g0))))), (h3, .inr (6, [.ref h10, .int 0, .int (-1), .ref h2, .null, .int 0, .int 0, .int 0, .int 0, .int 300, .int 0, .int 0, .int 0, .int 0, .ref h12, .ref h13, .ref h14]))]) rfl (by decide) (by decide) (cells' := 0) (slots' := 0) (by decide) (by decide) (k_runV (rest := []) C aks Wd cs_X11_92 (kcX8_copy l D h8 h2 h31 h9 _ ) [3, 2] rfl (by decide) [] rfl 2 8 rfl rfl rfl rfl rfl ⟨(Nat.le_of_ble_eq_true rfl), (Nat.le_of_ble_eq_true rfl)⟩ hl.1 rfl rfl (Nat.le_of_ble_eq_true rfl) ⟨(Nat.le_of_ble_eq_true rfl), (Nat.le_of_ble_eq_true rfl)⟩ dX11_program_47) (fun _ H locs w1475 Wd => ?_)
    have Wd : wX D [(a0, .object RX8)] s [(h0, .inr (11, [.ref h1, .int 0, .ref h2, .ref h3, .ref h4, .ref h5, .ref h6, .ref h7])), (h1, .inl (a0, 6, .inr (.inr (.inr (.inr g0))))), (h3, .inr (6, [.ref h10, .int 0, .int (-1), .ref h2, .null, .int 0, .int 0, .int 0, .int 0, .int 300, .int 0, .int 0, .int 0, .int 0, .ref h12, .ref h13, .ref h14])), (h2, .inr (8, [.ref h9, .int 0])), (h8, .inr (8, [.ref h31, .int 0]))] _ A s.heap _ := Wd
    refine lv_aload_n C.1 C.2.1 dX11_program_50 rfl (lv_at hl 0 rfl) ?_
    refine k_pi (k_runV (rest := []) C aks Wd cs_X11_95 (kcX8_statements l D h8 h31 _ ) [4] rfl (by decide) [] rfl 4 8 rfl rfl rfl rfl rfl ⟨(Nat.le_of_ble_eq_true rfl), (Nat.le_of_ble_eq_true rfl)⟩ hl.1 rfl rfl (Nat.le_of_ble_eq_true rfl) ⟨(Nat.le_of_ble_eq_true rfl), (Nat.le_of_ble_eq_true rfl)⟩ dX11_program_51) (fun r w1476 => ?_)
    obtain rfl := w1476
    exact k_zret C hr hlk rfl Wd () ⟨c1470, c1471, rfl⟩ [] rfl (by decide) [] rfl (by decide) (by decide) dX11_program_54
set_option maxHeartbeats 4000000 in
set_option maxRecDepth 100000 in
theorem kcX11_at (l : Launch) (D : va_G) (h0 h1 h2 h3 h4 h5 h6 h7 : Nat) (x0 x1 : Int32) (g0 : Nat → Option Nat) (a0 : ClassId) (sz : Nat)  (as0 : x0 < (0 : Int32)): Met l yX11_at (Cond.code yX11_at cX11_at 4 (some .int) :: gG) { frames := 2, cells := 0, slots := 0, locals := 85 } (cPre D [(a0, .object RX8)] [(h0, .inr (11, [.ref h1, .int 0, .ref h2, .ref h3, .ref h4, .ref h5, .ref h6, .ref h7])), (h1, .inl (a0, 6, .inr (.inr (.inr (.inr g0)))))] sz [.ref h0, .int x0, .int x1]) (vp_Si (fun r => x0 < (0 : Int32) ∧ r = (-1))) 0 0 (fun _ => False) := by
  refine Met.ofW (cc := cX11_at) (maxL := 4) (ret := (some .int)) (by decide) rfl ?_
  intro p e s m args below meth c s₁ B hml hv
  obtain ⟨rfl, aks, rfl, Wd⟩ := k_enter hv
  have C : CallFix p m c cX11_at 4 s _ gG RX11 := ⟨B.exec, B.bytes, hml, findClass_of_methodNamed B.named, fun w h => atoms_spec (ws := Cond.code yX11_at cX11_at 4 (some .int) :: gG) B.pre w (List.mem_cons_of_mem _ h)⟩
  have hr := B.returns
  have hlk := B.notSynchronized
  obtain ⟨A, Wd⟩ : ∃ A, wX D [(a0, .object RX8)] s [(h0, .inr (11, [.ref h1, .int 0, .ref h2, .ref h3, .ref h4, .ref h5, .ref h6, .ref h7])), (h1, .inl (a0, 6, .inr (.inr (.inr (.inr g0)))))] s.heap A s.heap [] := ⟨_, Wd⟩
  refine k_locals (Nat.le_of_ble_eq_true rfl) [(0, .ref h0), (1, .int x0), (2, .int x1)] rfl (fun ls hl => ?_)
  refine lv_aload_n C.1 C.2.1 dX11_at_0 rfl (lv_at hl 0 rfl) ?_
  refine lv_iload_n C.1 C.2.1 dX11_at_1 rfl (lv_at hl 1 rfl) ?_
  refine k_pq (k_runV (rest := []) C aks Wd cs_X11_77 (kcX11_slotAt l D h0 h1 h2 h3 h4 h5 h6 h7 x0 g0 a0 _ ) [0, 1] rfl (by decide) [0] rfl 0 11 rfl rfl rfl rfl rfl ⟨(Nat.le_of_ble_eq_true rfl), (Nat.le_of_ble_eq_true rfl)⟩ hl.1 rfl rfl (Nat.le_of_ble_eq_true rfl) ⟨(Nat.le_of_ble_eq_true rfl), (Nat.le_of_ble_eq_true rfl)⟩ dX11_at_2) (fun r w1483 => ?_)
  rcases w1483 with ⟨c1484, rfl⟩ | ⟨c1485, c1486, rfl⟩ | ⟨c1487, c1488, rfl⟩
  · refine W.eq (g2 := F0 m 5 ls [.null]) rfl ?_
    refine lv_astore_nN (lv' := [(3, .null), (0, .ref h0), (1, .int x0), (2, .int x1)]) C.1 C.2.1 dX11_at_5 rfl hl (by decide) rfl (fun ls hl => ?_)
    refine lv_aload_nN C.1 C.2.1 dX11_at_6 rfl (lv_at hl 0 rfl) ?_
    refine lv_ifnonnullN C.1 C.2.1 dX11_at_7 ?_
    refine lv_iconst (v := (-1)) C.1 C.2.1 dX11_at_10 (by decide) ?_
    refine lv_goto (tgt := 19) C.1 C.2.1 dX11_at_11 (by decide) ?_
    exact k_zretP C hr hlk rfl ⟨c1484, rfl⟩ dX11_at_19
  · exact absurd as0 c1485
  · exact absurd as0 c1487
set_option maxHeartbeats 4000000 in
set_option maxRecDepth 100000 in
theorem kcX11_at_v1 (l : Launch) (D : va_G) (h0 h1 h2 h3 h4 h5 h6 h7 : Nat) (x0 x1 : Int32) (g0 : Nat → Option Nat) (a0 : ClassId) (sz : Nat)  (as0 : ¬ x0 < (6 : Int32)): Met l yX11_at (Cond.code yX11_at cX11_at 4 (some .int) :: gG) { frames := 2, cells := 0, slots := 0, locals := 85 } (cPre D [(a0, .object RX8)] [(h0, .inr (11, [.ref h1, .int 0, .ref h2, .ref h3, .ref h4, .ref h5, .ref h6, .ref h7])), (h1, .inl (a0, 6, .inr (.inr (.inr (.inr g0)))))] sz [.ref h0, .int x0, .int x1]) (vp_Si (fun r => ¬ x0 < (0 : Int32) ∧ (6 : Int32) ≤ x0 ∧ r = (-1))) 0 0 (fun _ => False) := by
  refine Met.ofW (cc := cX11_at) (maxL := 4) (ret := (some .int)) (by decide) rfl ?_
  intro p e s m args below meth c s₁ B hml hv
  obtain ⟨rfl, aks, rfl, Wd⟩ := k_enter hv
  have C : CallFix p m c cX11_at 4 s _ gG RX11 := ⟨B.exec, B.bytes, hml, findClass_of_methodNamed B.named, fun w h => atoms_spec (ws := Cond.code yX11_at cX11_at 4 (some .int) :: gG) B.pre w (List.mem_cons_of_mem _ h)⟩
  have hr := B.returns
  have hlk := B.notSynchronized
  obtain ⟨A, Wd⟩ : ∃ A, wX D [(a0, .object RX8)] s [(h0, .inr (11, [.ref h1, .int 0, .ref h2, .ref h3, .ref h4, .ref h5, .ref h6, .ref h7])), (h1, .inl (a0, 6, .inr (.inr (.inr (.inr g0)))))] s.heap A s.heap [] := ⟨_, Wd⟩
  refine k_locals (Nat.le_of_ble_eq_true rfl) [(0, .ref h0), (1, .int x0), (2, .int x1)] rfl (fun ls hl => ?_)
  refine lv_aload_n C.1 C.2.1 dX11_at_0 rfl (lv_at hl 0 rfl) ?_
  refine lv_iload_n C.1 C.2.1 dX11_at_1 rfl (lv_at hl 1 rfl) ?_
  refine k_pq (k_runV (rest := []) C aks Wd cs_X11_77 (kcX11_slotAt l D h0 h1 h2 h3 h4 h5 h6 h7 x0 g0 a0 _ ) [0, 1] rfl (by decide) [0] rfl 0 11 rfl rfl rfl rfl rfl ⟨(Nat.le_of_ble_eq_true rfl), (Nat.le_of_ble_eq_true rfl)⟩ hl.1 rfl rfl (Nat.le_of_ble_eq_true rfl) ⟨(Nat.le_of_ble_eq_true rfl), (Nat.le_of_ble_eq_true rfl)⟩ dX11_at_2) (fun r w1495 => ?_)
  rcases w1495 with ⟨c1496, rfl⟩ | ⟨c1497, c1498, rfl⟩ | ⟨c1499, c1500, rfl⟩
  · exact False.elim (by have z0 := kz_nlt as0; have z1 := kz_lt c1496; have t6 : (6 : Int32).toInt = 6 := (by decide); have t0 : (0 : Int32).toInt = 0 := (by decide); omega)
  · refine W.eq (g2 := F0 m 5 ls [.null]) rfl ?_
    refine lv_astore_nN (lv' := [(3, .null), (0, .ref h0), (1, .int x0), (2, .int x1)]) C.1 C.2.1 dX11_at_5 rfl hl (by decide) rfl (fun ls hl => ?_)
    refine lv_aload_nN C.1 C.2.1 dX11_at_6 rfl (lv_at hl 0 rfl) ?_
    refine lv_ifnonnullN C.1 C.2.1 dX11_at_7 ?_
    refine lv_iconst (v := (-1)) C.1 C.2.1 dX11_at_10 (by decide) ?_
    refine lv_goto (tgt := 19) C.1 C.2.1 dX11_at_11 (by decide) ?_
    exact k_zretP C hr hlk rfl ⟨c1497, c1498, rfl⟩ dX11_at_19
  · exact False.elim (by have z0 := kz_nlt as0; have z1 := kz_nlt c1499; have z2 := kz_nle c1500; have t6 : (6 : Int32).toInt = 6 := (by decide); have t0 : (0 : Int32).toInt = 0 := (by decide); omega)
set_option maxHeartbeats 4000000 in
set_option maxRecDepth 100000 in
theorem kcX8_cell (l : Launch) (D : va_G) (h0 h1 : Nat) (x0 : Int32) (sz : Nat)  : Met l yX8_cell (Cond.code yX8_cell cX8_cell 2 (some .int) :: gG) { frames := 1, cells := 0, slots := 0, locals := 64 } (cPre D [] [(h0, .inr (8, [.ref h1, .int 0]))] sz [.ref h0, .int x0]) (vp_Si (fun r => (x0 < (0 : Int32) ∧ r = (-1)) ∨ (¬ x0 < (0 : Int32) ∧ r = (-1)))) 0 0 (fun _ => False) := by
  refine Met.ofW (cc := cX8_cell) (maxL := 2) (ret := (some .int)) (by decide) rfl ?_
  intro p e s m args below meth c s₁ B hml hv
  obtain ⟨rfl, aks, rfl, Wd⟩ := k_enter hv
  have C : CallFix p m c cX8_cell 2 s _ gG RX8 := ⟨B.exec, B.bytes, hml, findClass_of_methodNamed B.named, fun w h => atoms_spec (ws := Cond.code yX8_cell cX8_cell 2 (some .int) :: gG) B.pre w (List.mem_cons_of_mem _ h)⟩
  have hr := B.returns
  have hlk := B.notSynchronized
  obtain ⟨A, Wd⟩ : ∃ A, wX D [] s [(h0, .inr (8, [.ref h1, .int 0]))] s.heap A s.heap [] := ⟨_, Wd⟩
  refine k_locals (Nat.le_of_ble_eq_true rfl) [(0, .ref h0), (1, .int x0)] rfl (fun ls hl => ?_)
  refine lv_iload_n C.1 C.2.1 dX8_cell_0 rfl (lv_at hl 1 rfl) ?_
  refine lv_if_lt (tgt := 21) C.1 C.2.1 dX8_cell_1 (by decide) (fun c1509 => ?_) (fun c1509 => ?_)
  · refine lv_iconst (v := (-1)) C.1 C.2.1 dX8_cell_21 (by decide) ?_
    exact k_zretP C hr hlk rfl (Or.inl (⟨c1509, rfl⟩)) dX8_cell_22
  · refine lv_iload_n C.1 C.2.1 dX8_cell_4 rfl (lv_at hl 1 rfl) ?_
    refine lv_aload_n C.1 C.2.1 dX8_cell_5 rfl (lv_at hl 0 rfl) ?_
    refine k_get C Wd KX8 0 1 rfl (by decide) fl_X8_21 rfl dX8_cell_6 ?_
    refine lv_icmp_ge (tgt := 21) C.1 C.2.1 dX8_cell_9 (by decide) (fun _ => ?_) (fun c1510 => False.elim (by have z0 := kz_nlt c1509; have z1 := kz_nle c1510; have t0 : (0 : Int32).toInt = 0 := (by decide); omega))
    refine lv_iconst (v := (-1)) C.1 C.2.1 dX8_cell_21 (by decide) ?_
    exact k_zretP C hr hlk rfl (Or.inr (⟨c1509, rfl⟩)) dX8_cell_22
set_option maxHeartbeats 4000000 in
set_option maxRecDepth 100000 in
theorem kcX11_at_v2 (l : Launch) (D : va_G) (h0 h1 h2 h3 h4 h5 h6 h7 h8 h31 : Nat) (x0 x1 : Int32) (g0 : Nat → Option Nat) (a0 : ClassId) (sz : Nat) (k_g0_x0 : g0 x0.toNatClampNeg = some h8) (as0 : ¬ x0 < (0 : Int32)) (as1 : x0 < (6 : Int32)): Met l yX11_at (Cond.code yX11_at cX11_at 4 (some .int) :: gG) { frames := 2, cells := 0, slots := 0, locals := 85 } (cPre D [(a0, .object RX8)] [(h0, .inr (11, [.ref h1, .int 0, .ref h2, .ref h3, .ref h4, .ref h5, .ref h6, .ref h7])), (h1, .inl (a0, 6, .inr (.inr (.inr (.inr g0))))), (h8, .inr (8, [.ref h31, .int 0]))] sz [.ref h0, .int x0, .int x1]) (vp_Si (fun r => (¬ x0 < (0 : Int32) ∧ ¬ (6 : Int32) ≤ x0 ∧ x1 < (0 : Int32) ∧ r = (-1)) ∨ (¬ x0 < (0 : Int32) ∧ ¬ (6 : Int32) ≤ x0 ∧ ¬ x1 < (0 : Int32) ∧ r = (-1)))) 0 0 (fun _ => False) := by
  refine Met.ofW (cc := cX11_at) (maxL := 4) (ret := (some .int)) (by decide) rfl ?_
  intro p e s m args below meth c s₁ B hml hv
  obtain ⟨rfl, aks, rfl, Wd⟩ := k_enter hv
  have C : CallFix p m c cX11_at 4 s _ gG RX11 := ⟨B.exec, B.bytes, hml, findClass_of_methodNamed B.named, fun w h => atoms_spec (ws := Cond.code yX11_at cX11_at 4 (some .int) :: gG) B.pre w (List.mem_cons_of_mem _ h)⟩
  have hr := B.returns
  have hlk := B.notSynchronized
  obtain ⟨A, Wd⟩ : ∃ A, wX D [(a0, .object RX8)] s [(h0, .inr (11, [.ref h1, .int 0, .ref h2, .ref h3, .ref h4, .ref h5, .ref h6, .ref h7])), (h1, .inl (a0, 6, .inr (.inr (.inr (.inr g0))))), (h8, .inr (8, [.ref h31, .int 0]))] s.heap A s.heap [] := ⟨_, Wd⟩
  refine k_locals (Nat.le_of_ble_eq_true rfl) [(0, .ref h0), (1, .int x0), (2, .int x1)] rfl (fun ls hl => ?_)
  refine lv_aload_n C.1 C.2.1 dX11_at_0 rfl (lv_at hl 0 rfl) ?_
  refine lv_iload_n C.1 C.2.1 dX11_at_1 rfl (lv_at hl 1 rfl) ?_
  refine k_pq (k_runV (rest := []) C aks Wd cs_X11_77 (kcX11_slotAt l D h0 h1 h2 h3 h4 h5 h6 h7 x0 g0 a0 _ ) [0, 1] rfl (by decide) [0] rfl 0 11 rfl rfl rfl rfl rfl ⟨(Nat.le_of_ble_eq_true rfl), (Nat.le_of_ble_eq_true rfl)⟩ hl.1 rfl rfl (Nat.le_of_ble_eq_true rfl) ⟨(Nat.le_of_ble_eq_true rfl), (Nat.le_of_ble_eq_true rfl)⟩ dX11_at_2) (fun r w1514 => ?_)
  rcases w1514 with ⟨c1515, rfl⟩ | ⟨c1516, c1517, rfl⟩ | ⟨c1518, c1519, rfl⟩
  · exact absurd c1515 as0
  · exact False.elim (by have z0 := kz_nlt as0; have z1 := kz_lt as1; have z2 := kz_nlt c1516; have z3 := kz_le c1517; have t0 : (0 : Int32).toInt = 0 := (by decide); have t6 : (6 : Int32).toInt = 6 := (by decide); omega)
  · refine W.eq (g2 := F0 m 5 ls [.ref h8]) (by rw [show (g0 x0.toNatClampNeg) = some h8 from k_g0_x0]; rfl) ?_
    refine lv_astore_n (lv' := [(3, .ref h8), (0, .ref h0), (1, .int x0), (2, .int x1)]) C.1 C.2.1 dX11_at_5 rfl hl (by decide) rfl (fun ls hl => ?_)
    refine lv_aload_n C.1 C.2.1 dX11_at_6 rfl (lv_at hl 0 rfl) ?_
    refine lv_ifnonnull (tgt := 14) C.1 C.2.1 dX11_at_7 (by decide) ?_
    refine lv_aload_n C.1 C.2.1 dX11_at_14 rfl (lv_at hl 0 rfl) ?_
    refine lv_iload_n C.1 C.2.1 dX11_at_15 rfl (lv_at hl 3 rfl) ?_
    refine k_pi (k_runV (rest := []) C aks Wd cs_X11_113 (kcX8_cell l D h8 h31 x1 _ ) [2] rfl (by decide) [] rfl 2 8 rfl rfl rfl rfl rfl ⟨(Nat.le_of_ble_eq_true rfl), (Nat.le_of_ble_eq_true rfl)⟩ hl.1 rfl rfl (Nat.le_of_ble_eq_true rfl) ⟨(Nat.le_of_ble_eq_true rfl), (Nat.le_of_ble_eq_true rfl)⟩ dX11_at_16) (fun r w1520 => ?_)
    rcases w1520 with ⟨c1521, rfl⟩ | ⟨c1522, rfl⟩
    · exact k_zretP C hr hlk rfl (Or.inl (⟨c1518, c1519, c1521, rfl⟩)) dX11_at_19
    · exact k_zretP C hr hlk rfl (Or.inr (⟨c1518, c1519, c1522, rfl⟩)) dX11_at_19
set_option maxHeartbeats 4000000 in
set_option maxRecDepth 100000 in
theorem kcX11_size (l : Launch) (D : va_G) (h0 h1 h2 h3 h4 h5 h6 h7 : Nat) (x0 x1 : Int32) (g0 : Nat → Option Nat) (a0 : ClassId) (sz : Nat)  (as0 : x0 < (0 : Int32)): Met l yX11_size (Cond.code yX11_size cX11_size 4 (some .int) :: gG) { frames := 2, cells := 0, slots := 0, locals := 85 } (cPre D [(a0, .object RX8)] [(h0, .inr (11, [.ref h1, .int 0, .ref h2, .ref h3, .ref h4, .ref h5, .ref h6, .ref h7])), (h1, .inl (a0, 6, .inr (.inr (.inr (.inr g0)))))] sz [.ref h0, .int x0, .int x1]) (vp_Si (fun r => x0 < (0 : Int32) ∧ r = (-1))) 0 0 (fun _ => False) := by
  refine Met.ofW (cc := cX11_size) (maxL := 4) (ret := (some .int)) (by decide) rfl ?_
  intro p e s m args below meth c s₁ B hml hv
  obtain ⟨rfl, aks, rfl, Wd⟩ := k_enter hv
  have C : CallFix p m c cX11_size 4 s _ gG RX11 := ⟨B.exec, B.bytes, hml, findClass_of_methodNamed B.named, fun w h => atoms_spec (ws := Cond.code yX11_size cX11_size 4 (some .int) :: gG) B.pre w (List.mem_cons_of_mem _ h)⟩
  have hr := B.returns
  have hlk := B.notSynchronized
  obtain ⟨A, Wd⟩ : ∃ A, wX D [(a0, .object RX8)] s [(h0, .inr (11, [.ref h1, .int 0, .ref h2, .ref h3, .ref h4, .ref h5, .ref h6, .ref h7])), (h1, .inl (a0, 6, .inr (.inr (.inr (.inr g0)))))] s.heap A s.heap [] := ⟨_, Wd⟩
  refine k_locals (Nat.le_of_ble_eq_true rfl) [(0, .ref h0), (1, .int x0), (2, .int x1)] rfl (fun ls hl => ?_)
  refine lv_aload_n C.1 C.2.1 dX11_size_0 rfl (lv_at hl 0 rfl) ?_
  refine lv_iload_n C.1 C.2.1 dX11_size_1 rfl (lv_at hl 1 rfl) ?_
  refine k_pq (k_runV (rest := []) C aks Wd cs_X11_77 (kcX11_slotAt l D h0 h1 h2 h3 h4 h5 h6 h7 x0 g0 a0 _ ) [0, 1] rfl (by decide) [0] rfl 0 11 rfl rfl rfl rfl rfl ⟨(Nat.le_of_ble_eq_true rfl), (Nat.le_of_ble_eq_true rfl)⟩ hl.1 rfl rfl (Nat.le_of_ble_eq_true rfl) ⟨(Nat.le_of_ble_eq_true rfl), (Nat.le_of_ble_eq_true rfl)⟩ dX11_size_2) (fun r w1529 => ?_)
  rcases w1529 with ⟨c1530, rfl⟩ | ⟨c1531, c1532, rfl⟩ | ⟨c1533, c1534, rfl⟩
  · refine W.eq (g2 := F0 m 5 ls [.null]) rfl ?_
    refine lv_astore_nN (lv' := [(3, .null), (0, .ref h0), (1, .int x0), (2, .int x1)]) C.1 C.2.1 dX11_size_5 rfl hl (by decide) rfl (fun ls hl => ?_)
    refine lv_aload_nN C.1 C.2.1 dX11_size_6 rfl (lv_at hl 0 rfl) ?_
    refine lv_ifnonnullN C.1 C.2.1 dX11_size_7 ?_
    refine lv_iconst (v := (-1)) C.1 C.2.1 dX11_size_10 (by decide) ?_
    exact k_zretP C hr hlk rfl ⟨c1530, rfl⟩ dX11_size_11
  · exact absurd as0 c1531
  · exact absurd as0 c1533
set_option maxHeartbeats 4000000 in
set_option maxRecDepth 100000 in
theorem kcX11_size_v1 (l : Launch) (D : va_G) (h0 h1 h2 h3 h4 h5 h6 h7 : Nat) (x0 x1 : Int32) (g0 : Nat → Option Nat) (a0 : ClassId) (sz : Nat)  (as0 : ¬ x0 < (6 : Int32)): Met l yX11_size (Cond.code yX11_size cX11_size 4 (some .int) :: gG) { frames := 2, cells := 0, slots := 0, locals := 85 } (cPre D [(a0, .object RX8)] [(h0, .inr (11, [.ref h1, .int 0, .ref h2, .ref h3, .ref h4, .ref h5, .ref h6, .ref h7])), (h1, .inl (a0, 6, .inr (.inr (.inr (.inr g0)))))] sz [.ref h0, .int x0, .int x1]) (vp_Si (fun r => ¬ x0 < (0 : Int32) ∧ (6 : Int32) ≤ x0 ∧ r = (-1))) 0 0 (fun _ => False) := by
  refine Met.ofW (cc := cX11_size) (maxL := 4) (ret := (some .int)) (by decide) rfl ?_
  intro p e s m args below meth c s₁ B hml hv
  obtain ⟨rfl, aks, rfl, Wd⟩ := k_enter hv
  have C : CallFix p m c cX11_size 4 s _ gG RX11 := ⟨B.exec, B.bytes, hml, findClass_of_methodNamed B.named, fun w h => atoms_spec (ws := Cond.code yX11_size cX11_size 4 (some .int) :: gG) B.pre w (List.mem_cons_of_mem _ h)⟩
  have hr := B.returns
  have hlk := B.notSynchronized
  obtain ⟨A, Wd⟩ : ∃ A, wX D [(a0, .object RX8)] s [(h0, .inr (11, [.ref h1, .int 0, .ref h2, .ref h3, .ref h4, .ref h5, .ref h6, .ref h7])), (h1, .inl (a0, 6, .inr (.inr (.inr (.inr g0)))))] s.heap A s.heap [] := ⟨_, Wd⟩
  refine k_locals (Nat.le_of_ble_eq_true rfl) [(0, .ref h0), (1, .int x0), (2, .int x1)] rfl (fun ls hl => ?_)
  refine lv_aload_n C.1 C.2.1 dX11_size_0 rfl (lv_at hl 0 rfl) ?_
  refine lv_iload_n C.1 C.2.1 dX11_size_1 rfl (lv_at hl 1 rfl) ?_
  refine k_pq (k_runV (rest := []) C aks Wd cs_X11_77 (kcX11_slotAt l D h0 h1 h2 h3 h4 h5 h6 h7 x0 g0 a0 _ ) [0, 1] rfl (by decide) [0] rfl 0 11 rfl rfl rfl rfl rfl ⟨(Nat.le_of_ble_eq_true rfl), (Nat.le_of_ble_eq_true rfl)⟩ hl.1 rfl rfl (Nat.le_of_ble_eq_true rfl) ⟨(Nat.le_of_ble_eq_true rfl), (Nat.le_of_ble_eq_true rfl)⟩ dX11_size_2) (fun r w1541 => ?_)
  rcases w1541 with ⟨c1542, rfl⟩ | ⟨c1543, c1544, rfl⟩ | ⟨c1545, c1546, rfl⟩
  · exact False.elim (by have z0 := kz_nlt as0; have z1 := kz_lt c1542; have t6 : (6 : Int32).toInt = 6 := (by decide); have t0 : (0 : Int32).toInt = 0 := (by decide); omega)
  · refine W.eq (g2 := F0 m 5 ls [.null]) rfl ?_
    refine lv_astore_nN (lv' := [(3, .null), (0, .ref h0), (1, .int x0), (2, .int x1)]) C.1 C.2.1 dX11_size_5 rfl hl (by decide) rfl (fun ls hl => ?_)
    refine lv_aload_nN C.1 C.2.1 dX11_size_6 rfl (lv_at hl 0 rfl) ?_
    refine lv_ifnonnullN C.1 C.2.1 dX11_size_7 ?_
    refine lv_iconst (v := (-1)) C.1 C.2.1 dX11_size_10 (by decide) ?_
    exact k_zretP C hr hlk rfl ⟨c1543, c1544, rfl⟩ dX11_size_11
  · exact False.elim (by have z0 := kz_nlt as0; have z1 := kz_nlt c1545; have z2 := kz_nle c1546; have t6 : (6 : Int32).toInt = 6 := (by decide); have t0 : (0 : Int32).toInt = 0 := (by decide); omega)
set_option maxHeartbeats 4000000 in
set_option maxRecDepth 100000 in
theorem kcX8_expressions (l : Launch) (D : va_G) (h0 h1 : Nat) (sz : Nat)  : Met l yX8_expressions (Cond.code yX8_expressions cX8_expressions 3 (some .int) :: gG) { frames := 1, cells := 0, slots := 0, locals := 64 } (cPre D [] [(h0, .inr (8, [.ref h1, .int 0]))] sz [.ref h0]) (vp_Si (fun r => r = 0)) 0 0 (fun _ => False) := by
  refine Met.ofW (cc := cX8_expressions) (maxL := 3) (ret := (some .int)) (by decide) rfl ?_
  intro p e s m args below meth c s₁ B hml hv
  obtain ⟨rfl, aks, rfl, Wd⟩ := k_enter hv
  have C : CallFix p m c cX8_expressions 3 s _ gG RX8 := ⟨B.exec, B.bytes, hml, findClass_of_methodNamed B.named, fun w h => atoms_spec (ws := Cond.code yX8_expressions cX8_expressions 3 (some .int) :: gG) B.pre w (List.mem_cons_of_mem _ h)⟩
  have hr := B.returns
  have hlk := B.notSynchronized
  obtain ⟨A, Wd⟩ : ∃ A, wX D [] s [(h0, .inr (8, [.ref h1, .int 0]))] s.heap A s.heap [] := ⟨_, Wd⟩
  refine k_locals (Nat.le_of_ble_eq_true rfl) [(0, .ref h0)] rfl (fun ls hl => ?_)
  refine lv_iconst (v := 0) C.1 C.2.1 dX8_expressions_0 (by decide) ?_
  refine lv_istore_n (lv' := [(1, .int 0), (0, .ref h0)]) C.1 C.2.1 dX8_expressions_1 rfl hl (by decide) rfl (fun ls hl => ?_)
  refine lv_iconst (v := 0) C.1 C.2.1 dX8_expressions_2 (by decide) ?_
  refine lv_istore_n (lv' := [(2, .int 0), (1, .int 0), (0, .ref h0)]) C.1 C.2.1 dX8_expressions_3 rfl hl (by decide) rfl (fun ls hl => ?_)
  refine lv_iload_n C.1 C.2.1 dX8_expressions_4 rfl (lv_at hl 0 rfl) ?_
  refine lv_aload_n C.1 C.2.1 dX8_expressions_5 rfl (lv_at hl 2 rfl) ?_
  refine k_get C Wd KX8 0 1 rfl (by decide) fl_X8_21 rfl dX8_expressions_6 ?_
  refine lv_icmp_ge (tgt := 33) C.1 C.2.1 dX8_expressions_9 (by decide) (fun _ => ?_) (fun c1557 => absurd c1557 (by decide))
  refine lv_iload_n C.1 C.2.1 dX8_expressions_33 rfl (lv_at hl 1 rfl) ?_
  exact k_zretP C hr hlk rfl rfl dX8_expressions_34
set_option maxHeartbeats 4000000 in
set_option maxRecDepth 100000 in
theorem kcX1_number (l : Launch) (D : va_G) (h0 h1 h2 h3 h4 h5 h6 h7 h8 h9 h10 h11 h12 h13 h14 : Nat) (sz : Nat)  : Met l yX1_number (Cond.code yX1_number cX1_number 4 none :: gG) { frames := 1, cells := 0, slots := 0, locals := 64 } (cPre D [] [(h0, .inr (1, [.ref h1, .int 0, .ref h2, .ref h3, .ref h4, .ref h5, .ref h6, .ref h7, .ref h8, .ref h9, .ref h10, .ref h11, .ref h12, .ref h13])), (h1, .inr (8, [.ref h14, .int 0]))] sz [.ref h0]) (va_Qv (fun (_ : Unit) => True) (fun u t => cB D (va_A [(h0, .inr (1, [.ref h1, .int 0, .ref h2, .ref h3, .ref h4, .ref h5, .ref h6, .ref h7, .ref h8, .ref h9, .ref h10, .ref h11, .ref h12, .ref h13])), (h1, .inr (8, [.ref h14, .int 0]))] sz) ((fun (_ : Unit) => ([] : List (ClassId × FieldType))) u) ((fun (_ : Unit) => ([(h0, .inr (1, [.ref h1, .int 0, .ref h2, .ref h3, .ref h4, .ref h5, .ref h6, .ref h7, .ref h8, .ref h9, .ref h10, .ref h11, .ref h12, .ref h13])), (h1, .inr (8, [.ref h14, .int 0]))] : va_W)) u) t) (va_A [(h0, .inr (1, [.ref h1, .int 0, .ref h2, .ref h3, .ref h4, .ref h5, .ref h6, .ref h7, .ref h8, .ref h9, .ref h10, .ref h11, .ref h12, .ref h13])), (h1, .inr (8, [.ref h14, .int 0]))] sz)) 0 0 (va_A [(h0, .inr (1, [.ref h1, .int 0, .ref h2, .ref h3, .ref h4, .ref h5, .ref h6, .ref h7, .ref h8, .ref h9, .ref h10, .ref h11, .ref h12, .ref h13])), (h1, .inr (8, [.ref h14, .int 0]))] sz) := by
  refine Met.ofW (cc := cX1_number) (maxL := 4) (ret := none) (by decide) rfl ?_
  intro p e s m args below meth c s₁ B hml hv
  obtain ⟨rfl, aks, rfl, Wd⟩ := k_enter hv
  have C : CallFix p m c cX1_number 4 s _ gG RX1 := ⟨B.exec, B.bytes, hml, findClass_of_methodNamed B.named, fun w h => atoms_spec (ws := Cond.code yX1_number cX1_number 4 none :: gG) B.pre w (List.mem_cons_of_mem _ h)⟩
  have hr := B.returns
  have hlk := B.notSynchronized
  generalize va_A [(h0, .inr (1, [.ref h1, .int 0, .ref h2, .ref h3, .ref h4, .ref h5, .ref h6, .ref h7, .ref h8, .ref h9, .ref h10, .ref h11, .ref h12, .ref h13])), (h1, .inr (8, [.ref h14, .int 0]))] s.heap.size = A at Wd ⊢
  refine k_locals (Nat.le_of_ble_eq_true rfl) [(0, .ref h0)] rfl (fun ls hl => ?_)
  refine lv_iconst (v := 0) C.1 C.2.1 dX1_number_0 (by decide) ?_
  refine lv_istore_n (lv' := [(1, .int 0), (0, .ref h0)]) C.1 C.2.1 dX1_number_1 rfl hl (by decide) rfl (fun ls hl => ?_)
  refine lv_aload_n C.1 C.2.1 dX1_number_2 rfl (lv_at hl 1 rfl) ?_
  refine lv_iconst (v := 0) C.1 C.2.1 dX1_number_3 (by decide) ?_
  refine k_put C Wd KX1 0 1 [(h0, .inr (1, [.ref h1, .int 0, .ref h2, .ref h3, .ref h4, .ref h5, .ref h6, .ref h7, .ref h8, .ref h9, .ref h10, .ref h11, .ref h12, .ref h13])), (h1, .inr (8, [.ref h14, .int 0]))] rfl (by decide) fl_X1_57 rfl rfl rfl (Nat.le_of_ble_eq_true rfl) rfl dX1_number_4 (fun H locs Wd => ?_)
  refine lv_iconst (v := 0) C.1 C.2.1 dX1_number_7 (by decide) ?_
  refine lv_istore_n (lv' := [(2, .int 0), (1, .int 0), (0, .ref h0)]) C.1 C.2.1 dX1_number_8 rfl hl (by decide) rfl (fun ls hl => ?_)
  refine lv_iload_n C.1 C.2.1 dX1_number_9 rfl (lv_at hl 0 rfl) ?_
  refine lv_aload_n C.1 C.2.1 dX1_number_10 rfl (lv_at hl 2 rfl) ?_
  refine k_get C Wd KX1 0 0 rfl (by decide) fl_X1_14 rfl dX1_number_11 ?_
  refine k_get C Wd KX8 1 1 rfl (by decide) fl_X1_78 rfl dX1_number_14 ?_
  refine lv_icmp_ge (tgt := 235) C.1 C.2.1 dX1_number_17 (by decide) (fun _ => ?_) (fun c1562 => absurd c1562 (by decide))
  exact k_vret C hr hlk Wd () trivial [0, 1] rfl (by decide) [] rfl (by decide) (by decide) dX1_number_235
set_option maxHeartbeats 4000000 in
set_option maxRecDepth 100000 in
theorem kcX1_link (l : Launch) (D : va_G) (h0 h1 h2 h3 h4 h5 h6 h7 h8 h9 h10 h11 h12 h13 h14 : Nat) (a0 : ClassId) (sz : Nat)  : Met l yX1_link (Cond.code yX1_link cX1_link 4 none :: gG) { frames := 1, cells := 0, slots := 0, locals := 64 } (cPre D [(a0, .int)] [(h0, .inr (1, [.ref h1, .int 0, .ref h2, .ref h3, .ref h4, .ref h5, .ref h6, .ref h7, .ref h8, .ref h9, .ref h10, .ref h11, .ref h12, .ref h13])), (h1, .inr (8, [.ref h14, .int 0])), (h13, .inl (a0, 480, .inl (fun _ => 0)))] sz [.ref h0]) (va_Sv (fun _ => True)) 0 0 (fun _ => False) := by
  refine Met.ofW (cc := cX1_link) (maxL := 4) (ret := none) (by decide) rfl ?_
  intro p e s m args below meth c s₁ B hml hv
  obtain ⟨rfl, aks, rfl, Wd⟩ := k_enter hv
  have C : CallFix p m c cX1_link 4 s _ gG RX1 := ⟨B.exec, B.bytes, hml, findClass_of_methodNamed B.named, fun w h => atoms_spec (ws := Cond.code yX1_link cX1_link 4 none :: gG) B.pre w (List.mem_cons_of_mem _ h)⟩
  have hr := B.returns
  have hlk := B.notSynchronized
  obtain ⟨A, Wd⟩ : ∃ A, wX D [(a0, .int)] s [(h0, .inr (1, [.ref h1, .int 0, .ref h2, .ref h3, .ref h4, .ref h5, .ref h6, .ref h7, .ref h8, .ref h9, .ref h10, .ref h11, .ref h12, .ref h13])), (h1, .inr (8, [.ref h14, .int 0])), (h13, .inl (a0, 480, .inl (fun _ => 0)))] s.heap A s.heap [] := ⟨_, Wd⟩
  refine k_locals (Nat.le_of_ble_eq_true rfl) [(0, .ref h0)] rfl (fun ls hl => ?_)
  refine lv_iconst (v := (-1)) C.1 C.2.1 dX1_link_0 (by decide) ?_
  refine lv_istore_n (lv' := [(1, .int (-1)), (0, .ref h0)]) C.1 C.2.1 dX1_link_1 rfl hl (by decide) rfl (fun ls hl => ?_)
  refine lv_aload_n C.1 C.2.1 dX1_link_2 rfl (lv_at hl 1 rfl) ?_
  refine k_get C Wd KX1 0 0 rfl (by decide) fl_X1_14 rfl dX1_link_3 ?_
  refine k_get C Wd KX8 1 1 rfl (by decide) fl_X1_78 rfl dX1_link_6 ?_
  refine lv_aload_n C.1 C.2.1 dX1_link_9 rfl (lv_at hl 1 rfl) ?_
  refine k_get C Wd KX1 0 13 rfl (by decide) fl_X1_54 rfl dX1_link_10 ?_
  refine k_alen (v := 480) C Wd 2 0 rfl rfl rfl dX1_link_13 ?_
  refine k_mmin (v := 0) C hl.1 ml_X1_103 st_Lib_Math_min_name in_J9 cd_min (Nat.le_of_ble_eq_true rfl) (Nat.le_of_ble_eq_true rfl) (Nat.le_of_ble_eq_true rfl) (Nat.le_of_ble_eq_true rfl) (by decide) dX1_link_14 ?_
  refine lv_iconst (v := 1) C.1 C.2.1 dX1_link_17 (by decide) ?_
  refine k_isub (v := (-1)) C (by decide) dX1_link_18 ?_
  refine lv_istore_n (lv' := [(2, .int (-1)), (1, .int (-1)), (0, .ref h0)]) C.1 C.2.1 dX1_link_19 rfl hl (by decide) rfl (fun ls hl => ?_)
  refine lv_iload_n C.1 C.2.1 dX1_link_20 rfl (lv_at hl 0 rfl) ?_
  refine lv_if_lt (tgt := 60) C.1 C.2.1 dX1_link_21 (by decide) (fun _ => ?_) (fun c1565 => absurd c1565 (by decide))
  exact k_vretP C hr hlk trivial dX1_link_60
set_option maxHeartbeats 4000000 in
set_option maxRecDepth 100000 in
theorem kcX1_settle (l : Launch) (D : va_G) (h0 h1 h2 h3 h4 h5 h6 h7 h8 h9 h10 h11 h12 h13 : Nat) (sz : Nat)  : Met l yX1_settle (Cond.code yX1_settle cX1_settle 5 none :: gG) { frames := 1, cells := 0, slots := 0, locals := 64 } (cPre D [] [(h0, .inr (1, [.ref h1, .int 0, .ref h2, .ref h3, .ref h4, .ref h5, .ref h6, .ref h7, .ref h8, .ref h9, .ref h10, .ref h11, .ref h12, .ref h13]))] sz [.ref h0]) (va_Sv (fun _ => True)) 0 0 (fun _ => False) := by
  refine Met.ofW (cc := cX1_settle) (maxL := 5) (ret := none) (by decide) rfl ?_
  intro p e s m args below meth c s₁ B hml hv
  obtain ⟨rfl, aks, rfl, Wd⟩ := k_enter hv
  have C : CallFix p m c cX1_settle 5 s _ gG RX1 := ⟨B.exec, B.bytes, hml, findClass_of_methodNamed B.named, fun w h => atoms_spec (ws := Cond.code yX1_settle cX1_settle 5 none :: gG) B.pre w (List.mem_cons_of_mem _ h)⟩
  have hr := B.returns
  have hlk := B.notSynchronized
  obtain ⟨A, Wd⟩ : ∃ A, wX D [] s [(h0, .inr (1, [.ref h1, .int 0, .ref h2, .ref h3, .ref h4, .ref h5, .ref h6, .ref h7, .ref h8, .ref h9, .ref h10, .ref h11, .ref h12, .ref h13]))] s.heap A s.heap [] := ⟨_, Wd⟩
  refine k_locals (Nat.le_of_ble_eq_true rfl) [(0, .ref h0)] rfl (fun ls hl => ?_)
  refine lv_iconst (v := 0) C.1 C.2.1 dX1_settle_0 (by decide) ?_
  refine lv_istore_n (lv' := [(1, .int 0), (0, .ref h0)]) C.1 C.2.1 dX1_settle_1 rfl hl (by decide) rfl (fun ls hl => ?_)
  refine lv_iload_n C.1 C.2.1 dX1_settle_2 rfl (lv_at hl 0 rfl) ?_
  refine lv_aload_n C.1 C.2.1 dX1_settle_3 rfl (lv_at hl 1 rfl) ?_
  refine k_get C Wd KX1 0 1 rfl (by decide) fl_X1_57 rfl dX1_settle_4 ?_
  refine lv_icmp_ge (tgt := 29) C.1 C.2.1 dX1_settle_7 (by decide) (fun _ => ?_) (fun c1573 => absurd c1573 (by decide))
  refine lv_iconst (v := 1) C.1 C.2.1 dX1_settle_29 (by decide) ?_
  refine lv_istore_n (lv' := [(1, .int 1), (0, .ref h0)]) C.1 C.2.1 dX1_settle_30 rfl hl (by decide) rfl (fun ls hl => ?_)
  refine lv_iconst (v := 0) C.1 C.2.1 dX1_settle_31 (by decide) ?_
  refine lv_istore_n (lv' := [(2, .int 0), (1, .int 1), (0, .ref h0)]) C.1 C.2.1 dX1_settle_32 rfl hl (by decide) rfl (fun ls hl => ?_)
  refine lv_iload_n C.1 C.2.1 dX1_settle_33 rfl (lv_at hl 0 rfl) ?_
  refine lv_sipush (v := 241) C.1 C.2.1 dX1_settle_34 (by decide) ?_
  refine lv_icmp_ge (tgt := 142) C.1 C.2.1 dX1_settle_37 (by decide) (fun c1574 => absurd c1574 (by decide)) (fun _ => ?_)
  refine lv_iload_n C.1 C.2.1 dX1_settle_40 rfl (lv_at hl 1 rfl) ?_
  refine lv_if_eq (tgt := 142) C.1 C.2.1 dX1_settle_41 (by decide) (fun c1575 => absurd c1575 (by decide)) (fun _ => ?_)
  refine lv_iconst (v := 0) C.1 C.2.1 dX1_settle_44 (by decide) ?_
  refine lv_istore_n (lv' := [(1, .int 0), (2, .int 0), (0, .ref h0)]) C.1 C.2.1 dX1_settle_45 rfl hl (by decide) rfl (fun ls hl => ?_)
  refine lv_aload_n C.1 C.2.1 dX1_settle_46 rfl (lv_at hl 2 rfl) ?_
  refine k_get C Wd KX1 0 1 rfl (by decide) fl_X1_57 rfl dX1_settle_47 ?_
  refine lv_bipush (v := 40) C.1 C.2.1 dX1_settle_50 (by decide) ?_
  refine k_mmin (v := 0) C hl.1 ml_X1_103 st_Lib_Math_min_name in_J9 cd_min (Nat.le_of_ble_eq_true rfl) (Nat.le_of_ble_eq_true rfl) (Nat.le_of_ble_eq_true rfl) (Nat.le_of_ble_eq_true rfl) (by decide) dX1_settle_52 ?_
  refine lv_iconst (v := 1) C.1 C.2.1 dX1_settle_55 (by decide) ?_
  refine k_isub (v := (-1)) C (by decide) dX1_settle_56 ?_
  refine lv_istore_n (lv' := [(3, .int (-1)), (1, .int 0), (2, .int 0), (0, .ref h0)]) C.1 C.2.1 dX1_settle_57 rfl hl (by decide) rfl (fun ls hl => ?_)
  refine lv_iload_n C.1 C.2.1 dX1_settle_58 rfl (lv_at hl 0 rfl) ?_
  refine lv_if_lt (tgt := 136) C.1 C.2.1 dX1_settle_59 (by decide) (fun _ => ?_) (fun c1576 => absurd c1576 (by decide))
  refine lv_iinc (v := 1) (lv' := [(2, .int 1), (3, .int (-1)), (1, .int 0), (0, .ref h0)]) C.1 C.2.1 dX1_settle_136 hl (k := 2) rfl (by decide) (by decide) rfl (fun ls hl => ?_)
  refine lv_goto (tgt := 33) C.1 C.2.1 dX1_settle_139 (by decide) ?_
  refine lv_iload_n C.1 C.2.1 dX1_settle_33 rfl (lv_at hl 0 rfl) ?_
  refine lv_sipush (v := 241) C.1 C.2.1 dX1_settle_34 (by decide) ?_
  refine lv_icmp_ge (tgt := 142) C.1 C.2.1 dX1_settle_37 (by decide) (fun c1577 => absurd c1577 (by decide)) (fun _ => ?_)
  refine lv_iload_n C.1 C.2.1 dX1_settle_40 rfl (lv_at hl 2 rfl) ?_
  refine lv_if_eq (tgt := 142) C.1 C.2.1 dX1_settle_41 (by decide) (fun _ => ?_) (fun c1578 => absurd c1578 (by decide))
  exact k_vretP C hr hlk trivial dX1_settle_142
set_option maxHeartbeats 4000000 in
set_option maxRecDepth 100000 in
theorem kcX1_trace (l : Launch) (D : va_G) (h0 h1 h2 h3 h4 h5 h6 h7 h8 h9 h10 h11 h12 h13 h14 h15 : Nat) (a0 : ClassId) (sz : Nat)  : Met l yX1_trace (Cond.code yX1_trace cX1_trace 2 none :: gG) { frames := 2, cells := 0, slots := 0, locals := 88 } (cPre D [(a0, .int)] [(h0, .inr (1, [.ref h2, .int 0, .ref h3, .ref h4, .ref h5, .ref h6, .ref h7, .ref h8, .ref h9, .ref h10, .ref h11, .ref h12, .ref h13, .ref h14])), (h1, .inr (8, [.ref h15, .int 0])), (h14, .inl (a0, 480, .inl (fun _ => 0)))] sz [.ref h0, .ref h1]) (va_Qv (fun (_ : Unit) => True) (fun u t => cB D (va_A [(h0, .inr (1, [.ref h2, .int 0, .ref h3, .ref h4, .ref h5, .ref h6, .ref h7, .ref h8, .ref h9, .ref h10, .ref h11, .ref h12, .ref h13, .ref h14])), (h1, .inr (8, [.ref h15, .int 0])), (h14, .inl (a0, 480, .inl (fun _ => 0)))] sz) ((fun (_ : Unit) => ([] : List (ClassId × FieldType))) u) ((fun (_ : Unit) => ([(h0, .inr (1, [.ref h1, .int 0, .ref h3, .ref h4, .ref h5, .ref h6, .ref h7, .ref h8, .ref h9, .ref h10, .ref h11, .ref h12, .ref h13, .ref h14])), (h1, .inr (8, [.ref h15, .int 0])), (h14, .inl (a0, 480, .inl (fun _ => 0)))] : va_W)) u) t) (va_A [(h0, .inr (1, [.ref h2, .int 0, .ref h3, .ref h4, .ref h5, .ref h6, .ref h7, .ref h8, .ref h9, .ref h10, .ref h11, .ref h12, .ref h13, .ref h14])), (h1, .inr (8, [.ref h15, .int 0])), (h14, .inl (a0, 480, .inl (fun _ => 0)))] sz)) 0 0 (va_A [(h0, .inr (1, [.ref h2, .int 0, .ref h3, .ref h4, .ref h5, .ref h6, .ref h7, .ref h8, .ref h9, .ref h10, .ref h11, .ref h12, .ref h13, .ref h14])), (h1, .inr (8, [.ref h15, .int 0])), (h14, .inl (a0, 480, .inl (fun _ => 0)))] sz) := by
  refine Met.ofW (cc := cX1_trace) (maxL := 2) (ret := none) (by decide) rfl ?_
  intro p e s m args below meth c s₁ B hml hv
  obtain ⟨rfl, aks, rfl, Wd⟩ := k_enter hv
  have C : CallFix p m c cX1_trace 2 s _ gG RX1 := ⟨B.exec, B.bytes, hml, findClass_of_methodNamed B.named, fun w h => atoms_spec (ws := Cond.code yX1_trace cX1_trace 2 none :: gG) B.pre w (List.mem_cons_of_mem _ h)⟩
  have hr := B.returns
  have hlk := B.notSynchronized
  generalize va_A [(h0, .inr (1, [.ref h2, .int 0, .ref h3, .ref h4, .ref h5, .ref h6, .ref h7, .ref h8, .ref h9, .ref h10, .ref h11, .ref h12, .ref h13, .ref h14])), (h1, .inr (8, [.ref h15, .int 0])), (h14, .inl (a0, 480, .inl (fun _ => 0)))] s.heap.size = A at Wd ⊢
  refine k_locals (Nat.le_of_ble_eq_true rfl) [(0, .ref h0), (1, .ref h1)] rfl (fun ls hl => ?_)
  refine lv_aload_n C.1 C.2.1 dX1_trace_0 rfl (lv_at hl 0 rfl) ?_
  refine lv_aload_n C.1 C.2.1 dX1_trace_1 rfl (lv_at hl 1 rfl) ?_
  refine k_put C Wd KX1 0 0 [(h0, .inr (1, [.ref h1, .int 0, .ref h3, .ref h4, .ref h5, .ref h6, .ref h7, .ref h8, .ref h9, .ref h10, .ref h11, .ref h12, .ref h13, .ref h14])), (h1, .inr (8, [.ref h15, .int 0])), (h14, .inl (a0, 480, .inl (fun _ => 0)))] rfl (by decide) fl_X1_14 rfl rfl rfl (Nat.le_of_ble_eq_true rfl) rfl dX1_trace_2 (fun H locs Wd => ?_)
  refine lv_aload_n C.1 C.2.1 dX1_trace_5 rfl (lv_at hl 0 rfl) ?_
  refine k_cv Wd [0, 1] [2] rfl (wr := [(h14, .inl (a0, 480, .inl (fun _ => 0)))]) rfl (by decide) (by decide) (cells' := 0) (slots' := 0) (by decide) (by decide) (k_runV (rest := []) C aks Wd cs_X1_61 (kcX1_number l D h0 h1 h3 h4 h5 h6 h7 h8 h9 h10 h11 h12 h13 h14 h15 _ ) [0, 1] rfl (by decide) [] rfl 0 1 rfl rfl rfl rfl rfl ⟨(Nat.le_of_ble_eq_true rfl), (Nat.le_of_ble_eq_true rfl)⟩ hl.1 rfl rfl (Nat.le_of_ble_eq_true rfl) ⟨(Nat.le_of_ble_eq_true rfl), (Nat.le_of_ble_eq_true rfl)⟩ dX1_trace_6) (fun _ H locs w1580 Wd => ?_)
  have Wd : wX D [(a0, .int)] s [(h14, .inl (a0, 480, .inl (fun _ => 0))), (h0, .inr (1, [.ref h1, .int 0, .ref h3, .ref h4, .ref h5, .ref h6, .ref h7, .ref h8, .ref h9, .ref h10, .ref h11, .ref h12, .ref h13, .ref h14])), (h1, .inr (8, [.ref h15, .int 0]))] _ A s.heap _ := Wd
  refine lv_aload_n C.1 C.2.1 dX1_trace_9 rfl (lv_at hl 0 rfl) ?_
  refine k_pv (k_runV (rest := []) C aks Wd cs_X1_64 (kcX1_link l D h0 h1 h3 h4 h5 h6 h7 h8 h9 h10 h11 h12 h13 h14 h15 a0 _ ) [1, 2, 0] rfl (by decide) [0] rfl 1 1 rfl rfl rfl rfl rfl ⟨(Nat.le_of_ble_eq_true rfl), (Nat.le_of_ble_eq_true rfl)⟩ hl.1 rfl rfl (Nat.le_of_ble_eq_true rfl) ⟨(Nat.le_of_ble_eq_true rfl), (Nat.le_of_ble_eq_true rfl)⟩ dX1_trace_10) (fun w1581 => ?_)
  refine lv_aload_n C.1 C.2.1 dX1_trace_13 rfl (lv_at hl 0 rfl) ?_
  refine k_pv (k_runV (rest := []) C aks Wd cs_X1_67 (kcX1_settle l D h0 h1 h3 h4 h5 h6 h7 h8 h9 h10 h11 h12 h13 h14 _ ) [1] rfl (by decide) [] rfl 1 1 rfl rfl rfl rfl rfl ⟨(Nat.le_of_ble_eq_true rfl), (Nat.le_of_ble_eq_true rfl)⟩ hl.1 rfl rfl (Nat.le_of_ble_eq_true rfl) ⟨(Nat.le_of_ble_eq_true rfl), (Nat.le_of_ble_eq_true rfl)⟩ dX1_trace_14) (fun w1582 => ?_)
  exact k_vret C hr hlk Wd () trivial [1, 2, 0] rfl (by decide) [] rfl (by decide) (by decide) dX1_trace_17
set_option maxHeartbeats 4000000 in
set_option maxRecDepth 100000 in
theorem kcX1_isHere (l : Launch) (D : va_G) (h0 h1 h2 h3 h4 h5 h6 h7 h8 h9 h10 h11 h12 h13 : Nat) (x0 : Int32) (sz : Nat)  : Met l yX1_isHere (Cond.code yX1_isHere cX1_isHere 2 (some .boolean) :: gG) { frames := 1, cells := 0, slots := 0, locals := 64 } (cPre D [] [(h0, .inr (1, [.ref h1, .int 0, .ref h2, .ref h3, .ref h4, .ref h5, .ref h6, .ref h7, .ref h8, .ref h9, .ref h10, .ref h11, .ref h12, .ref h13]))] sz [.ref h0, .int x0]) (vp_Si (fun r => (x0 < (0 : Int32) ∧ r = 0) ∨ (¬ x0 < (0 : Int32) ∧ r = 0))) 0 0 (fun _ => False) := by
  refine Met.ofW (cc := cX1_isHere) (maxL := 2) (ret := (some .boolean)) (by decide) rfl ?_
  intro p e s m args below meth c s₁ B hml hv
  obtain ⟨rfl, aks, rfl, Wd⟩ := k_enter hv
  have C : CallFix p m c cX1_isHere 2 s _ gG RX1 := ⟨B.exec, B.bytes, hml, findClass_of_methodNamed B.named, fun w h => atoms_spec (ws := Cond.code yX1_isHere cX1_isHere 2 (some .boolean) :: gG) B.pre w (List.mem_cons_of_mem _ h)⟩
  have hr := B.returns
  have hlk := B.notSynchronized
  obtain ⟨A, Wd⟩ : ∃ A, wX D [] s [(h0, .inr (1, [.ref h1, .int 0, .ref h2, .ref h3, .ref h4, .ref h5, .ref h6, .ref h7, .ref h8, .ref h9, .ref h10, .ref h11, .ref h12, .ref h13]))] s.heap A s.heap [] := ⟨_, Wd⟩
  refine k_locals (Nat.le_of_ble_eq_true rfl) [(0, .ref h0), (1, .int x0)] rfl (fun ls hl => ?_)
  refine lv_iload_n C.1 C.2.1 dX1_isHere_0 rfl (lv_at hl 1 rfl) ?_
  refine lv_if_lt (tgt := 22) C.1 C.2.1 dX1_isHere_1 (by decide) (fun c1586 => ?_) (fun c1586 => ?_)
  · refine lv_iconst (v := 0) C.1 C.2.1 dX1_isHere_22 (by decide) ?_
    exact k_zretP C hr hlk rfl (Or.inl (⟨c1586, rfl⟩)) dX1_isHere_23
  · refine lv_iload_n C.1 C.2.1 dX1_isHere_4 rfl (lv_at hl 1 rfl) ?_
    refine lv_aload_n C.1 C.2.1 dX1_isHere_5 rfl (lv_at hl 0 rfl) ?_
    refine k_get C Wd KX1 0 1 rfl (by decide) fl_X1_57 rfl dX1_isHere_6 ?_
    refine lv_icmp_ge (tgt := 22) C.1 C.2.1 dX1_isHere_9 (by decide) (fun _ => ?_) (fun c1587 => False.elim (by have z0 := kz_nlt c1586; have z1 := kz_nle c1587; have t0 : (0 : Int32).toInt = 0 := (by decide); omega))
    refine lv_iconst (v := 0) C.1 C.2.1 dX1_isHere_22 (by decide) ?_
    exact k_zretP C hr hlk rfl (Or.inr (⟨c1586, rfl⟩)) dX1_isHere_23
set_option maxHeartbeats 4000000 in
set_option maxRecDepth 100000 in
theorem kcX1_aheadOf (l : Launch) (D : va_G) (h0 h1 h2 h3 h4 h5 h6 h7 h8 h9 h10 h11 h12 h13 : Nat) (x0 : Int32) (sz : Nat)  : Met l yX1_aheadOf (Cond.code yX1_aheadOf cX1_aheadOf 2 (some .int) :: gG) { frames := 2, cells := 0, slots := 0, locals := 85 } (cPre D [] [(h0, .inr (1, [.ref h1, .int 0, .ref h2, .ref h3, .ref h4, .ref h5, .ref h6, .ref h7, .ref h8, .ref h9, .ref h10, .ref h11, .ref h12, .ref h13]))] sz [.ref h0, .int x0]) (vp_Si (fun r => (x0 < (0 : Int32) ∧ r = 0) ∨ (¬ x0 < (0 : Int32) ∧ r = 0))) 0 0 (fun _ => False) := by
  refine Met.ofW (cc := cX1_aheadOf) (maxL := 2) (ret := (some .int)) (by decide) rfl ?_
  intro p e s m args below meth c s₁ B hml hv
  obtain ⟨rfl, aks, rfl, Wd⟩ := k_enter hv
  have C : CallFix p m c cX1_aheadOf 2 s _ gG RX1 := ⟨B.exec, B.bytes, hml, findClass_of_methodNamed B.named, fun w h => atoms_spec (ws := Cond.code yX1_aheadOf cX1_aheadOf 2 (some .int) :: gG) B.pre w (List.mem_cons_of_mem _ h)⟩
  have hr := B.returns
  have hlk := B.notSynchronized
  obtain ⟨A, Wd⟩ : ∃ A, wX D [] s [(h0, .inr (1, [.ref h1, .int 0, .ref h2, .ref h3, .ref h4, .ref h5, .ref h6, .ref h7, .ref h8, .ref h9, .ref h10, .ref h11, .ref h12, .ref h13]))] s.heap A s.heap [] := ⟨_, Wd⟩
  refine k_locals (Nat.le_of_ble_eq_true rfl) [(0, .ref h0), (1, .int x0)] rfl (fun ls hl => ?_)
  refine lv_aload_n C.1 C.2.1 dX1_aheadOf_0 rfl (lv_at hl 0 rfl) ?_
  refine lv_iload_n C.1 C.2.1 dX1_aheadOf_1 rfl (lv_at hl 1 rfl) ?_
  refine k_pi (k_runV (rest := []) C aks Wd cs_X1_70 (kcX1_isHere l D h0 h1 h2 h3 h4 h5 h6 h7 h8 h9 h10 h11 h12 h13 x0 _ ) [0] rfl (by decide) [] rfl 0 1 rfl rfl rfl rfl rfl ⟨(Nat.le_of_ble_eq_true rfl), (Nat.le_of_ble_eq_true rfl)⟩ hl.1 rfl rfl (Nat.le_of_ble_eq_true rfl) ⟨(Nat.le_of_ble_eq_true rfl), (Nat.le_of_ble_eq_true rfl)⟩ dX1_aheadOf_2) (fun r w1593 => ?_)
  rcases w1593 with ⟨c1594, rfl⟩ | ⟨c1595, rfl⟩
  · refine lv_if_eq (tgt := 17) C.1 C.2.1 dX1_aheadOf_5 (by decide) (fun _ => ?_) (fun c1596 => absurd c1596 (by decide))
    refine lv_iconst (v := 0) C.1 C.2.1 dX1_aheadOf_17 (by decide) ?_
    exact k_zretP C hr hlk rfl (Or.inl (⟨c1594, rfl⟩)) dX1_aheadOf_18
  · refine lv_if_eq (tgt := 17) C.1 C.2.1 dX1_aheadOf_5 (by decide) (fun _ => ?_) (fun c1597 => absurd c1597 (by decide))
    refine lv_iconst (v := 0) C.1 C.2.1 dX1_aheadOf_17 (by decide) ?_
    exact k_zretP C hr hlk rfl (Or.inr (⟨c1595, rfl⟩)) dX1_aheadOf_18
set_option maxHeartbeats 4000000 in
set_option maxRecDepth 100000 in
theorem kcX11_size_v2 (l : Launch) (D : va_G) (h0 h1 h2 h3 h4 h5 h6 h7 h8 h15 h16 h17 h18 h31 h33 h34 h35 h36 h37 h38 h39 h40 h41 h42 h43 h44 h45 : Nat) (x0 x1 : Int32) (g0 : Nat → Option Nat) (a0 a11 : ClassId) (sz : Nat) (k_g0_x0 : g0 x0.toNatClampNeg = some h8) (as0 : ¬ x0 < (0 : Int32)) (as1 : x0 < (6 : Int32)): Met l yX11_size (Cond.code yX11_size cX11_size 4 (some .int) :: gG) { frames := 3, cells := 0, slots := 0, locals := 109 } (cPre D [(a0, .object RX8), (a11, .int)] [(h0, .inr (11, [.ref h1, .int 0, .ref h2, .ref h3, .ref h4, .ref h5, .ref h6, .ref h7])), (h1, .inl (a0, 6, .inr (.inr (.inr (.inr g0))))), (h8, .inr (8, [.ref h31, .int 0])), (h4, .inr (3, [.ref h15, .ref h16, .int 0, .int 0, .int 0, .ref h17, .ref h18])), (h15, .inr (1, [.ref h33, .int 0, .ref h34, .ref h35, .ref h36, .ref h37, .ref h38, .ref h39, .ref h40, .ref h41, .ref h42, .ref h43, .ref h44, .ref h45])), (h45, .inl (a11, 480, .inl (fun _ => 0)))] sz [.ref h0, .int x0, .int x1]) (va_Qi (fun (r : Int32) (_ : Unit) => (¬ x0 < (0 : Int32) ∧ ¬ (6 : Int32) ≤ x0 ∧ x1 = (0 : Int32) ∧ r = 0) ∨ (¬ x0 < (0 : Int32) ∧ ¬ (6 : Int32) ≤ x0 ∧ ¬ x1 = (0 : Int32) ∧ x1 = (1 : Int32) ∧ r = 0) ∨ (¬ x0 < (0 : Int32) ∧ ¬ (6 : Int32) ≤ x0 ∧ ¬ x1 = (0 : Int32) ∧ ¬ x1 = (1 : Int32) ∧ x1 = (2 : Int32) ∧ r = 0) ∨ (¬ x0 < (0 : Int32) ∧ ¬ (6 : Int32) ≤ x0 ∧ ¬ x1 = (0 : Int32) ∧ ¬ x1 = (1 : Int32) ∧ ¬ x1 = (2 : Int32) ∧ x1 = (3 : Int32) ∧ r = 0) ∨ (¬ x0 < (0 : Int32) ∧ ¬ (6 : Int32) ≤ x0 ∧ ¬ x1 = (0 : Int32) ∧ ¬ x1 = (1 : Int32) ∧ ¬ x1 = (2 : Int32) ∧ ¬ x1 = (3 : Int32) ∧ r = (-1))) (fun u t => cB D (va_A [(h0, .inr (11, [.ref h1, .int 0, .ref h2, .ref h3, .ref h4, .ref h5, .ref h6, .ref h7])), (h1, .inl (a0, 6, .inr (.inr (.inr (.inr g0))))), (h8, .inr (8, [.ref h31, .int 0])), (h4, .inr (3, [.ref h15, .ref h16, .int 0, .int 0, .int 0, .ref h17, .ref h18])), (h15, .inr (1, [.ref h33, .int 0, .ref h34, .ref h35, .ref h36, .ref h37, .ref h38, .ref h39, .ref h40, .ref h41, .ref h42, .ref h43, .ref h44, .ref h45])), (h45, .inl (a11, 480, .inl (fun _ => 0)))] sz) ((fun (_ : Unit) => ([] : List (ClassId × FieldType))) u) ((fun (_ : Unit) => ([] : va_W)) u) t) (va_A [(h0, .inr (11, [.ref h1, .int 0, .ref h2, .ref h3, .ref h4, .ref h5, .ref h6, .ref h7])), (h1, .inl (a0, 6, .inr (.inr (.inr (.inr g0))))), (h8, .inr (8, [.ref h31, .int 0])), (h4, .inr (3, [.ref h15, .ref h16, .int 0, .int 0, .int 0, .ref h17, .ref h18])), (h15, .inr (1, [.ref h33, .int 0, .ref h34, .ref h35, .ref h36, .ref h37, .ref h38, .ref h39, .ref h40, .ref h41, .ref h42, .ref h43, .ref h44, .ref h45])), (h45, .inl (a11, 480, .inl (fun _ => 0)))] sz)) 0 0 (va_A [(h0, .inr (11, [.ref h1, .int 0, .ref h2, .ref h3, .ref h4, .ref h5, .ref h6, .ref h7])), (h1, .inl (a0, 6, .inr (.inr (.inr (.inr g0))))), (h8, .inr (8, [.ref h31, .int 0])), (h4, .inr (3, [.ref h15, .ref h16, .int 0, .int 0, .int 0, .ref h17, .ref h18])), (h15, .inr (1, [.ref h33, .int 0, .ref h34, .ref h35, .ref h36, .ref h37, .ref h38, .ref h39, .ref h40, .ref h41, .ref h42, .ref h43, .ref h44, .ref h45])), (h45, .inl (a11, 480, .inl (fun _ => 0)))] sz) := by
  refine Met.ofW (cc := cX11_size) (maxL := 4) (ret := (some .int)) (by decide) rfl ?_
  intro p e s m args below meth c s₁ B hml hv
  obtain ⟨rfl, aks, rfl, Wd⟩ := k_enter hv
  have C : CallFix p m c cX11_size 4 s _ gG RX11 := ⟨B.exec, B.bytes, hml, findClass_of_methodNamed B.named, fun w h => atoms_spec (ws := Cond.code yX11_size cX11_size 4 (some .int) :: gG) B.pre w (List.mem_cons_of_mem _ h)⟩
  have hr := B.returns
  have hlk := B.notSynchronized
  generalize va_A [(h0, .inr (11, [.ref h1, .int 0, .ref h2, .ref h3, .ref h4, .ref h5, .ref h6, .ref h7])), (h1, .inl (a0, 6, .inr (.inr (.inr (.inr g0))))), (h8, .inr (8, [.ref h31, .int 0])), (h4, .inr (3, [.ref h15, .ref h16, .int 0, .int 0, .int 0, .ref h17, .ref h18])), (h15, .inr (1, [.ref h33, .int 0, .ref h34, .ref h35, .ref h36, .ref h37, .ref h38, .ref h39, .ref h40, .ref h41, .ref h42, .ref h43, .ref h44, .ref h45])), (h45, .inl (a11, 480, .inl (fun _ => 0)))] s.heap.size = A at Wd ⊢
  refine k_locals (Nat.le_of_ble_eq_true rfl) [(0, .ref h0), (1, .int x0), (2, .int x1)] rfl (fun ls hl => ?_)
  refine lv_aload_n C.1 C.2.1 dX11_size_0 rfl (lv_at hl 0 rfl) ?_
  refine lv_iload_n C.1 C.2.1 dX11_size_1 rfl (lv_at hl 1 rfl) ?_
  refine k_pq (k_runV (rest := []) C aks Wd cs_X11_77 (kcX11_slotAt l D h0 h1 h2 h3 h4 h5 h6 h7 x0 g0 a0 _ ) [0, 1] rfl (by decide) [0] rfl 0 11 rfl rfl rfl rfl rfl ⟨(Nat.le_of_ble_eq_true rfl), (Nat.le_of_ble_eq_true rfl)⟩ hl.1 rfl rfl (Nat.le_of_ble_eq_true rfl) ⟨(Nat.le_of_ble_eq_true rfl), (Nat.le_of_ble_eq_true rfl)⟩ dX11_size_2) (fun r w1601 => ?_)
  rcases w1601 with ⟨c1602, rfl⟩ | ⟨c1603, c1604, rfl⟩ | ⟨c1605, c1606, rfl⟩
  · exact absurd c1602 as0
  · exact False.elim (by have z0 := kz_nlt as0; have z1 := kz_lt as1; have z2 := kz_nlt c1603; have z3 := kz_le c1604; have t0 : (0 : Int32).toInt = 0 := (by decide); have t6 : (6 : Int32).toInt = 6 := (by decide); omega)
  · refine W.eq (g2 := F0 m 5 ls [.ref h8]) (by rw [show (g0 x0.toNatClampNeg) = some h8 from k_g0_x0]; rfl) ?_
    refine lv_astore_n (lv' := [(3, .ref h8), (0, .ref h0), (1, .int x0), (2, .int x1)]) C.1 C.2.1 dX11_size_5 rfl hl (by decide) rfl (fun ls hl => ?_)
    refine lv_aload_n C.1 C.2.1 dX11_size_6 rfl (lv_at hl 0 rfl) ?_
    refine lv_ifnonnull (tgt := 12) C.1 C.2.1 dX11_size_7 (by decide) ?_
    refine lv_iload_n C.1 C.2.1 dX11_size_12 rfl (lv_at hl 3 rfl) ?_
    by_cases c1607 : x1 = (0 : Int32)
    · subst c1607
      refine lv_tableIn (off := 31) (tgt := 44) C.1 C.2.1 dX11_size_13 (by decide) (by decide) (by decide) (by decide) ?_
      refine lv_aload_n C.1 C.2.1 dX11_size_44 rfl (lv_at hl 0 rfl) ?_
      refine k_pi (k_runV (rest := []) C aks Wd cs_X11_95 (kcX8_statements l D h8 h31 _ ) [2] rfl (by decide) [] rfl 2 8 rfl rfl rfl rfl rfl ⟨(Nat.le_of_ble_eq_true rfl), (Nat.le_of_ble_eq_true rfl)⟩ hl.1 rfl rfl (Nat.le_of_ble_eq_true rfl) ⟨(Nat.le_of_ble_eq_true rfl), (Nat.le_of_ble_eq_true rfl)⟩ dX11_size_45) (fun r w1608 => ?_)
      obtain rfl := w1608
      exact k_zret C hr hlk rfl Wd () (Or.inl (⟨c1605, c1606, rfl, rfl⟩)) [] rfl (by decide) [] rfl (by decide) (by decide) dX11_size_48
    by_cases c1609 : x1 = (1 : Int32)
    · subst c1609
      refine lv_tableIn (off := 36) (tgt := 49) C.1 C.2.1 dX11_size_13 (by decide) (by decide) (by decide) (by decide) ?_
      refine lv_aload_n C.1 C.2.1 dX11_size_49 rfl (lv_at hl 0 rfl) ?_
      refine k_pi (k_runV (rest := []) C aks Wd cs_X11_117 (kcX8_expressions l D h8 h31 _ ) [2] rfl (by decide) [] rfl 2 8 rfl rfl rfl rfl rfl ⟨(Nat.le_of_ble_eq_true rfl), (Nat.le_of_ble_eq_true rfl)⟩ hl.1 rfl rfl (Nat.le_of_ble_eq_true rfl) ⟨(Nat.le_of_ble_eq_true rfl), (Nat.le_of_ble_eq_true rfl)⟩ dX11_size_50) (fun r w1610 => ?_)
      obtain rfl := w1610
      exact k_zret C hr hlk rfl Wd () (Or.inr (Or.inl (⟨c1605, c1606, c1607, rfl, rfl⟩))) [] rfl (by decide) [] rfl (by decide) (by decide) dX11_size_53
    by_cases c1611 : x1 = (2 : Int32)
    · subst c1611
      refine lv_tableIn (off := 41) (tgt := 54) C.1 C.2.1 dX11_size_13 (by decide) (by decide) (by decide) (by decide) ?_
      refine lv_aload_n C.1 C.2.1 dX11_size_54 rfl (lv_at hl 0 rfl) ?_
      refine k_get C Wd KX8 2 1 rfl (by decide) fl_X11_120 rfl dX11_size_55 ?_
      exact k_zret C hr hlk rfl Wd () (Or.inr (Or.inr (Or.inl (⟨c1605, c1606, c1607, c1609, rfl, rfl⟩)))) [] rfl (by decide) [] rfl (by decide) (by decide) dX11_size_58
    by_cases c1612 : x1 = (3 : Int32)
    · subst c1612
      refine lv_tableIn (off := 46) (tgt := 59) C.1 C.2.1 dX11_size_13 (by decide) (by decide) (by decide) (by decide) ?_
      refine lv_aload_n C.1 C.2.1 dX11_size_59 rfl (lv_at hl 1 rfl) ?_
      refine k_get C Wd KX11 0 4 rfl (by decide) fl_X11_36 rfl dX11_size_60 ?_
      refine k_get C Wd KX3 3 0 rfl (by decide) fl_X11_121 rfl dX11_size_63 ?_
      refine lv_aload_n C.1 C.2.1 dX11_size_66 rfl (lv_at hl 0 rfl) ?_
      refine k_cv Wd [4, 2, 5] [0, 1, 3] rfl (wr := [(h0, .inr (11, [.ref h1, .int 0, .ref h2, .ref h3, .ref h4, .ref h5, .ref h6, .ref h7])), (h1, .inl (a0, 6, .inr (.inr (.inr (.inr g0))))), (h4, .inr (3, [.ref h15, .ref h16, .int 0, .int 0, .int 0, .ref h17, .ref h18]))]) rfl (by decide) (by decide) (cells' := 0) (slots' := 0) (by decide) (by decide) (k_runV (rest := []) C aks Wd cs_X11_125 (kcX1_trace l D h15 h8 h33 h34 h35 h36 h37 h38 h39 h40 h41 h42 h43 h44 h45 h31 a11 _ ) [4, 2, 5] rfl (by decide) [1] rfl 4 1 rfl rfl rfl rfl rfl ⟨(Nat.le_of_ble_eq_true rfl), (Nat.le_of_ble_eq_true rfl)⟩ hl.1 rfl rfl (Nat.le_of_ble_eq_true rfl) ⟨(Nat.le_of_ble_eq_true rfl), (Nat.le_of_ble_eq_true rfl)⟩ dX11_size_67) (fun _ H locs w1613 Wd => ?_)
      have Wd : wX D [(a0, .object RX8), (a11, .int)] s [(h0, .inr (11, [.ref h1, .int 0, .ref h2, .ref h3, .ref h4, .ref h5, .ref h6, .ref h7])), (h1, .inl (a0, 6, .inr (.inr (.inr (.inr g0))))), (h4, .inr (3, [.ref h15, .ref h16, .int 0, .int 0, .int 0, .ref h17, .ref h18])), (h15, .inr (1, [.ref h8, .int 0, .ref h34, .ref h35, .ref h36, .ref h37, .ref h38, .ref h39, .ref h40, .ref h41, .ref h42, .ref h43, .ref h44, .ref h45])), (h8, .inr (8, [.ref h31, .int 0])), (h45, .inl (a11, 480, .inl (fun _ => 0)))] _ A s.heap _ := Wd
      refine lv_aload_n C.1 C.2.1 dX11_size_70 rfl (lv_at hl 1 rfl) ?_
      refine k_get C Wd KX11 0 4 rfl (by decide) fl_X11_36 rfl dX11_size_71 ?_
      refine k_get C Wd KX3 2 0 rfl (by decide) fl_X11_121 rfl dX11_size_74 ?_
      refine lv_iconst (v := 0) C.1 C.2.1 dX11_size_77 (by decide) ?_
      refine k_pi (k_runV (rest := []) C aks Wd cs_X11_130 (kcX1_aheadOf l D h15 h8 h34 h35 h36 h37 h38 h39 h40 h41 h42 h43 h44 h45 0 _ ) [3] rfl (by decide) [] rfl 3 1 rfl rfl rfl rfl rfl ⟨(Nat.le_of_ble_eq_true rfl), (Nat.le_of_ble_eq_true rfl)⟩ hl.1 rfl rfl (Nat.le_of_ble_eq_true rfl) ⟨(Nat.le_of_ble_eq_true rfl), (Nat.le_of_ble_eq_true rfl)⟩ dX11_size_78) (fun r w1614 => ?_)
      rcases w1614 with ⟨c1615, rfl⟩ | ⟨c1616, rfl⟩
      · exact absurd c1615 (by decide)
      · exact k_zret C hr hlk rfl Wd () (Or.inr (Or.inr (Or.inr (Or.inl (⟨c1605, c1606, c1607, c1609, c1611, rfl, rfl⟩))))) [] rfl (by decide) [] rfl (by decide) (by decide) dX11_size_81
    refine lv_tableOut (tgt := 82) C.1 C.2.1 dX11_size_13 (by have z0 := kz_ne c1607; have z1 := kz_ne c1609; have z2 := kz_ne c1611; have z3 := kz_ne c1612; have t0 : (0 : Int32).toInt = 0 := (by decide); have t1 : (1 : Int32).toInt = 1 := (by decide); have t2 : (2 : Int32).toInt = 2 := (by decide); have t3 : (3 : Int32).toInt = 3 := (by decide); omega) (by decide) ?_
    refine lv_iconst (v := (-1)) C.1 C.2.1 dX11_size_82 (by decide) ?_
    exact k_zret C hr hlk rfl Wd () (Or.inr (Or.inr (Or.inr (Or.inr (⟨c1605, c1606, c1607, c1609, c1611, c1612, rfl⟩))))) [] rfl (by decide) [] rfl (by decide) (by decide) dX11_size_83
set_option maxHeartbeats 4000000 in
set_option maxRecDepth 100000 in
theorem kcX11_run (l : Launch) (D : va_G) (h0 h1 h2 h3 h4 h5 h6 h7 : Nat) (x0 x1 x2 x3 : Int32) (g0 : Nat → Option Nat) (a0 : ClassId) (sz : Nat)  (as0 : x0 < (0 : Int32)): Met l yX11_run (Cond.code yX11_run cX11_run 6 (some .int) :: gG) { frames := 2, cells := 0, slots := 0, locals := 85 } (cPre D [(a0, .object RX8)] [(h0, .inr (11, [.ref h1, .int 0, .ref h2, .ref h3, .ref h4, .ref h5, .ref h6, .ref h7])), (h1, .inl (a0, 6, .inr (.inr (.inr (.inr g0)))))] sz [.ref h0, .int x0, .int x1, .int x2, .int x3]) (vp_Si (fun r => x0 < (0 : Int32) ∧ r = (-1))) 0 0 (fun _ => False) := by
  refine Met.ofW (cc := cX11_run) (maxL := 6) (ret := (some .int)) (by decide) rfl ?_
  intro p e s m args below meth c s₁ B hml hv
  obtain ⟨rfl, aks, rfl, Wd⟩ := k_enter hv
  have C : CallFix p m c cX11_run 6 s _ gG RX11 := ⟨B.exec, B.bytes, hml, findClass_of_methodNamed B.named, fun w h => atoms_spec (ws := Cond.code yX11_run cX11_run 6 (some .int) :: gG) B.pre w (List.mem_cons_of_mem _ h)⟩
  have hr := B.returns
  have hlk := B.notSynchronized
  obtain ⟨A, Wd⟩ : ∃ A, wX D [(a0, .object RX8)] s [(h0, .inr (11, [.ref h1, .int 0, .ref h2, .ref h3, .ref h4, .ref h5, .ref h6, .ref h7])), (h1, .inl (a0, 6, .inr (.inr (.inr (.inr g0)))))] s.heap A s.heap [] := ⟨_, Wd⟩
  refine k_locals (Nat.le_of_ble_eq_true rfl) [(0, .ref h0), (1, .int x0), (2, .int x1), (3, .int x2), (4, .int x3)] rfl (fun ls hl => ?_)
  refine lv_aload_n C.1 C.2.1 dX11_run_0 rfl (lv_at hl 0 rfl) ?_
  refine lv_iload_n C.1 C.2.1 dX11_run_1 rfl (lv_at hl 1 rfl) ?_
  refine k_pq (k_runV (rest := []) C aks Wd cs_X11_77 (kcX11_slotAt l D h0 h1 h2 h3 h4 h5 h6 h7 x0 g0 a0 _ ) [0, 1] rfl (by decide) [0] rfl 0 11 rfl rfl rfl rfl rfl ⟨(Nat.le_of_ble_eq_true rfl), (Nat.le_of_ble_eq_true rfl)⟩ hl.1 rfl rfl (Nat.le_of_ble_eq_true rfl) ⟨(Nat.le_of_ble_eq_true rfl), (Nat.le_of_ble_eq_true rfl)⟩ dX11_run_2) (fun r w1623 => ?_)
  rcases w1623 with ⟨c1624, rfl⟩ | ⟨c1625, c1626, rfl⟩ | ⟨c1627, c1628, rfl⟩
  · refine W.eq (g2 := F0 m 5 ls [.null]) rfl ?_
    refine lv_astoreN (lv' := [(5, .null), (0, .ref h0), (1, .int x0), (2, .int x1), (3, .int x2), (4, .int x3)]) C.1 C.2.1 dX11_run_5 hl (by decide) rfl (fun ls hl => ?_)
    refine lv_aloadN C.1 C.2.1 dX11_run_7 (lv_at hl 0 rfl) ?_
    refine lv_ifnullN (tgt := 26) C.1 C.2.1 dX11_run_9 (by decide) ?_
    refine lv_iconst (v := (-1)) C.1 C.2.1 dX11_run_26 (by decide) ?_
    exact k_zretP C hr hlk rfl ⟨c1624, rfl⟩ dX11_run_27
  · exact absurd as0 c1625
  · exact absurd as0 c1627
set_option maxHeartbeats 4000000 in
set_option maxRecDepth 100000 in
theorem kcX11_run_v1 (l : Launch) (D : va_G) (h0 h1 h2 h3 h4 h5 h6 h7 : Nat) (x0 x1 x2 x3 : Int32) (g0 : Nat → Option Nat) (a0 : ClassId) (sz : Nat)  (as0 : ¬ x0 < (6 : Int32)): Met l yX11_run (Cond.code yX11_run cX11_run 6 (some .int) :: gG) { frames := 2, cells := 0, slots := 0, locals := 85 } (cPre D [(a0, .object RX8)] [(h0, .inr (11, [.ref h1, .int 0, .ref h2, .ref h3, .ref h4, .ref h5, .ref h6, .ref h7])), (h1, .inl (a0, 6, .inr (.inr (.inr (.inr g0)))))] sz [.ref h0, .int x0, .int x1, .int x2, .int x3]) (vp_Si (fun r => ¬ x0 < (0 : Int32) ∧ (6 : Int32) ≤ x0 ∧ r = (-1))) 0 0 (fun _ => False) := by
  refine Met.ofW (cc := cX11_run) (maxL := 6) (ret := (some .int)) (by decide) rfl ?_
  intro p e s m args below meth c s₁ B hml hv
  obtain ⟨rfl, aks, rfl, Wd⟩ := k_enter hv
  have C : CallFix p m c cX11_run 6 s _ gG RX11 := ⟨B.exec, B.bytes, hml, findClass_of_methodNamed B.named, fun w h => atoms_spec (ws := Cond.code yX11_run cX11_run 6 (some .int) :: gG) B.pre w (List.mem_cons_of_mem _ h)⟩
  have hr := B.returns
  have hlk := B.notSynchronized
  obtain ⟨A, Wd⟩ : ∃ A, wX D [(a0, .object RX8)] s [(h0, .inr (11, [.ref h1, .int 0, .ref h2, .ref h3, .ref h4, .ref h5, .ref h6, .ref h7])), (h1, .inl (a0, 6, .inr (.inr (.inr (.inr g0)))))] s.heap A s.heap [] := ⟨_, Wd⟩
  refine k_locals (Nat.le_of_ble_eq_true rfl) [(0, .ref h0), (1, .int x0), (2, .int x1), (3, .int x2), (4, .int x3)] rfl (fun ls hl => ?_)
  refine lv_aload_n C.1 C.2.1 dX11_run_0 rfl (lv_at hl 0 rfl) ?_
  refine lv_iload_n C.1 C.2.1 dX11_run_1 rfl (lv_at hl 1 rfl) ?_
  refine k_pq (k_runV (rest := []) C aks Wd cs_X11_77 (kcX11_slotAt l D h0 h1 h2 h3 h4 h5 h6 h7 x0 g0 a0 _ ) [0, 1] rfl (by decide) [0] rfl 0 11 rfl rfl rfl rfl rfl ⟨(Nat.le_of_ble_eq_true rfl), (Nat.le_of_ble_eq_true rfl)⟩ hl.1 rfl rfl (Nat.le_of_ble_eq_true rfl) ⟨(Nat.le_of_ble_eq_true rfl), (Nat.le_of_ble_eq_true rfl)⟩ dX11_run_2) (fun r w1635 => ?_)
  rcases w1635 with ⟨c1636, rfl⟩ | ⟨c1637, c1638, rfl⟩ | ⟨c1639, c1640, rfl⟩
  · exact False.elim (by have z0 := kz_nlt as0; have z1 := kz_lt c1636; have t6 : (6 : Int32).toInt = 6 := (by decide); have t0 : (0 : Int32).toInt = 0 := (by decide); omega)
  · refine W.eq (g2 := F0 m 5 ls [.null]) rfl ?_
    refine lv_astoreN (lv' := [(5, .null), (0, .ref h0), (1, .int x0), (2, .int x1), (3, .int x2), (4, .int x3)]) C.1 C.2.1 dX11_run_5 hl (by decide) rfl (fun ls hl => ?_)
    refine lv_aloadN C.1 C.2.1 dX11_run_7 (lv_at hl 0 rfl) ?_
    refine lv_ifnullN (tgt := 26) C.1 C.2.1 dX11_run_9 (by decide) ?_
    refine lv_iconst (v := (-1)) C.1 C.2.1 dX11_run_26 (by decide) ?_
    exact k_zretP C hr hlk rfl ⟨c1637, c1638, rfl⟩ dX11_run_27
  · exact False.elim (by have z0 := kz_nlt as0; have z1 := kz_nlt c1639; have z2 := kz_nle c1640; have t6 : (6 : Int32).toInt = 6 := (by decide); have t0 : (0 : Int32).toInt = 0 := (by decide); omega)
set_option maxHeartbeats 4000000 in
set_option maxRecDepth 100000 in
theorem kcX11_isWord (l : Launch) (D : va_G) (x0 : Int32) (sz : Nat)  : Met l yX11_isWord (Cond.code yX11_isWord cX11_isWord 1 (some .boolean) :: gG) { frames := 1, cells := 0, slots := 0, locals := 64 } (cPre D [] [] sz [.int x0]) (vp_Si (fun r => (x0 < (0 : Int32) ∧ r = 0) ∨ (¬ x0 < (0 : Int32) ∧ (16 : Int32) ≤ x0 ∧ r = 0) ∨ (¬ x0 < (0 : Int32) ∧ ¬ (16 : Int32) ≤ x0 ∧ r = 1))) 0 0 (fun _ => False) := by
  refine Met.ofW (cc := cX11_isWord) (maxL := 1) (ret := (some .boolean)) (by decide) rfl ?_
  intro p e s m args below meth c s₁ B hml hv
  obtain ⟨rfl, aks, rfl, Wd⟩ := k_enter hv
  have C : CallFix p m c cX11_isWord 1 s _ gG RX11 := ⟨B.exec, B.bytes, hml, findClass_of_methodNamed B.named, fun w h => atoms_spec (ws := Cond.code yX11_isWord cX11_isWord 1 (some .boolean) :: gG) B.pre w (List.mem_cons_of_mem _ h)⟩
  have hr := B.returns
  have hlk := B.notSynchronized
  obtain ⟨A, Wd⟩ : ∃ A, wX D [] s [] s.heap A s.heap [] := ⟨_, Wd⟩
  refine k_locals (Nat.le_of_ble_eq_true rfl) [(0, .int x0)] rfl (fun ls hl => ?_)
  refine lv_iload_n C.1 C.2.1 dX11_isWord_0 rfl (lv_at hl 0 rfl) ?_
  refine lv_if_lt (tgt := 14) C.1 C.2.1 dX11_isWord_1 (by decide) (fun c1649 => ?_) (fun c1649 => ?_)
  · refine lv_iconst (v := 0) C.1 C.2.1 dX11_isWord_14 (by decide) ?_
    exact k_zretP C hr hlk rfl (Or.inl (⟨c1649, rfl⟩)) dX11_isWord_15
  · refine lv_iload_n C.1 C.2.1 dX11_isWord_4 rfl (lv_at hl 0 rfl) ?_
    refine lv_bipush (v := 16) C.1 C.2.1 dX11_isWord_5 (by decide) ?_
    refine lv_icmp_ge (tgt := 14) C.1 C.2.1 dX11_isWord_7 (by decide) (fun c1650 => ?_) (fun c1650 => ?_)
    · refine lv_iconst (v := 0) C.1 C.2.1 dX11_isWord_14 (by decide) ?_
      exact k_zretP C hr hlk rfl (Or.inr (Or.inl (⟨c1649, c1650, rfl⟩))) dX11_isWord_15
    · refine lv_iconst (v := 1) C.1 C.2.1 dX11_isWord_10 (by decide) ?_
      refine lv_goto (tgt := 15) C.1 C.2.1 dX11_isWord_11 (by decide) ?_
      exact k_zretP C hr hlk rfl (Or.inr (Or.inr (⟨c1649, c1650, rfl⟩))) dX11_isWord_15
set_option maxHeartbeats 4000000 in
set_option maxRecDepth 100000 in
theorem kcX3_go (l : Launch) (D : va_G) (h0 h1 h2 h3 h4 h5 h6 h7 h8 h9 h10 h11 h12 h13 h14 h15 h16 h17 : Nat) (x0 x1 : Int32) (a0 : ClassId) (sz : Nat)  : Met l yX3_go (Cond.code yX3_go cX3_go 4 none :: gG) { frames := 1, cells := 0, slots := 0, locals := 64 } (cPre D [(a0, .int)] [(h0, .inr (3, [.ref h1, .ref h2, .int 0, .int 0, .int 0, .ref h3, .ref h4])), (h3, .inl (a0, 6, .inl (fun _ => 0))), (h1, .inr (1, [.ref h5, .int 0, .ref h6, .ref h7, .ref h8, .ref h9, .ref h10, .ref h11, .ref h12, .ref h13, .ref h14, .ref h15, .ref h16, .ref h17]))] sz [.ref h0, .int x0, .int x1]) (va_Qv (fun (_ : Unit) => True) (fun u t => cB D (va_A [(h0, .inr (3, [.ref h1, .ref h2, .int 0, .int 0, .int 0, .ref h3, .ref h4])), (h3, .inl (a0, 6, .inl (fun _ => 0))), (h1, .inr (1, [.ref h5, .int 0, .ref h6, .ref h7, .ref h8, .ref h9, .ref h10, .ref h11, .ref h12, .ref h13, .ref h14, .ref h15, .ref h16, .ref h17]))] sz) ((fun (_ : Unit) => ([] : List (ClassId × FieldType))) u) ((fun (_ : Unit) => ([(h0, .inr (3, [.ref h1, .ref h2, .int 0, .int 0, .int 0, .ref h3, .ref h4])), (h3, .inl (a0, 6, .inl (upd (upd (upd (upd (upd (upd (fun _ => 0) 0 x0) 1 x1) 2 0) 3 0) 4 0) 5 0))), (h1, .inr (1, [.ref h5, .int 0, .ref h6, .ref h7, .ref h8, .ref h9, .ref h10, .ref h11, .ref h12, .ref h13, .ref h14, .ref h15, .ref h16, .ref h17]))] : va_W)) u) t) (va_A [(h0, .inr (3, [.ref h1, .ref h2, .int 0, .int 0, .int 0, .ref h3, .ref h4])), (h3, .inl (a0, 6, .inl (fun _ => 0))), (h1, .inr (1, [.ref h5, .int 0, .ref h6, .ref h7, .ref h8, .ref h9, .ref h10, .ref h11, .ref h12, .ref h13, .ref h14, .ref h15, .ref h16, .ref h17]))] sz)) 0 0 (va_A [(h0, .inr (3, [.ref h1, .ref h2, .int 0, .int 0, .int 0, .ref h3, .ref h4])), (h3, .inl (a0, 6, .inl (fun _ => 0))), (h1, .inr (1, [.ref h5, .int 0, .ref h6, .ref h7, .ref h8, .ref h9, .ref h10, .ref h11, .ref h12, .ref h13, .ref h14, .ref h15, .ref h16, .ref h17]))] sz) := by
  refine Met.ofW (cc := cX3_go) (maxL := 4) (ret := none) (by decide) rfl ?_
  intro p e s m args below meth c s₁ B hml hv
  obtain ⟨rfl, aks, rfl, Wd⟩ := k_enter hv
  have C : CallFix p m c cX3_go 4 s _ gG RX3 := ⟨B.exec, B.bytes, hml, findClass_of_methodNamed B.named, fun w h => atoms_spec (ws := Cond.code yX3_go cX3_go 4 none :: gG) B.pre w (List.mem_cons_of_mem _ h)⟩
  have hr := B.returns
  have hlk := B.notSynchronized
  generalize va_A [(h0, .inr (3, [.ref h1, .ref h2, .int 0, .int 0, .int 0, .ref h3, .ref h4])), (h3, .inl (a0, 6, .inl (fun _ => 0))), (h1, .inr (1, [.ref h5, .int 0, .ref h6, .ref h7, .ref h8, .ref h9, .ref h10, .ref h11, .ref h12, .ref h13, .ref h14, .ref h15, .ref h16, .ref h17]))] s.heap.size = A at Wd ⊢
  refine k_locals (Nat.le_of_ble_eq_true rfl) [(0, .ref h0), (1, .int x0), (2, .int x1)] rfl (fun ls hl => ?_)
  refine lv_iconst (v := 0) C.1 C.2.1 dX3_go_0 (by decide) ?_
  refine lv_istore_n (lv' := [(3, .int 0), (0, .ref h0), (1, .int x0), (2, .int x1)]) C.1 C.2.1 dX3_go_1 rfl hl (by decide) rfl (fun ls hl => ?_)
  refine lv_iload_n C.1 C.2.1 dX3_go_2 rfl (lv_at hl 0 rfl) ?_
  refine lv_aload_n C.1 C.2.1 dX3_go_3 rfl (lv_at hl 1 rfl) ?_
  refine k_get C Wd KX3 0 5 rfl (by decide) fl_X3_22 rfl dX3_go_4 ?_
  refine k_alen (v := 6) C Wd 1 0 rfl rfl rfl dX3_go_7 ?_
  refine lv_icmp_ge (tgt := 41) C.1 C.2.1 dX3_go_8 (by decide) (fun c1693 => absurd c1693 (by decide)) (fun _ => ?_)
  refine lv_aload_n C.1 C.2.1 dX3_go_11 rfl (lv_at hl 1 rfl) ?_
  refine k_get C Wd KX3 0 5 rfl (by decide) fl_X3_22 rfl dX3_go_12 ?_
  refine lv_iload_n C.1 C.2.1 dX3_go_15 rfl (lv_at hl 0 rfl) ?_
  refine lv_iload_n C.1 C.2.1 dX3_go_16 rfl (lv_at hl 0 rfl) ?_
  refine lv_if_ne (tgt := 24) C.1 C.2.1 dX3_go_17 (by decide) (fun c1694 => absurd c1694 (by decide)) (fun _ => ?_)
  refine lv_iload_n C.1 C.2.1 dX3_go_20 rfl (lv_at hl 2 rfl) ?_
  refine lv_goto (tgt := 34) C.1 C.2.1 dX3_go_21 (by decide) ?_
  refine k_iast C Wd 1 0 [(h0, .inr (3, [.ref h1, .ref h2, .int 0, .int 0, .int 0, .ref h3, .ref h4])), (h3, .inl (a0, 6, .inl (upd (fun _ => 0) 0 x0))), (h1, .inr (1, [.ref h5, .int 0, .ref h6, .ref h7, .ref h8, .ref h9, .ref h10, .ref h11, .ref h12, .ref h13, .ref h14, .ref h15, .ref h16, .ref h17]))] rfl rfl (vp_in_iff.mpr (by decide)) rfl rfl dX3_go_34 (fun H locs Wd => ?_)
  refine lv_iinc (v := 1) (lv' := [(3, .int 1), (0, .ref h0), (1, .int x0), (2, .int x1)]) C.1 C.2.1 dX3_go_35 hl (k := 0) rfl (by decide) (by decide) rfl (fun ls hl => ?_)
  refine lv_goto (tgt := 2) C.1 C.2.1 dX3_go_38 (by decide) ?_
  refine lv_iload_n C.1 C.2.1 dX3_go_2 rfl (lv_at hl 0 rfl) ?_
  refine lv_aload_n C.1 C.2.1 dX3_go_3 rfl (lv_at hl 1 rfl) ?_
  refine k_get C Wd KX3 0 5 rfl (by decide) fl_X3_22 rfl dX3_go_4 ?_
  refine k_alen (v := 6) C Wd 1 0 rfl rfl rfl dX3_go_7 ?_
  refine lv_icmp_ge (tgt := 41) C.1 C.2.1 dX3_go_8 (by decide) (fun c1695 => absurd c1695 (by decide)) (fun _ => ?_)
  refine lv_aload_n C.1 C.2.1 dX3_go_11 rfl (lv_at hl 1 rfl) ?_
  refine k_get C Wd KX3 0 5 rfl (by decide) fl_X3_22 rfl dX3_go_12 ?_
  refine lv_iload_n C.1 C.2.1 dX3_go_15 rfl (lv_at hl 0 rfl) ?_
  refine lv_iload_n C.1 C.2.1 dX3_go_16 rfl (lv_at hl 0 rfl) ?_
  refine lv_if_ne (tgt := 24) C.1 C.2.1 dX3_go_17 (by decide) (fun _ => ?_) (fun c1696 => absurd c1696 (by decide))
  refine lv_iload_n C.1 C.2.1 dX3_go_24 rfl (lv_at hl 0 rfl) ?_
  refine lv_iconst (v := 1) C.1 C.2.1 dX3_go_25 (by decide) ?_
  refine lv_icmp_ne (tgt := 33) C.1 C.2.1 dX3_go_26 (by decide) (fun c1697 => absurd c1697 (by decide)) (fun _ => ?_)
  refine lv_iload_n C.1 C.2.1 dX3_go_29 rfl (lv_at hl 3 rfl) ?_
  refine lv_goto (tgt := 34) C.1 C.2.1 dX3_go_30 (by decide) ?_
  refine k_iast C Wd 1 0 [(h0, .inr (3, [.ref h1, .ref h2, .int 0, .int 0, .int 0, .ref h3, .ref h4])), (h3, .inl (a0, 6, .inl (upd (upd (fun _ => 0) 0 x0) 1 x1))), (h1, .inr (1, [.ref h5, .int 0, .ref h6, .ref h7, .ref h8, .ref h9, .ref h10, .ref h11, .ref h12, .ref h13, .ref h14, .ref h15, .ref h16, .ref h17]))] rfl rfl (vp_in_iff.mpr (by decide)) rfl rfl dX3_go_34 (fun H locs Wd => ?_)
  refine lv_iinc (v := 2) (lv' := [(3, .int 2), (0, .ref h0), (1, .int x0), (2, .int x1)]) C.1 C.2.1 dX3_go_35 hl (k := 0) rfl (by decide) (by decide) rfl (fun ls hl => ?_)
  refine lv_goto (tgt := 2) C.1 C.2.1 dX3_go_38 (by decide) ?_
  refine lv_iload_n C.1 C.2.1 dX3_go_2 rfl (lv_at hl 0 rfl) ?_
  refine lv_aload_n C.1 C.2.1 dX3_go_3 rfl (lv_at hl 1 rfl) ?_
  refine k_get C Wd KX3 0 5 rfl (by decide) fl_X3_22 rfl dX3_go_4 ?_
  refine k_alen (v := 6) C Wd 1 0 rfl rfl rfl dX3_go_7 ?_
  refine lv_icmp_ge (tgt := 41) C.1 C.2.1 dX3_go_8 (by decide) (fun c1698 => absurd c1698 (by decide)) (fun _ => ?_)
  refine lv_aload_n C.1 C.2.1 dX3_go_11 rfl (lv_at hl 1 rfl) ?_
  refine k_get C Wd KX3 0 5 rfl (by decide) fl_X3_22 rfl dX3_go_12 ?_
  refine lv_iload_n C.1 C.2.1 dX3_go_15 rfl (lv_at hl 0 rfl) ?_
  refine lv_iload_n C.1 C.2.1 dX3_go_16 rfl (lv_at hl 0 rfl) ?_
  refine lv_if_ne (tgt := 24) C.1 C.2.1 dX3_go_17 (by decide) (fun _ => ?_) (fun c1699 => absurd c1699 (by decide))
  refine lv_iload_n C.1 C.2.1 dX3_go_24 rfl (lv_at hl 0 rfl) ?_
  refine lv_iconst (v := 1) C.1 C.2.1 dX3_go_25 (by decide) ?_
  refine lv_icmp_ne (tgt := 33) C.1 C.2.1 dX3_go_26 (by decide) (fun _ => ?_) (fun c1700 => absurd c1700 (by decide))
  refine lv_iconst (v := 0) C.1 C.2.1 dX3_go_33 (by decide) ?_
  refine k_iast C Wd 1 0 [(h0, .inr (3, [.ref h1, .ref h2, .int 0, .int 0, .int 0, .ref h3, .ref h4])), (h3, .inl (a0, 6, .inl (upd (upd (upd (fun _ => 0) 0 x0) 1 x1) 2 0))), (h1, .inr (1, [.ref h5, .int 0, .ref h6, .ref h7, .ref h8, .ref h9, .ref h10, .ref h11, .ref h12, .ref h13, .ref h14, .ref h15, .ref h16, .ref h17]))] rfl rfl (vp_in_iff.mpr (by decide)) rfl rfl dX3_go_34 (fun H locs Wd => ?_)
  refine lv_iinc (v := 3) (lv' := [(3, .int 3), (0, .ref h0), (1, .int x0), (2, .int x1)]) C.1 C.2.1 dX3_go_35 hl (k := 0) rfl (by decide) (by decide) rfl (fun ls hl => ?_)
  refine lv_goto (tgt := 2) C.1 C.2.1 dX3_go_38 (by decide) ?_
  refine lv_iload_n C.1 C.2.1 dX3_go_2 rfl (lv_at hl 0 rfl) ?_
  refine lv_aload_n C.1 C.2.1 dX3_go_3 rfl (lv_at hl 1 rfl) ?_
  refine k_get C Wd KX3 0 5 rfl (by decide) fl_X3_22 rfl dX3_go_4 ?_
  refine k_alen (v := 6) C Wd 1 0 rfl rfl rfl dX3_go_7 ?_
  refine lv_icmp_ge (tgt := 41) C.1 C.2.1 dX3_go_8 (by decide) (fun c1701 => absurd c1701 (by decide)) (fun _ => ?_)
  refine lv_aload_n C.1 C.2.1 dX3_go_11 rfl (lv_at hl 1 rfl) ?_
  refine k_get C Wd KX3 0 5 rfl (by decide) fl_X3_22 rfl dX3_go_12 ?_
  refine lv_iload_n C.1 C.2.1 dX3_go_15 rfl (lv_at hl 0 rfl) ?_
  refine lv_iload_n C.1 C.2.1 dX3_go_16 rfl (lv_at hl 0 rfl) ?_
  refine lv_if_ne (tgt := 24) C.1 C.2.1 dX3_go_17 (by decide) (fun _ => ?_) (fun c1702 => absurd c1702 (by decide))
  refine lv_iload_n C.1 C.2.1 dX3_go_24 rfl (lv_at hl 0 rfl) ?_
  refine lv_iconst (v := 1) C.1 C.2.1 dX3_go_25 (by decide) ?_
  refine lv_icmp_ne (tgt := 33) C.1 C.2.1 dX3_go_26 (by decide) (fun _ => ?_) (fun c1703 => absurd c1703 (by decide))
  refine lv_iconst (v := 0) C.1 C.2.1 dX3_go_33 (by decide) ?_
  refine k_iast C Wd 1 0 [(h0, .inr (3, [.ref h1, .ref h2, .int 0, .int 0, .int 0, .ref h3, .ref h4])), (h3, .inl (a0, 6, .inl (upd (upd (upd (upd (fun _ => 0) 0 x0) 1 x1) 2 0) 3 0))), (h1, .inr (1, [.ref h5, .int 0, .ref h6, .ref h7, .ref h8, .ref h9, .ref h10, .ref h11, .ref h12, .ref h13, .ref h14, .ref h15, .ref h16, .ref h17]))] rfl rfl (vp_in_iff.mpr (by decide)) rfl rfl dX3_go_34 (fun H locs Wd => ?_)
  refine lv_iinc (v := 4) (lv' := [(3, .int 4), (0, .ref h0), (1, .int x0), (2, .int x1)]) C.1 C.2.1 dX3_go_35 hl (k := 0) rfl (by decide) (by decide) rfl (fun ls hl => ?_)
  refine lv_goto (tgt := 2) C.1 C.2.1 dX3_go_38 (by decide) ?_
  refine lv_iload_n C.1 C.2.1 dX3_go_2 rfl (lv_at hl 0 rfl) ?_
  refine lv_aload_n C.1 C.2.1 dX3_go_3 rfl (lv_at hl 1 rfl) ?_
  refine k_get C Wd KX3 0 5 rfl (by decide) fl_X3_22 rfl dX3_go_4 ?_
  refine k_alen (v := 6) C Wd 1 0 rfl rfl rfl dX3_go_7 ?_
  refine lv_icmp_ge (tgt := 41) C.1 C.2.1 dX3_go_8 (by decide) (fun c1704 => absurd c1704 (by decide)) (fun _ => ?_)
  refine lv_aload_n C.1 C.2.1 dX3_go_11 rfl (lv_at hl 1 rfl) ?_
  refine k_get C Wd KX3 0 5 rfl (by decide) fl_X3_22 rfl dX3_go_12 ?_
  refine lv_iload_n C.1 C.2.1 dX3_go_15 rfl (lv_at hl 0 rfl) ?_
  refine lv_iload_n C.1 C.2.1 dX3_go_16 rfl (lv_at hl 0 rfl) ?_
  refine lv_if_ne (tgt := 24) C.1 C.2.1 dX3_go_17 (by decide) (fun _ => ?_) (fun c1705 => absurd c1705 (by decide))
  refine lv_iload_n C.1 C.2.1 dX3_go_24 rfl (lv_at hl 0 rfl) ?_
  refine lv_iconst (v := 1) C.1 C.2.1 dX3_go_25 (by decide) ?_
  refine lv_icmp_ne (tgt := 33) C.1 C.2.1 dX3_go_26 (by decide) (fun _ => ?_) (fun c1706 => absurd c1706 (by decide))
  refine lv_iconst (v := 0) C.1 C.2.1 dX3_go_33 (by decide) ?_
  refine k_iast C Wd 1 0 [(h0, .inr (3, [.ref h1, .ref h2, .int 0, .int 0, .int 0, .ref h3, .ref h4])), (h3, .inl (a0, 6, .inl (upd (upd (upd (upd (upd (fun _ => 0) 0 x0) 1 x1) 2 0) 3 0) 4 0))), (h1, .inr (1, [.ref h5, .int 0, .ref h6, .ref h7, .ref h8, .ref h9, .ref h10, .ref h11, .ref h12, .ref h13, .ref h14, .ref h15, .ref h16, .ref h17]))] rfl rfl (vp_in_iff.mpr (by decide)) rfl rfl dX3_go_34 (fun H locs Wd => ?_)
  refine lv_iinc (v := 5) (lv' := [(3, .int 5), (0, .ref h0), (1, .int x0), (2, .int x1)]) C.1 C.2.1 dX3_go_35 hl (k := 0) rfl (by decide) (by decide) rfl (fun ls hl => ?_)
  refine lv_goto (tgt := 2) C.1 C.2.1 dX3_go_38 (by decide) ?_
  refine lv_iload_n C.1 C.2.1 dX3_go_2 rfl (lv_at hl 0 rfl) ?_
  refine lv_aload_n C.1 C.2.1 dX3_go_3 rfl (lv_at hl 1 rfl) ?_
  refine k_get C Wd KX3 0 5 rfl (by decide) fl_X3_22 rfl dX3_go_4 ?_
  refine k_alen (v := 6) C Wd 1 0 rfl rfl rfl dX3_go_7 ?_
  refine lv_icmp_ge (tgt := 41) C.1 C.2.1 dX3_go_8 (by decide) (fun c1707 => absurd c1707 (by decide)) (fun _ => ?_)
  refine lv_aload_n C.1 C.2.1 dX3_go_11 rfl (lv_at hl 1 rfl) ?_
  refine k_get C Wd KX3 0 5 rfl (by decide) fl_X3_22 rfl dX3_go_12 ?_
  refine lv_iload_n C.1 C.2.1 dX3_go_15 rfl (lv_at hl 0 rfl) ?_
  refine lv_iload_n C.1 C.2.1 dX3_go_16 rfl (lv_at hl 0 rfl) ?_
  refine lv_if_ne (tgt := 24) C.1 C.2.1 dX3_go_17 (by decide) (fun _ => ?_) (fun c1708 => absurd c1708 (by decide))
  refine lv_iload_n C.1 C.2.1 dX3_go_24 rfl (lv_at hl 0 rfl) ?_
  refine lv_iconst (v := 1) C.1 C.2.1 dX3_go_25 (by decide) ?_
  refine lv_icmp_ne (tgt := 33) C.1 C.2.1 dX3_go_26 (by decide) (fun _ => ?_) (fun c1709 => absurd c1709 (by decide))
  refine lv_iconst (v := 0) C.1 C.2.1 dX3_go_33 (by decide) ?_
  refine k_iast C Wd 1 0 [(h0, .inr (3, [.ref h1, .ref h2, .int 0, .int 0, .int 0, .ref h3, .ref h4])), (h3, .inl (a0, 6, .inl (upd (upd (upd (upd (upd (upd (fun _ => 0) 0 x0) 1 x1) 2 0) 3 0) 4 0) 5 0))), (h1, .inr (1, [.ref h5, .int 0, .ref h6, .ref h7, .ref h8, .ref h9, .ref h10, .ref h11, .ref h12, .ref h13, .ref h14, .ref h15, .ref h16, .ref h17]))] rfl rfl (vp_in_iff.mpr (by decide)) rfl rfl dX3_go_34 (fun H locs Wd => ?_)
  refine lv_iinc (v := 6) (lv' := [(3, .int 6), (0, .ref h0), (1, .int x0), (2, .int x1)]) C.1 C.2.1 dX3_go_35 hl (k := 0) rfl (by decide) (by decide) rfl (fun ls hl => ?_)
  refine lv_goto (tgt := 2) C.1 C.2.1 dX3_go_38 (by decide) ?_
  refine lv_iload_n C.1 C.2.1 dX3_go_2 rfl (lv_at hl 0 rfl) ?_
  refine lv_aload_n C.1 C.2.1 dX3_go_3 rfl (lv_at hl 1 rfl) ?_
  refine k_get C Wd KX3 0 5 rfl (by decide) fl_X3_22 rfl dX3_go_4 ?_
  refine k_alen (v := 6) C Wd 1 0 rfl rfl rfl dX3_go_7 ?_
  refine lv_icmp_ge (tgt := 41) C.1 C.2.1 dX3_go_8 (by decide) (fun _ => ?_) (fun c1710 => absurd c1710 (by decide))
  refine lv_aload_n C.1 C.2.1 dX3_go_41 rfl (lv_at hl 1 rfl) ?_
  refine lv_iconst (v := 0) C.1 C.2.1 dX3_go_42 (by decide) ?_
  refine k_put C Wd KX3 0 2 [(h0, .inr (3, [.ref h1, .ref h2, .int 0, .int 0, .int 0, .ref h3, .ref h4])), (h3, .inl (a0, 6, .inl (upd (upd (upd (upd (upd (upd (fun _ => 0) 0 x0) 1 x1) 2 0) 3 0) 4 0) 5 0))), (h1, .inr (1, [.ref h5, .int 0, .ref h6, .ref h7, .ref h8, .ref h9, .ref h10, .ref h11, .ref h12, .ref h13, .ref h14, .ref h15, .ref h16, .ref h17]))] rfl (by decide) fl_X3_28 rfl rfl rfl (Nat.le_of_ble_eq_true rfl) rfl dX3_go_43 (fun H locs Wd => ?_)
  refine lv_aload_n C.1 C.2.1 dX3_go_46 rfl (lv_at hl 1 rfl) ?_
  refine k_get C Wd KX3 0 0 rfl (by decide) fl_X3_12 rfl dX3_go_47 ?_
  refine k_get C Wd KX1 2 1 rfl (by decide) fl_X3_32 rfl dX3_go_50 ?_
  refine lv_if_le (tgt := 60) C.1 C.2.1 dX3_go_53 (by decide) (fun _ => ?_) (fun c1711 => absurd c1711 (by decide))
  refine lv_iconst (v := (-1)) C.1 C.2.1 dX3_go_60 (by decide) ?_
  refine lv_istore_n (lv' := [(3, .int (-1)), (0, .ref h0), (1, .int x0), (2, .int x1)]) C.1 C.2.1 dX3_go_61 rfl hl (by decide) rfl (fun ls hl => ?_)
  refine lv_aload_n C.1 C.2.1 dX3_go_62 rfl (lv_at hl 1 rfl) ?_
  refine lv_iconst (v := 0) C.1 C.2.1 dX3_go_63 (by decide) ?_
  refine k_put C Wd KX3 0 3 [(h0, .inr (3, [.ref h1, .ref h2, .int 0, .int 0, .int 0, .ref h3, .ref h4])), (h3, .inl (a0, 6, .inl (upd (upd (upd (upd (upd (upd (fun _ => 0) 0 x0) 1 x1) 2 0) 3 0) 4 0) 5 0))), (h1, .inr (1, [.ref h5, .int 0, .ref h6, .ref h7, .ref h8, .ref h9, .ref h10, .ref h11, .ref h12, .ref h13, .ref h14, .ref h15, .ref h16, .ref h17]))] rfl (by decide) fl_X3_35 rfl rfl rfl (Nat.le_of_ble_eq_true rfl) rfl dX3_go_64 (fun H locs Wd => ?_)
  refine lv_aload_n C.1 C.2.1 dX3_go_67 rfl (lv_at hl 1 rfl) ?_
  refine k_get C Wd KX3 0 3 rfl (by decide) fl_X3_35 rfl dX3_go_68 ?_
  refine lv_bipush (v := 100) C.1 C.2.1 dX3_go_71 (by decide) ?_
  refine lv_icmp_ge (tgt := 99) C.1 C.2.1 dX3_go_73 (by decide) (fun c1712 => absurd c1712 (by decide)) (fun _ => ?_)
  refine lv_iload_n C.1 C.2.1 dX3_go_76 rfl (lv_at hl 0 rfl) ?_
  refine lv_if_lt (tgt := 99) C.1 C.2.1 dX3_go_77 (by decide) (fun _ => ?_) (fun c1713 => absurd c1713 (by decide))
  refine lv_aload_n C.1 C.2.1 dX3_go_99 rfl (lv_at hl 1 rfl) ?_
  refine lv_iload_n C.1 C.2.1 dX3_go_100 rfl (lv_at hl 0 rfl) ?_
  refine lv_bipush (v := (-2)) C.1 C.2.1 dX3_go_101 (by decide) ?_
  refine lv_icmp_ne (tgt := 110) C.1 C.2.1 dX3_go_103 (by decide) (fun _ => ?_) (fun c1714 => absurd c1714 (by decide))
  refine lv_iload_n C.1 C.2.1 dX3_go_110 rfl (lv_at hl 0 rfl) ?_
  refine lv_if_lt (tgt := 118) C.1 C.2.1 dX3_go_111 (by decide) (fun _ => ?_) (fun c1715 => absurd c1715 (by decide))
  refine lv_iconst (v := 0) C.1 C.2.1 dX3_go_118 (by decide) ?_
  refine k_put C Wd KX3 0 4 [(h0, .inr (3, [.ref h1, .ref h2, .int 0, .int 0, .int 0, .ref h3, .ref h4])), (h3, .inl (a0, 6, .inl (upd (upd (upd (upd (upd (upd (fun _ => 0) 0 x0) 1 x1) 2 0) 3 0) 4 0) 5 0))), (h1, .inr (1, [.ref h5, .int 0, .ref h6, .ref h7, .ref h8, .ref h9, .ref h10, .ref h11, .ref h12, .ref h13, .ref h14, .ref h15, .ref h16, .ref h17]))] rfl (by decide) fl_X3_42 rfl rfl rfl (Nat.le_of_ble_eq_true rfl) rfl dX3_go_119 (fun H locs Wd => ?_)
  exact k_vret C hr hlk Wd () trivial [0, 1, 2] rfl (by decide) [] rfl (by decide) (by decide) dX3_go_122
set_option maxHeartbeats 4000000 in
set_option maxRecDepth 100000 in
theorem kcX3_output (l : Launch) (D : va_G) (h0 h1 h2 h3 h4 : Nat) (x0 : Int32) (sz : Nat)  : Met l yX3_output (Cond.code yX3_output cX3_output 2 (some .int) :: gG) { frames := 1, cells := 0, slots := 0, locals := 64 } (cPre D [] [(h0, .inr (3, [.ref h1, .ref h2, .int 0, .int 0, .int 0, .ref h3, .ref h4]))] sz [.ref h0, .int x0]) (vp_Si (fun r => (x0 < (0 : Int32) ∧ r = (-1)) ∨ (¬ x0 < (0 : Int32) ∧ r = (-1)))) 0 0 (fun _ => False) := by
  refine Met.ofW (cc := cX3_output) (maxL := 2) (ret := (some .int)) (by decide) rfl ?_
  intro p e s m args below meth c s₁ B hml hv
  obtain ⟨rfl, aks, rfl, Wd⟩ := k_enter hv
  have C : CallFix p m c cX3_output 2 s _ gG RX3 := ⟨B.exec, B.bytes, hml, findClass_of_methodNamed B.named, fun w h => atoms_spec (ws := Cond.code yX3_output cX3_output 2 (some .int) :: gG) B.pre w (List.mem_cons_of_mem _ h)⟩
  have hr := B.returns
  have hlk := B.notSynchronized
  obtain ⟨A, Wd⟩ : ∃ A, wX D [] s [(h0, .inr (3, [.ref h1, .ref h2, .int 0, .int 0, .int 0, .ref h3, .ref h4]))] s.heap A s.heap [] := ⟨_, Wd⟩
  refine k_locals (Nat.le_of_ble_eq_true rfl) [(0, .ref h0), (1, .int x0)] rfl (fun ls hl => ?_)
  refine lv_iload_n C.1 C.2.1 dX3_output_0 rfl (lv_at hl 1 rfl) ?_
  refine lv_if_lt (tgt := 30) C.1 C.2.1 dX3_output_1 (by decide) (fun c1726 => ?_) (fun c1726 => ?_)
  · refine lv_iconst (v := (-1)) C.1 C.2.1 dX3_output_30 (by decide) ?_
    exact k_zretP C hr hlk rfl (Or.inl (⟨c1726, rfl⟩)) dX3_output_31
  · refine lv_iload_n C.1 C.2.1 dX3_output_4 rfl (lv_at hl 1 rfl) ?_
    refine lv_aload_n C.1 C.2.1 dX3_output_5 rfl (lv_at hl 0 rfl) ?_
    refine k_get C Wd KX3 0 2 rfl (by decide) fl_X3_28 rfl dX3_output_6 ?_
    refine lv_icmp_ge (tgt := 30) C.1 C.2.1 dX3_output_9 (by decide) (fun _ => ?_) (fun c1727 => False.elim (by have z0 := kz_nlt c1726; have z1 := kz_nle c1727; have t0 : (0 : Int32).toInt = 0 := (by decide); omega))
    refine lv_iconst (v := (-1)) C.1 C.2.1 dX3_output_30 (by decide) ?_
    exact k_zretP C hr hlk rfl (Or.inr (⟨c1726, rfl⟩)) dX3_output_31
set_option maxHeartbeats 4000000 in
set_option maxRecDepth 100000 in
theorem kcX3_tell (l : Launch) (D : va_G) (h0 h1 h2 h3 h4 : Nat) (x0 : Int32) (f0 : Nat → Int32) (a0 : ClassId) (sz : Nat)  : Met l yX3_tell (Cond.code yX3_tell cX3_tell 2 (some .int) :: gG) { frames := 2, cells := 0, slots := 0, locals := 85 } (cPre D [(a0, .int)] [(h0, .inr (3, [.ref h1, .ref h2, .int 0, .int 0, .int 0, .ref h3, .ref h4])), (h3, .inl (a0, 6, .inl f0))] sz [.ref h0, .int x0]) (vp_Si (fun r => (¬ x0 = (0 : Int32) ∧ ¬ x0 = (1 : Int32) ∧ ¬ x0 = (2 : Int32) ∧ x0 < (10 : Int32) ∧ r = (-1)) ∨ (¬ x0 = (0 : Int32) ∧ ¬ x0 = (1 : Int32) ∧ ¬ x0 = (2 : Int32) ∧ ¬ x0 < (10 : Int32) ∧ (16 : Int32) ≤ x0 ∧ x0 < (100 : Int32) ∧ r = (-1)) ∨ (¬ x0 = (0 : Int32) ∧ ¬ x0 = (1 : Int32) ∧ ¬ x0 = (2 : Int32) ∧ ¬ x0 < (10 : Int32) ∧ (16 : Int32) ≤ x0 ∧ ¬ x0 < (100 : Int32) ∧ ¬ (x0 - 100) < (0 : Int32) ∧ r = (-1)) ∨ (¬ x0 = (0 : Int32) ∧ ¬ x0 = (1 : Int32) ∧ ¬ x0 = (2 : Int32) ∧ ¬ x0 < (10 : Int32) ∧ ¬ (16 : Int32) ≤ x0 ∧ r = (f0 (x0 - 10).toNatClampNeg)) ∨ (¬ x0 = (0 : Int32) ∧ ¬ x0 = (1 : Int32) ∧ x0 = (2 : Int32) ∧ r = 0) ∨ (¬ x0 = (0 : Int32) ∧ x0 = (1 : Int32) ∧ r = 0) ∨ (x0 = (0 : Int32) ∧ r = 0))) 0 0 (fun _ => False) := by
  refine Met.ofW (cc := cX3_tell) (maxL := 2) (ret := (some .int)) (by decide) rfl ?_
  intro p e s m args below meth c s₁ B hml hv
  obtain ⟨rfl, aks, rfl, Wd⟩ := k_enter hv
  have C : CallFix p m c cX3_tell 2 s _ gG RX3 := ⟨B.exec, B.bytes, hml, findClass_of_methodNamed B.named, fun w h => atoms_spec (ws := Cond.code yX3_tell cX3_tell 2 (some .int) :: gG) B.pre w (List.mem_cons_of_mem _ h)⟩
  have hr := B.returns
  have hlk := B.notSynchronized
  obtain ⟨A, Wd⟩ : ∃ A, wX D [(a0, .int)] s [(h0, .inr (3, [.ref h1, .ref h2, .int 0, .int 0, .int 0, .ref h3, .ref h4])), (h3, .inl (a0, 6, .inl f0))] s.heap A s.heap [] := ⟨_, Wd⟩
  refine k_locals (Nat.le_of_ble_eq_true rfl) [(0, .ref h0), (1, .int x0)] rfl (fun ls hl => ?_)
  refine lv_iload_n C.1 C.2.1 dX3_tell_0 rfl (lv_at hl 1 rfl) ?_
  refine lv_if_ne (tgt := 9) C.1 C.2.1 dX3_tell_1 (by decide) (fun c1731 => ?_) (fun c1731 => ?_)
  · refine lv_iload_n C.1 C.2.1 dX3_tell_9 rfl (lv_at hl 1 rfl) ?_
    refine lv_iconst (v := 1) C.1 C.2.1 dX3_tell_10 (by decide) ?_
    refine lv_icmp_ne (tgt := 19) C.1 C.2.1 dX3_tell_11 (by decide) (fun c1732 => ?_) (fun c1732 => ?_)
    · refine lv_iload_n C.1 C.2.1 dX3_tell_19 rfl (lv_at hl 1 rfl) ?_
      refine lv_iconst (v := 2) C.1 C.2.1 dX3_tell_20 (by decide) ?_
      refine lv_icmp_ne (tgt := 29) C.1 C.2.1 dX3_tell_21 (by decide) (fun c1733 => ?_) (fun c1733 => ?_)
      · refine lv_iload_n C.1 C.2.1 dX3_tell_29 rfl (lv_at hl 1 rfl) ?_
        refine lv_bipush (v := 10) C.1 C.2.1 dX3_tell_30 (by decide) ?_
        refine lv_icmp_lt (tgt := 51) C.1 C.2.1 dX3_tell_32 (by decide) (fun c1734 => ?_) (fun c1734 => ?_)
        · refine lv_iload_n C.1 C.2.1 dX3_tell_51 rfl (lv_at hl 1 rfl) ?_
          refine lv_bipush (v := 100) C.1 C.2.1 dX3_tell_52 (by decide) ?_
          refine lv_icmp_lt (tgt := 68) C.1 C.2.1 dX3_tell_54 (by decide) (fun _ => ?_) (fun c1735 => False.elim (by have z0 := kz_ne c1731; have z1 := kz_ne c1732; have z2 := kz_ne c1733; have z3 := kz_lt c1734; have z4 := kz_nlt c1735; have t0 : (0 : Int32).toInt = 0 := (by decide); have t1 : (1 : Int32).toInt = 1 := (by decide); have t2 : (2 : Int32).toInt = 2 := (by decide); have t10 : (10 : Int32).toInt = 10 := (by decide); have t100 : (100 : Int32).toInt = 100 := (by decide); omega))
          refine lv_iconst (v := (-1)) C.1 C.2.1 dX3_tell_68 (by decide) ?_
          exact k_zretP C hr hlk rfl (Or.inl (⟨c1731, c1732, c1733, c1734, rfl⟩)) dX3_tell_69
        · refine lv_iload_n C.1 C.2.1 dX3_tell_35 rfl (lv_at hl 1 rfl) ?_
          refine lv_bipush (v := 16) C.1 C.2.1 dX3_tell_36 (by decide) ?_
          refine lv_icmp_ge (tgt := 51) C.1 C.2.1 dX3_tell_38 (by decide) (fun c1736 => ?_) (fun c1736 => ?_)
          · refine lv_iload_n C.1 C.2.1 dX3_tell_51 rfl (lv_at hl 1 rfl) ?_
            refine lv_bipush (v := 100) C.1 C.2.1 dX3_tell_52 (by decide) ?_
            refine lv_icmp_lt (tgt := 68) C.1 C.2.1 dX3_tell_54 (by decide) (fun c1737 => ?_) (fun c1737 => ?_)
            · refine lv_iconst (v := (-1)) C.1 C.2.1 dX3_tell_68 (by decide) ?_
              exact k_zretP C hr hlk rfl (Or.inr (Or.inl (⟨c1731, c1732, c1733, c1734, c1736, c1737, rfl⟩))) dX3_tell_69
            · refine lv_aload_n C.1 C.2.1 dX3_tell_57 rfl (lv_at hl 0 rfl) ?_
              refine lv_iload_n C.1 C.2.1 dX3_tell_58 rfl (lv_at hl 1 rfl) ?_
              refine lv_bipush (v := 100) C.1 C.2.1 dX3_tell_59 (by decide) ?_
              refine k_isub (v := (x0 - 100)) C rfl dX3_tell_61 ?_
              refine k_pi (k_runV (rest := []) C aks Wd cs_X3_45 (kcX3_output l D h0 h1 h2 h3 h4 (x0 - 100) _ ) [0] rfl (by decide) [] rfl 0 3 rfl rfl rfl rfl rfl ⟨(Nat.le_of_ble_eq_true rfl), (Nat.le_of_ble_eq_true rfl)⟩ hl.1 rfl rfl (Nat.le_of_ble_eq_true rfl) ⟨(Nat.le_of_ble_eq_true rfl), (Nat.le_of_ble_eq_true rfl)⟩ dX3_tell_62) (fun r w1738 => ?_)
              rcases w1738 with ⟨c1739, rfl⟩ | ⟨c1740, rfl⟩
              · exact False.elim (by have z0 := kz_ne c1731; have z1 := kz_ne c1732; have z2 := kz_ne c1733; have z3 := kz_nlt c1734; have z4 := kz_le c1736; have z5 := kz_nlt c1737; have z6 := kz_lt c1739; have zr := kz_rng x0; have z7 := kz_subI (a := x0) (b := 100); have t0 : (0 : Int32).toInt = 0 := (by decide); have t1 : (1 : Int32).toInt = 1 := (by decide); have t2 : (2 : Int32).toInt = 2 := (by decide); have t10 : (10 : Int32).toInt = 10 := (by decide); have t16 : (16 : Int32).toInt = 16 := (by decide); have t100 : (100 : Int32).toInt = 100 := (by decide); omega)
              · refine lv_goto (tgt := 69) C.1 C.2.1 dX3_tell_65 (by decide) ?_
                exact k_zretP C hr hlk rfl (Or.inr (Or.inr (Or.inl (⟨c1731, c1732, c1733, c1734, c1736, c1737, c1740, rfl⟩)))) dX3_tell_69
          · refine lv_aload_n C.1 C.2.1 dX3_tell_41 rfl (lv_at hl 0 rfl) ?_
            refine k_get C Wd KX3 0 5 rfl (by decide) fl_X3_22 rfl dX3_tell_42 ?_
            refine lv_iload_n C.1 C.2.1 dX3_tell_45 rfl (lv_at hl 1 rfl) ?_
            refine lv_bipush (v := 10) C.1 C.2.1 dX3_tell_46 (by decide) ?_
            refine k_isub (v := (x0 - 10)) C rfl dX3_tell_48 ?_
            refine k_iald (v := (f0 (x0 - 10).toNatClampNeg)) C Wd 1 0 rfl rfl (vp_in_iff.mpr ⟨by have z0 := kz_ne c1731; have z1 := kz_ne c1732; have z2 := kz_ne c1733; have z3 := kz_nlt c1734; have z4 := kz_nle c1736; have zr := kz_rng x0; have z5 := kz_subI (a := x0) (b := 10); have t0 : (0 : Int32).toInt = 0 := (by decide); have t1 : (1 : Int32).toInt = 1 := (by decide); have t2 : (2 : Int32).toInt = 2 := (by decide); have t10 : (10 : Int32).toInt = 10 := (by decide); have t16 : (16 : Int32).toInt = 16 := (by decide); omega, by have z0 := kz_ne c1731; have z1 := kz_ne c1732; have z2 := kz_ne c1733; have z3 := kz_nlt c1734; have z4 := kz_nle c1736; have zr := kz_rng x0; have z5 := kz_subI (a := x0) (b := 10); have t0 : (0 : Int32).toInt = 0 := (by decide); have t1 : (1 : Int32).toInt = 1 := (by decide); have t2 : (2 : Int32).toInt = 2 := (by decide); have t10 : (10 : Int32).toInt = 10 := (by decide); have t16 : (16 : Int32).toInt = 16 := (by decide); omega⟩) rfl dX3_tell_49 ?_
            exact k_zretP C hr hlk rfl (Or.inr (Or.inr (Or.inr (Or.inl (⟨c1731, c1732, c1733, c1734, c1736, rfl⟩))))) dX3_tell_50
      · subst c1733
        refine lv_aload_n C.1 C.2.1 dX3_tell_24 rfl (lv_at hl 0 rfl) ?_
        refine k_get C Wd KX3 0 2 rfl (by decide) fl_X3_28 rfl dX3_tell_25 ?_
        exact k_zretP C hr hlk rfl (Or.inr (Or.inr (Or.inr (Or.inr (Or.inl (⟨c1731, c1732, rfl, rfl⟩)))))) dX3_tell_28
    · subst c1732
      refine lv_aload_n C.1 C.2.1 dX3_tell_14 rfl (lv_at hl 0 rfl) ?_
      refine k_get C Wd KX3 0 3 rfl (by decide) fl_X3_35 rfl dX3_tell_15 ?_
      exact k_zretP C hr hlk rfl (Or.inr (Or.inr (Or.inr (Or.inr (Or.inr (Or.inl (⟨c1731, rfl, rfl⟩))))))) dX3_tell_18
  · subst c1731
    refine lv_aload_n C.1 C.2.1 dX3_tell_4 rfl (lv_at hl 0 rfl) ?_
    refine k_get C Wd KX3 0 4 rfl (by decide) fl_X3_42 rfl dX3_tell_5 ?_
    exact k_zretP C hr hlk rfl (Or.inr (Or.inr (Or.inr (Or.inr (Or.inr (Or.inr (⟨rfl, rfl⟩))))))) dX3_tell_8
