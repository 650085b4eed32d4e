set_option maxHeartbeats 4000000 in
set_option maxRecDepth 100000 in
theorem kcX12_takes (l : Launch) (D : va_G) (h0 h1 h2 h3 h4 h5 h6 h7 h8 h9 h10 h11 h12 h13 h14 h15 h16 h17 h18 h19 h20 h21 h22 h23 h24 h25 : Nat) (x0 : Int32) (a1 : ClassId) (sz : Nat)  (as0 : ¬ x0 < (0 : Int32)) (as1 : ¬ (5 : Int32) < x0): Met l yX12_takes (Cond.code yX12_takes cX12_takes 3 none :: gG) { frames := 1, cells := 0, slots := 0, locals := 64 } (cPre D [(a1, .int)] [(h0, .inr (12, [.ref h1, .ref h2, .ref h3, .ref h4, .int 0, .int 0, .ref h5, .int 0, .int 0, .int 0, .int 0, .int 0, .int 0, .int 0, .int 0, .int 0, .int 0, .int 0, .int 0, .int 0, .int (-1), .int 0, .int 0, .int 0, .ref h6, .ref h7, .ref h8, .ref h9, .ref h10, .ref h11, .int 0, .int 0, .int 0, .int 0, .ref h12, .ref h13, .ref h14, .int 0, .int 0, .int 0, .int 0, .ref h15, .ref h16, .int 0, .ref h17, .ref h18, .int 0, .ref h19, .int 0, .ref h20, .ref h21, .ref h22, .int 0, .ref h23, .ref h24, .ref h25])), (h2, .inl (a1, 6, .inl (fun _ => 0)))] sz [.ref h0, .int x0]) (va_Qv (fun (_ : Unit) => True) (fun u t => cB D (va_A [(h0, .inr (12, [.ref h1, .ref h2, .ref h3, .ref h4, .int 0, .int 0, .ref h5, .int 0, .int 0, .int 0, .int 0, .int 0, .int 0, .int 0, .int 0, .int 0, .int 0, .int 0, .int 0, .int 0, .int (-1), .int 0, .int 0, .int 0, .ref h6, .ref h7, .ref h8, .ref h9, .ref h10, .ref h11, .int 0, .int 0, .int 0, .int 0, .ref h12, .ref h13, .ref h14, .int 0, .int 0, .int 0, .int 0, .ref h15, .ref h16, .int 0, .ref h17, .ref h18, .int 0, .ref h19, .int 0, .ref h20, .ref h21, .ref h22, .int 0, .ref h23, .ref h24, .ref h25])), (h2, .inl (a1, 6, .inl (fun _ => 0)))] sz) ((fun (_ : Unit) => ([] : List (ClassId × FieldType))) u) ((fun (_ : Unit) => ([(h0, .inr (12, [.ref h1, .ref h2, .ref h3, .ref h4, .int 0, .int 0, .ref h5, .int 0, .int 0, .int 0, .int 0, .int 0, .int 0, .int 0, .int 0, .int 0, .int 0, .int 0, .int 0, .int 0, .int (-1), .int 0, .int 0, .int 0, .ref h6, .ref h7, .ref h8, .ref h9, .ref h10, .ref h11, .int 0, .int 0, .int 0, .int 0, .ref h12, .ref h13, .ref h14, .int 0, .int 0, .int 0, .int 0, .ref h15, .ref h16, .int 0, .ref h17, .ref h18, .int 0, .ref h19, .int 0, .ref h20, .ref h21, .ref h22, .int 0, .ref h23, .ref h24, .ref h25])), (h2, .inl (a1, 6, .inl (fun _ => 0)))] : va_W)) u) t) (va_A [(h0, .inr (12, [.ref h1, .ref h2, .ref h3, .ref h4, .int 0, .int 0, .ref h5, .int 0, .int 0, .int 0, .int 0, .int 0, .int 0, .int 0, .int 0, .int 0, .int 0, .int 0, .int 0, .int 0, .int (-1), .int 0, .int 0, .int 0, .ref h6, .ref h7, .ref h8, .ref h9, .ref h10, .ref h11, .int 0, .int 0, .int 0, .int 0, .ref h12, .ref h13, .ref h14, .int 0, .int 0, .int 0, .int 0, .ref h15, .ref h16, .int 0, .ref h17, .ref h18, .int 0, .ref h19, .int 0, .ref h20, .ref h21, .ref h22, .int 0, .ref h23, .ref h24, .ref h25])), (h2, .inl (a1, 6, .inl (fun _ => 0)))] sz)) 0 0 (va_A [(h0, .inr (12, [.ref h1, .ref h2, .ref h3, .ref h4, .int 0, .int 0, .ref h5, .int 0, .int 0, .int 0, .int 0, .int 0, .int 0, .int 0, .int 0, .int 0, .int 0, .int 0, .int 0, .int 0, .int (-1), .int 0, .int 0, .int 0, .ref h6, .ref h7, .ref h8, .ref h9, .ref h10, .ref h11, .int 0, .int 0, .int 0, .int 0, .ref h12, .ref h13, .ref h14, .int 0, .int 0, .int 0, .int 0, .ref h15, .ref h16, .int 0, .ref h17, .ref h18, .int 0, .ref h19, .int 0, .ref h20, .ref h21, .ref h22, .int 0, .ref h23, .ref h24, .ref h25])), (h2, .inl (a1, 6, .inl (fun _ => 0)))] sz) := by
  refine Met.ofW (cc := cX12_takes) (maxL := 3) (ret := none) (by decide) rfl ?_
  intro p e s m args below meth c s₁ B hml hv
  obtain ⟨rfl, aks, rfl, Wd⟩ := k_enter hv
  have C : CallFix p m c cX12_takes 3 s _ gG RX12 := ⟨B.exec, B.bytes, hml, findClass_of_methodNamed B.named, fun w h => atoms_spec (ws := Cond.code yX12_takes cX12_takes 3 none :: gG) B.pre w (List.mem_cons_of_mem _ h)⟩
  have hr := B.returns
  have hlk := B.notSynchronized
  generalize va_A [(h0, .inr (12, [.ref h1, .ref h2, .ref h3, .ref h4, .int 0, .int 0, .ref h5, .int 0, .int 0, .int 0, .int 0, .int 0, .int 0, .int 0, .int 0, .int 0, .int 0, .int 0, .int 0, .int 0, .int (-1), .int 0, .int 0, .int 0, .ref h6, .ref h7, .ref h8, .ref h9, .ref h10, .ref h11, .int 0, .int 0, .int 0, .int 0, .ref h12, .ref h13, .ref h14, .int 0, .int 0, .int 0, .int 0, .ref h15, .ref h16, .int 0, .ref h17, .ref h18, .int 0, .ref h19, .int 0, .ref h20, .ref h21, .ref h22, .int 0, .ref h23, .ref h24, .ref h25])), (h2, .inl (a1, 6, .inl (fun _ => 0)))] s.heap.size = A at Wd ⊢
  refine k_locals (Nat.le_of_ble_eq_true rfl) [(0, .ref h0), (1, .int x0)] rfl (fun ls hl => ?_)
  refine lv_aload_n C.1 C.2.1 dX12_takes_0 rfl (lv_at hl 0 rfl) ?_
  refine lv_aload_n C.1 C.2.1 dX12_takes_1 rfl (lv_at hl 0 rfl) ?_
  refine k_get C Wd KX12 0 1 rfl (by decide) fl_X12_13 rfl dX12_takes_2 ?_
  refine lv_iload_n C.1 C.2.1 dX12_takes_5 rfl (lv_at hl 1 rfl) ?_
  refine k_iald (v := 0) C Wd 1 0 rfl rfl (vp_in_iff.mpr ⟨by have z0 := kz_nlt as0; have z1 := kz_nlt as1; have t0 : (0 : Int32).toInt = 0 := (by decide); have t5 : (5 : Int32).toInt = 5 := (by decide); omega, by have z0 := kz_nlt as0; have z1 := kz_nlt as1; have t0 : (0 : Int32).toInt = 0 := (by decide); have t5 : (5 : Int32).toInt = 5 := (by decide); omega⟩) rfl dX12_takes_6 ?_
  refine k_put C Wd KX12 0 4 [(h0, .inr (12, [.ref h1, .ref h2, .ref h3, .ref h4, .int 0, .int 0, .ref h5, .int 0, .int 0, .int 0, .int 0, .int 0, .int 0, .int 0, .int 0, .int 0, .int 0, .int 0, .int 0, .int 0, .int (-1), .int 0, .int 0, .int 0, .ref h6, .ref h7, .ref h8, .ref h9, .ref h10, .ref h11, .int 0, .int 0, .int 0, .int 0, .ref h12, .ref h13, .ref h14, .int 0, .int 0, .int 0, .int 0, .ref h15, .ref h16, .int 0, .ref h17, .ref h18, .int 0, .ref h19, .int 0, .ref h20, .ref h21, .ref h22, .int 0, .ref h23, .ref h24, .ref h25])), (h2, .inl (a1, 6, .inl (fun _ => 0)))] rfl (by decide) fl_X12_98 rfl rfl rfl (Nat.le_of_ble_eq_true rfl) rfl dX12_takes_7 (fun H locs Wd => ?_)
  refine lv_iconst (v := 0) C.1 C.2.1 dX12_takes_10 (by decide) ?_
  refine lv_istore_n (lv' := [(2, .int 0), (0, .ref h0), (1, .int x0)]) C.1 C.2.1 dX12_takes_11 rfl hl (by decide) rfl (fun ls hl => ?_)
  refine lv_iload_n C.1 C.2.1 dX12_takes_12 rfl (lv_at hl 0 rfl) ?_
  refine lv_aload_n C.1 C.2.1 dX12_takes_13 rfl (lv_at hl 1 rfl) ?_
  refine k_get C Wd KX12 0 4 rfl (by decide) fl_X12_98 rfl dX12_takes_14 ?_
  refine lv_icmp_ge (tgt := 44) C.1 C.2.1 dX12_takes_17 (by decide) (fun _ => ?_) (fun c4352 => absurd c4352 (by decide))
  exact k_vret C hr hlk Wd () trivial [0, 1] rfl (by decide) [] rfl (by decide) (by decide) dX12_takes_44
set_option maxHeartbeats 4000000 in
set_option maxRecDepth 100000 in
theorem kcX12_isLast (l : Launch) (D : va_G) (h0 h1 h2 h3 h4 h5 h6 h7 h8 h9 h10 h11 h12 h13 h14 h15 h16 h17 h18 h19 h20 h21 h22 h23 h24 h25 : Nat) (sz : Nat)  : Met l yX12_isLast (Cond.code yX12_isLast cX12_isLast 2 (some .boolean) :: gG) { frames := 1, cells := 0, slots := 0, locals := 64 } (cPre D [] [(h0, .inr (12, [.ref h1, .ref h2, .ref h3, .ref h4, .int 0, .int 0, .ref h5, .int 0, .int 0, .int 0, .int 0, .int 0, .int 0, .int 0, .int 0, .int 0, .int 0, .int 0, .int 0, .int 0, .int (-1), .int 0, .int 0, .int 0, .ref h6, .ref h7, .ref h8, .ref h9, .ref h10, .ref h11, .int 0, .int 0, .int 0, .int 0, .ref h12, .ref h13, .ref h14, .int 0, .int 0, .int 0, .int 0, .ref h15, .ref h16, .int 0, .ref h17, .ref h18, .int 0, .ref h19, .int 0, .ref h20, .ref h21, .ref h22, .int 0, .ref h23, .ref h24, .ref h25]))] sz [.ref h0, .int 0]) (vp_Si (fun r => r = 1)) 0 0 (fun _ => False) := by
  refine Met.ofW (cc := cX12_isLast) (maxL := 2) (ret := (some .boolean)) (by decide) rfl ?_
  intro p e s m args below meth c s₁ B hml hv
  obtain ⟨rfl, aks, rfl, Wd⟩ := k_enter hv
  have C : CallFix p m c cX12_isLast 2 s _ gG RX12 := ⟨B.exec, B.bytes, hml, findClass_of_methodNamed B.named, fun w h => atoms_spec (ws := Cond.code yX12_isLast cX12_isLast 2 (some .boolean) :: gG) B.pre w (List.mem_cons_of_mem _ h)⟩
  have hr := B.returns
  have hlk := B.notSynchronized
  obtain ⟨A, Wd⟩ : ∃ A, wX D [] s [(h0, .inr (12, [.ref h1, .ref h2, .ref h3, .ref h4, .int 0, .int 0, .ref h5, .int 0, .int 0, .int 0, .int 0, .int 0, .int 0, .int 0, .int 0, .int 0, .int 0, .int 0, .int 0, .int 0, .int (-1), .int 0, .int 0, .int 0, .ref h6, .ref h7, .ref h8, .ref h9, .ref h10, .ref h11, .int 0, .int 0, .int 0, .int 0, .ref h12, .ref h13, .ref h14, .int 0, .int 0, .int 0, .int 0, .ref h15, .ref h16, .int 0, .ref h17, .ref h18, .int 0, .ref h19, .int 0, .ref h20, .ref h21, .ref h22, .int 0, .ref h23, .ref h24, .ref h25]))] s.heap A s.heap [] := ⟨_, Wd⟩
  refine k_locals (Nat.le_of_ble_eq_true rfl) [(0, .ref h0), (1, .int 0)] rfl (fun ls hl => ?_)
  refine lv_iload_n C.1 C.2.1 dX12_isLast_0 rfl (lv_at hl 1 rfl) ?_
  refine lv_aload_n C.1 C.2.1 dX12_isLast_1 rfl (lv_at hl 0 rfl) ?_
  refine k_get C Wd KX12 0 4 rfl (by decide) fl_X12_98 rfl dX12_isLast_2 ?_
  refine lv_icmp_eq (tgt := 30) C.1 C.2.1 dX12_isLast_5 (by decide) (fun _ => ?_) (fun c4358 => absurd c4358 (by decide))
  refine lv_iconst (v := 1) C.1 C.2.1 dX12_isLast_30 (by decide) ?_
  refine lv_goto (tgt := 35) C.1 C.2.1 dX12_isLast_31 (by decide) ?_
  exact k_zretP C hr hlk rfl rfl dX12_isLast_35
set_option maxHeartbeats 4000000 in
set_option maxRecDepth 100000 in
theorem kcX12_liveFrom (l : Launch) (D : va_G) (h0 h1 h2 h3 h4 h5 h6 h7 h8 h9 h10 h11 h12 h13 h14 h15 h16 h17 h18 h19 h20 h21 h22 h23 h24 h25 : Nat) (sz : Nat)  : Met l yX12_liveFrom (Cond.code yX12_liveFrom cX12_liveFrom 3 (some .int) :: gG) { frames := 2, cells := 0, slots := 0, locals := 85 } (cPre D [] [(h0, .inr (12, [.ref h1, .ref h2, .ref h3, .ref h4, .int 0, .int 0, .ref h5, .int 0, .int 0, .int 0, .int 0, .int 0, .int 0, .int 0, .int 0, .int 0, .int 0, .int 0, .int 0, .int 0, .int (-1), .int 0, .int 0, .int 0, .ref h6, .ref h7, .ref h8, .ref h9, .ref h10, .ref h11, .int 0, .int 0, .int 0, .int 0, .ref h12, .ref h13, .ref h14, .int 0, .int 0, .int 0, .int 0, .ref h15, .ref h16, .int 0, .ref h17, .ref h18, .int 0, .ref h19, .int 0, .ref h20, .ref h21, .ref h22, .int 0, .ref h23, .ref h24, .ref h25]))] sz [.ref h0, .int 0, .int 0]) (vp_Si (fun r => r = 0)) 0 0 (fun _ => False) := by
  refine Met.ofW (cc := cX12_liveFrom) (maxL := 3) (ret := (some .int)) (by decide) rfl ?_
  intro p e s m args below meth c s₁ B hml hv
  obtain ⟨rfl, aks, rfl, Wd⟩ := k_enter hv
  have C : CallFix p m c cX12_liveFrom 3 s _ gG RX12 := ⟨B.exec, B.bytes, hml, findClass_of_methodNamed B.named, fun w h => atoms_spec (ws := Cond.code yX12_liveFrom cX12_liveFrom 3 (some .int) :: gG) B.pre w (List.mem_cons_of_mem _ h)⟩
  have hr := B.returns
  have hlk := B.notSynchronized
  obtain ⟨A, Wd⟩ : ∃ A, wX D [] s [(h0, .inr (12, [.ref h1, .ref h2, .ref h3, .ref h4, .int 0, .int 0, .ref h5, .int 0, .int 0, .int 0, .int 0, .int 0, .int 0, .int 0, .int 0, .int 0, .int 0, .int 0, .int 0, .int 0, .int (-1), .int 0, .int 0, .int 0, .ref h6, .ref h7, .ref h8, .ref h9, .ref h10, .ref h11, .int 0, .int 0, .int 0, .int 0, .ref h12, .ref h13, .ref h14, .int 0, .int 0, .int 0, .int 0, .ref h15, .ref h16, .int 0, .ref h17, .ref h18, .int 0, .ref h19, .int 0, .ref h20, .ref h21, .ref h22, .int 0, .ref h23, .ref h24, .ref h25]))] s.heap A s.heap [] := ⟨_, Wd⟩
  refine k_locals (Nat.le_of_ble_eq_true rfl) [(0, .ref h0), (1, .int 0), (2, .int 0)] rfl (fun ls hl => ?_)
  refine lv_aload_n C.1 C.2.1 dX12_liveFrom_0 rfl (lv_at hl 0 rfl) ?_
  refine lv_iload_n C.1 C.2.1 dX12_liveFrom_1 rfl (lv_at hl 1 rfl) ?_
  refine k_pi (k_runV (rest := []) C aks Wd cs_X12_107 (kcX12_isLast l D h0 h1 h2 h3 h4 h5 h6 h7 h8 h9 h10 h11 h12 h13 h14 h15 h16 h17 h18 h19 h20 h21 h22 h23 h24 h25 _ ) [0] rfl (by decide) [] rfl 0 12 rfl rfl rfl rfl rfl ⟨(Nat.le_of_ble_eq_true rfl), (Nat.le_of_ble_eq_true rfl)⟩ hl.1 rfl rfl (Nat.le_of_ble_eq_true rfl) ⟨(Nat.le_of_ble_eq_true rfl), (Nat.le_of_ble_eq_true rfl)⟩ dX12_liveFrom_2) (fun r w4361 => ?_)
  obtain rfl := w4361
  refine lv_if_eq (tgt := 12) C.1 C.2.1 dX12_liveFrom_5 (by decide) (fun c4362 => absurd c4362 (by decide)) (fun _ => ?_)
  refine lv_iload_n C.1 C.2.1 dX12_liveFrom_8 rfl (lv_at hl 2 rfl) ?_
  refine lv_goto (tgt := 27) C.1 C.2.1 dX12_liveFrom_9 (by decide) ?_
  exact k_zretP C hr hlk rfl rfl dX12_liveFrom_27
set_option maxHeartbeats 4000000 in
set_option maxRecDepth 100000 in
theorem kcX12_parts (l : Launch) (D : va_G) (h0 h1 h2 h3 h4 h5 h6 h7 h8 h9 h10 h11 h12 h13 h14 h15 h16 h17 h18 h19 h20 h21 h22 h23 h24 h25 : Nat) (sz : Nat)  : Met l yX12_parts (Cond.code yX12_parts cX12_parts 3 (some .int) :: gG) { frames := 1, cells := 0, slots := 0, locals := 64 } (cPre D [] [(h0, .inr (12, [.ref h1, .ref h2, .ref h3, .ref h4, .int 0, .int 0, .ref h5, .int 0, .int 0, .int 0, .int 0, .int 0, .int 0, .int 0, .int 0, .int 0, .int 0, .int 0, .int 0, .int 0, .int (-1), .int 0, .int 0, .int 0, .ref h6, .ref h7, .ref h8, .ref h9, .ref h10, .ref h11, .int 0, .int 0, .int 0, .int 0, .ref h12, .ref h13, .ref h14, .int 0, .int 0, .int 0, .int 0, .ref h15, .ref h16, .int 0, .ref h17, .ref h18, .int 0, .ref h19, .int 0, .ref h20, .ref h21, .ref h22, .int 0, .ref h23, .ref h24, .ref h25]))] sz [.ref h0]) (vp_Si (fun r => r = 0)) 0 0 (fun _ => False) := by
  refine Met.ofW (cc := cX12_parts) (maxL := 3) (ret := (some .int)) (by decide) rfl ?_
  intro p e s m args below meth c s₁ B hml hv
  obtain ⟨rfl, aks, rfl, Wd⟩ := k_enter hv
  have C : CallFix p m c cX12_parts 3 s _ gG RX12 := ⟨B.exec, B.bytes, hml, findClass_of_methodNamed B.named, fun w h => atoms_spec (ws := Cond.code yX12_parts cX12_parts 3 (some .int) :: gG) B.pre w (List.mem_cons_of_mem _ h)⟩
  have hr := B.returns
  have hlk := B.notSynchronized
  obtain ⟨A, Wd⟩ : ∃ A, wX D [] s [(h0, .inr (12, [.ref h1, .ref h2, .ref h3, .ref h4, .int 0, .int 0, .ref h5, .int 0, .int 0, .int 0, .int 0, .int 0, .int 0, .int 0, .int 0, .int 0, .int 0, .int 0, .int 0, .int 0, .int (-1), .int 0, .int 0, .int 0, .ref h6, .ref h7, .ref h8, .ref h9, .ref h10, .ref h11, .int 0, .int 0, .int 0, .int 0, .ref h12, .ref h13, .ref h14, .int 0, .int 0, .int 0, .int 0, .ref h15, .ref h16, .int 0, .ref h17, .ref h18, .int 0, .ref h19, .int 0, .ref h20, .ref h21, .ref h22, .int 0, .ref h23, .ref h24, .ref h25]))] s.heap A s.heap [] := ⟨_, Wd⟩
  refine k_locals (Nat.le_of_ble_eq_true rfl) [(0, .ref h0)] rfl (fun ls hl => ?_)
  refine lv_iconst (v := 0) C.1 C.2.1 dX12_parts_0 (by decide) ?_
  refine lv_istore_n (lv' := [(1, .int 0), (0, .ref h0)]) C.1 C.2.1 dX12_parts_1 rfl hl (by decide) rfl (fun ls hl => ?_)
  refine lv_iconst (v := 0) C.1 C.2.1 dX12_parts_2 (by decide) ?_
  refine lv_istore_n (lv' := [(2, .int 0), (1, .int 0), (0, .ref h0)]) C.1 C.2.1 dX12_parts_3 rfl hl (by decide) rfl (fun ls hl => ?_)
  refine lv_iload_n C.1 C.2.1 dX12_parts_4 rfl (lv_at hl 0 rfl) ?_
  refine lv_aload_n C.1 C.2.1 dX12_parts_5 rfl (lv_at hl 2 rfl) ?_
  refine k_get C Wd KX12 0 4 rfl (by decide) fl_X12_98 rfl dX12_parts_6 ?_
  refine lv_icmp_ge (tgt := 39) C.1 C.2.1 dX12_parts_9 (by decide) (fun _ => ?_) (fun c4365 => absurd c4365 (by decide))
  refine lv_iload_n C.1 C.2.1 dX12_parts_39 rfl (lv_at hl 1 rfl) ?_
  exact k_zretP C hr hlk rfl rfl dX12_parts_40
set_option maxHeartbeats 4000000 in
set_option maxRecDepth 100000 in
theorem kcX12_statements_v1 (l : Launch) (D : va_G) (h0 h1 h2 h3 h4 h5 h6 h7 h8 h9 h10 h11 h12 h13 h14 h15 h16 h17 h18 h19 h20 h21 h22 h23 h24 h25 : Nat) (sz : Nat)  : Met l yX12_statements (Cond.code yX12_statements cX12_statements 3 (some .int) :: gG) { frames := 1, cells := 0, slots := 0, locals := 64 } (cPre D [] [(h0, .inr (12, [.ref h1, .ref h2, .ref h3, .ref h4, .int 0, .int 0, .ref h5, .int 0, .int 0, .int 0, .int 0, .int 0, .int 0, .int 0, .int 0, .int 0, .int 0, .int 0, .int 0, .int 0, .int (-1), .int 0, .int 0, .int 0, .ref h6, .ref h7, .ref h8, .ref h9, .ref h10, .ref h11, .int 0, .int 0, .int 0, .int 0, .ref h12, .ref h13, .ref h14, .int 0, .int 0, .int 0, .int 0, .ref h15, .ref h16, .int 0, .ref h17, .ref h18, .int 0, .ref h19, .int 0, .ref h20, .ref h21, .ref h22, .int 0, .ref h23, .ref h24, .ref h25]))] sz [.ref h0]) (vp_Si (fun r => r = 0)) 0 0 (fun _ => False) := by
  refine Met.ofW (cc := cX12_statements) (maxL := 3) (ret := (some .int)) (by decide) rfl ?_
  intro p e s m args below meth c s₁ B hml hv
  obtain ⟨rfl, aks, rfl, Wd⟩ := k_enter hv
  have C : CallFix p m c cX12_statements 3 s _ gG RX12 := ⟨B.exec, B.bytes, hml, findClass_of_methodNamed B.named, fun w h => atoms_spec (ws := Cond.code yX12_statements cX12_statements 3 (some .int) :: gG) B.pre w (List.mem_cons_of_mem _ h)⟩
  have hr := B.returns
  have hlk := B.notSynchronized
  obtain ⟨A, Wd⟩ : ∃ A, wX D [] s [(h0, .inr (12, [.ref h1, .ref h2, .ref h3, .ref h4, .int 0, .int 0, .ref h5, .int 0, .int 0, .int 0, .int 0, .int 0, .int 0, .int 0, .int 0, .int 0, .int 0, .int 0, .int 0, .int 0, .int (-1), .int 0, .int 0, .int 0, .ref h6, .ref h7, .ref h8, .ref h9, .ref h10, .ref h11, .int 0, .int 0, .int 0, .int 0, .ref h12, .ref h13, .ref h14, .int 0, .int 0, .int 0, .int 0, .ref h15, .ref h16, .int 0, .ref h17, .ref h18, .int 0, .ref h19, .int 0, .ref h20, .ref h21, .ref h22, .int 0, .ref h23, .ref h24, .ref h25]))] s.heap A s.heap [] := ⟨_, Wd⟩
  refine k_locals (Nat.le_of_ble_eq_true rfl) [(0, .ref h0)] rfl (fun ls hl => ?_)
  refine lv_iconst (v := 0) C.1 C.2.1 dX12_statements_0 (by decide) ?_
  refine lv_istore_n (lv' := [(1, .int 0), (0, .ref h0)]) C.1 C.2.1 dX12_statements_1 rfl hl (by decide) rfl (fun ls hl => ?_)
  refine lv_iconst (v := 0) C.1 C.2.1 dX12_statements_2 (by decide) ?_
  refine lv_istore_n (lv' := [(2, .int 0), (1, .int 0), (0, .ref h0)]) C.1 C.2.1 dX12_statements_3 rfl hl (by decide) rfl (fun ls hl => ?_)
  refine lv_iload_n C.1 C.2.1 dX12_statements_4 rfl (lv_at hl 0 rfl) ?_
  refine lv_aload_n C.1 C.2.1 dX12_statements_5 rfl (lv_at hl 2 rfl) ?_
  refine k_get C Wd KX12 0 4 rfl (by decide) fl_X12_98 rfl dX12_statements_6 ?_
  refine lv_icmp_ge (tgt := 38) C.1 C.2.1 dX12_statements_9 (by decide) (fun _ => ?_) (fun c4368 => absurd c4368 (by decide))
  refine lv_iload_n C.1 C.2.1 dX12_statements_38 rfl (lv_at hl 1 rfl) ?_
  exact k_zretP C hr hlk rfl rfl dX12_statements_39
set_option maxHeartbeats 4000000 in
set_option maxRecDepth 100000 in
theorem kcX12_size (l : Launch) (D : va_G) (h0 h1 h2 h3 h4 h5 h6 h7 h8 h9 h10 h11 h12 h13 h14 h15 h16 h17 h18 h19 h20 h21 h22 h23 h24 h25 : Nat) (x0 x1 : Int32) (a1 : ClassId) (sz : Nat)  : Met l yX12_size (Cond.code yX12_size cX12_size 3 (some .int) :: gG) { frames := 3, cells := 0, slots := 0, locals := 107 } (cPre D [(a1, .int)] [(h0, .inr (12, [.ref h1, .ref h2, .ref h3, .ref h4, .int 0, .int 0, .ref h5, .int 0, .int 0, .int 0, .int 0, .int 0, .int 0, .int 0, .int 0, .int 0, .int 0, .int 0, .int 0, .int 0, .int (-1), .int 0, .int 0, .int 0, .ref h6, .ref h7, .ref h8, .ref h9, .ref h10, .ref h11, .int 0, .int 0, .int 0, .int 0, .ref h12, .ref h13, .ref h14, .int 0, .int 0, .int 0, .int 0, .ref h15, .ref h16, .int 0, .ref h17, .ref h18, .int 0, .ref h19, .int 0, .ref h20, .ref h21, .ref h22, .int 0, .ref h23, .ref h24, .ref h25])), (h2, .inl (a1, 6, .inl (fun _ => 0)))] sz [.ref h0, .int x0, .int x1]) (va_Qi (fun (r : Int32) (_ : Unit) => (x0 < (0 : Int32) ∧ r = (-1)) ∨ (¬ x0 < (0 : Int32) ∧ (5 : Int32) < x0 ∧ r = (-1)) ∨ (¬ x0 < (0 : Int32) ∧ ¬ (5 : Int32) < x0 ∧ x1 < (0 : Int32) ∧ r = (-1)) ∨ (¬ x0 < (0 : Int32) ∧ ¬ (5 : Int32) < x0 ∧ ¬ x1 < (0 : Int32) ∧ (3 : Int32) < x1 ∧ r = (-1)) ∨ (¬ x0 < (0 : Int32) ∧ ¬ (5 : Int32) < x0 ∧ ¬ x1 < (0 : Int32) ∧ ¬ (3 : Int32) < x1 ∧ ¬ x1 = (0 : Int32) ∧ ¬ x1 = (1 : Int32) ∧ ¬ x1 = (2 : Int32) ∧ r = 0) ∨ (¬ x0 < (0 : Int32) ∧ ¬ (5 : Int32) < x0 ∧ ¬ x1 < (0 : Int32) ∧ ¬ (3 : Int32) < x1 ∧ ¬ x1 = (0 : Int32) ∧ ¬ x1 = (1 : Int32) ∧ x1 = (2 : Int32) ∧ r = 0) ∨ (¬ x0 < (0 : Int32) ∧ ¬ (5 : Int32) < x0 ∧ ¬ x1 < (0 : Int32) ∧ ¬ (3 : Int32) < x1 ∧ ¬ x1 = (0 : Int32) ∧ x1 = (1 : Int32) ∧ r = 0) ∨ (¬ x0 < (0 : Int32) ∧ ¬ (5 : Int32) < x0 ∧ ¬ x1 < (0 : Int32) ∧ ¬ (3 : Int32) < x1 ∧ x1 = (0 : Int32) ∧ r = 0)) (fun u t => cB D (va_A [(h0, .inr (12, [.ref h1, .ref h2, .ref h3, .ref h4, .int 0, .int 0, .ref h5, .int 0, .int 0, .int 0, .int 0, .int 0, .int 0, .int 0, .int 0, .int 0, .int 0, .int 0, .int 0, .int 0, .int (-1), .int 0, .int 0, .int 0, .ref h6, .ref h7, .ref h8, .ref h9, .ref h10, .ref h11, .int 0, .int 0, .int 0, .int 0, .ref h12, .ref h13, .ref h14, .int 0, .int 0, .int 0, .int 0, .ref h15, .ref h16, .int 0, .ref h17, .ref h18, .int 0, .ref h19, .int 0, .ref h20, .ref h21, .ref h22, .int 0, .ref h23, .ref h24, .ref h25])), (h2, .inl (a1, 6, .inl (fun _ => 0)))] sz) ((fun (_ : Unit) => ([] : List (ClassId × FieldType))) u) ((fun (_ : Unit) => ([] : va_W)) u) t) (va_A [(h0, .inr (12, [.ref h1, .ref h2, .ref h3, .ref h4, .int 0, .int 0, .ref h5, .int 0, .int 0, .int 0, .int 0, .int 0, .int 0, .int 0, .int 0, .int 0, .int 0, .int 0, .int 0, .int 0, .int (-1), .int 0, .int 0, .int 0, .ref h6, .ref h7, .ref h8, .ref h9, .ref h10, .ref h11, .int 0, .int 0, .int 0, .int 0, .ref h12, .ref h13, .ref h14, .int 0, .int 0, .int 0, .int 0, .ref h15, .ref h16, .int 0, .ref h17, .ref h18, .int 0, .ref h19, .int 0, .ref h20, .ref h21, .ref h22, .int 0, .ref h23, .ref h24, .ref h25])), (h2, .inl (a1, 6, .inl (fun _ => 0)))] sz)) 0 0 (va_A [(h0, .inr (12, [.ref h1, .ref h2, .ref h3, .ref h4, .int 0, .int 0, .ref h5, .int 0, .int 0, .int 0, .int 0, .int 0, .int 0, .int 0, .int 0, .int 0, .int 0, .int 0, .int 0, .int 0, .int (-1), .int 0, .int 0, .int 0, .ref h6, .ref h7, .ref h8, .ref h9, .ref h10, .ref h11, .int 0, .int 0, .int 0, .int 0, .ref h12, .ref h13, .ref h14, .int 0, .int 0, .int 0, .int 0, .ref h15, .ref h16, .int 0, .ref h17, .ref h18, .int 0, .ref h19, .int 0, .ref h20, .ref h21, .ref h22, .int 0, .ref h23, .ref h24, .ref h25])), (h2, .inl (a1, 6, .inl (fun _ => 0)))] sz) := by
  refine Met.ofW (cc := cX12_size) (maxL := 3) (ret := (some .int)) (by decide) rfl ?_
  intro p e s m args below meth c s₁ B hml hv
  obtain ⟨rfl, aks, rfl, Wd⟩ := k_enter hv
  have C : CallFix p m c cX12_size 3 s _ gG RX12 := ⟨B.exec, B.bytes, hml, findClass_of_methodNamed B.named, fun w h => atoms_spec (ws := Cond.code yX12_size cX12_size 3 (some .int) :: gG) B.pre w (List.mem_cons_of_mem _ h)⟩
  have hr := B.returns
  have hlk := B.notSynchronized
  generalize va_A [(h0, .inr (12, [.ref h1, .ref h2, .ref h3, .ref h4, .int 0, .int 0, .ref h5, .int 0, .int 0, .int 0, .int 0, .int 0, .int 0, .int 0, .int 0, .int 0, .int 0, .int 0, .int 0, .int 0, .int (-1), .int 0, .int 0, .int 0, .ref h6, .ref h7, .ref h8, .ref h9, .ref h10, .ref h11, .int 0, .int 0, .int 0, .int 0, .ref h12, .ref h13, .ref h14, .int 0, .int 0, .int 0, .int 0, .ref h15, .ref h16, .int 0, .ref h17, .ref h18, .int 0, .ref h19, .int 0, .ref h20, .ref h21, .ref h22, .int 0, .ref h23, .ref h24, .ref h25])), (h2, .inl (a1, 6, .inl (fun _ => 0)))] s.heap.size = A at Wd ⊢
  refine k_locals (Nat.le_of_ble_eq_true rfl) [(0, .ref h0), (1, .int x0), (2, .int x1)] rfl (fun ls hl => ?_)
  refine lv_iload_n C.1 C.2.1 dX12_size_0 rfl (lv_at hl 1 rfl) ?_
  refine k_pi (k_runS (rest := []) C aks Wd cs_X12_249 (kcX12_isSlot l D x0 _ ) [] rfl (by decide) [] rfl rfl rfl ⟨(Nat.le_of_ble_eq_true rfl), (Nat.le_of_ble_eq_true rfl)⟩ hl.1 rfl rfl (Nat.le_of_ble_eq_true rfl) ⟨(Nat.le_of_ble_eq_true rfl), (Nat.le_of_ble_eq_true rfl)⟩ dX12_size_1) (fun r w4370 => ?_)
  rcases w4370 with ⟨c4371, rfl⟩ | ⟨c4372, c4373, rfl⟩ | ⟨c4374, c4375, rfl⟩
  · refine lv_if_eq (tgt := 16) C.1 C.2.1 dX12_size_4 (by decide) (fun _ => ?_) (fun c4376 => absurd c4376 (by decide))
    refine lv_iconst (v := (-1)) C.1 C.2.1 dX12_size_16 (by decide) ?_
    exact k_zret C hr hlk rfl Wd () (Or.inl (⟨c4371, rfl⟩)) [] rfl (by decide) [] rfl (by decide) (by decide) dX12_size_17
  · refine lv_if_eq (tgt := 16) C.1 C.2.1 dX12_size_4 (by decide) (fun _ => ?_) (fun c4377 => absurd c4377 (by decide))
    refine lv_iconst (v := (-1)) C.1 C.2.1 dX12_size_16 (by decide) ?_
    exact k_zret C hr hlk rfl Wd () (Or.inr (Or.inl (⟨c4372, c4373, rfl⟩))) [] rfl (by decide) [] rfl (by decide) (by decide) dX12_size_17
  · refine lv_if_eq (tgt := 16) C.1 C.2.1 dX12_size_4 (by decide) (fun c4378 => absurd c4378 (by decide)) (fun _ => ?_)
    refine lv_iload_n C.1 C.2.1 dX12_size_7 rfl (lv_at hl 2 rfl) ?_
    refine lv_iconst (v := 0) C.1 C.2.1 dX12_size_8 (by decide) ?_
    refine lv_iconst (v := 3) C.1 C.2.1 dX12_size_9 (by decide) ?_
    refine k_pi (k_runS (rest := []) C aks Wd cs_X12_90 (kcX12_isIn l D x1 0 3 _ ) [] rfl (by decide) [] rfl rfl rfl ⟨(Nat.le_of_ble_eq_true rfl), (Nat.le_of_ble_eq_true rfl)⟩ hl.1 rfl rfl (Nat.le_of_ble_eq_true rfl) ⟨(Nat.le_of_ble_eq_true rfl), (Nat.le_of_ble_eq_true rfl)⟩ dX12_size_10) (fun r w4379 => ?_)
    rcases w4379 with ⟨c4380, rfl⟩ | ⟨c4381, c4382, rfl⟩ | ⟨c4383, c4384, rfl⟩
    · refine lv_if_ne (tgt := 18) C.1 C.2.1 dX12_size_13 (by decide) (fun c4385 => absurd c4385 (by decide)) (fun _ => ?_)
      refine lv_iconst (v := (-1)) C.1 C.2.1 dX12_size_16 (by decide) ?_
      exact k_zret C hr hlk rfl Wd () (Or.inr (Or.inr (Or.inl (⟨c4374, c4375, c4380, rfl⟩)))) [] rfl (by decide) [] rfl (by decide) (by decide) dX12_size_17
    · refine lv_if_ne (tgt := 18) C.1 C.2.1 dX12_size_13 (by decide) (fun c4386 => absurd c4386 (by decide)) (fun _ => ?_)
      refine lv_iconst (v := (-1)) C.1 C.2.1 dX12_size_16 (by decide) ?_
      exact k_zret C hr hlk rfl Wd () (Or.inr (Or.inr (Or.inr (Or.inl (⟨c4374, c4375, c4381, c4382, rfl⟩))))) [] rfl (by decide) [] rfl (by decide) (by decide) dX12_size_17
    · refine lv_if_ne (tgt := 18) C.1 C.2.1 dX12_size_13 (by decide) (fun _ => ?_) (fun c4387 => absurd c4387 (by decide))
      refine lv_aload_n C.1 C.2.1 dX12_size_18 rfl (lv_at hl 0 rfl) ?_
      refine lv_iload_n C.1 C.2.1 dX12_size_19 rfl (lv_at hl 1 rfl) ?_
      refine k_cv Wd [0, 1] [] rfl (wr := []) rfl (by decide) (by decide) (cells' := 0) (slots' := 0) (by decide) (by decide) (k_runV (rest := []) C aks Wd cs_X12_271 (kcX12_takes l D h0 h1 h2 h3 h4 h5 h6 h7 h8 h9 h10 h11 h12 h13 h14 h15 h16 h17 h18 h19 h20 h21 h22 h23 h24 h25 x0 a1 _ c4374 c4375) [0, 1] rfl (by decide) [0] rfl 0 12 rfl rfl rfl rfl rfl ⟨(Nat.le_of_ble_eq_true rfl), (Nat.le_of_ble_eq_true rfl)⟩ hl.1 rfl rfl (Nat.le_of_ble_eq_true rfl) ⟨(Nat.le_of_ble_eq_true rfl), (Nat.le_of_ble_eq_true rfl)⟩ dX12_size_20) (fun _ H locs w4388 Wd => ?_)
      have Wd : wX D [(a1, .int)] s [(h0, .inr (12, [.ref h1, .ref h2, .ref h3, .ref h4, .int 0, .int 0, .ref h5, .int 0, .int 0, .int 0, .int 0, .int 0, .int 0, .int 0, .int 0, .int 0, .int 0, .int 0, .int 0, .int 0, .int (-1), .int 0, .int 0, .int 0, .ref h6, .ref h7, .ref h8, .ref h9, .ref h10, .ref h11, .int 0, .int 0, .int 0, .int 0, .ref h12, .ref h13, .ref h14, .int 0, .int 0, .int 0, .int 0, .ref h15, .ref h16, .int 0, .ref h17, .ref h18, .int 0, .ref h19, .int 0, .ref h20, .ref h21, .ref h22, .int 0, .ref h23, .ref h24, .ref h25])), (h2, .inl (a1, 6, .inl (fun _ => 0)))] _ A s.heap _ := Wd
      refine lv_iload_n C.1 C.2.1 dX12_size_23 rfl (lv_at hl 2 rfl) ?_
      refine lv_if_ne (tgt := 34) C.1 C.2.1 dX12_size_24 (by decide) (fun c4389 => ?_) (fun c4389 => ?_)
      · refine lv_iload_n C.1 C.2.1 dX12_size_34 rfl (lv_at hl 2 rfl) ?_
        refine lv_iconst (v := 1) C.1 C.2.1 dX12_size_35 (by decide) ?_
        refine lv_icmp_ne (tgt := 46) C.1 C.2.1 dX12_size_36 (by decide) (fun c4390 => ?_) (fun c4390 => ?_)
        · refine lv_iload_n C.1 C.2.1 dX12_size_46 rfl (lv_at hl 2 rfl) ?_
          refine lv_iconst (v := 2) C.1 C.2.1 dX12_size_47 (by decide) ?_
          refine lv_icmp_ne (tgt := 58) C.1 C.2.1 dX12_size_48 (by decide) (fun c4391 => ?_) (fun c4391 => ?_)
          · refine lv_aload_n C.1 C.2.1 dX12_size_58 rfl (lv_at hl 0 rfl) ?_
            refine lv_iconst (v := 0) C.1 C.2.1 dX12_size_59 (by decide) ?_
            refine lv_iconst (v := 0) C.1 C.2.1 dX12_size_60 (by decide) ?_
            refine k_pi (k_runV (rest := []) C aks Wd cs_X12_277 (kcX12_liveFrom l D h0 h1 h2 h3 h4 h5 h6 h7 h8 h9 h10 h11 h12 h13 h14 h15 h16 h17 h18 h19 h20 h21 h22 h23 h24 h25 _ ) [0] rfl (by decide) [] rfl 0 12 rfl rfl rfl rfl rfl ⟨(Nat.le_of_ble_eq_true rfl), (Nat.le_of_ble_eq_true rfl)⟩ hl.1 rfl rfl (Nat.le_of_ble_eq_true rfl) ⟨(Nat.le_of_ble_eq_true rfl), (Nat.le_of_ble_eq_true rfl)⟩ dX12_size_61) (fun r w4392 => ?_)
            obtain rfl := w4392
            exact k_zret C hr hlk rfl Wd () (Or.inr (Or.inr (Or.inr (Or.inr (Or.inl (⟨c4374, c4375, c4383, c4384, c4389, c4390, c4391, rfl⟩)))))) [] rfl (by decide) [] rfl (by decide) (by decide) dX12_size_64
          · subst c4391
            refine lv_aload_n C.1 C.2.1 dX12_size_51 rfl (lv_at hl 0 rfl) ?_
            refine k_get C Wd KX12 0 4 rfl (by decide) fl_X12_98 rfl dX12_size_52 ?_
            refine lv_goto (tgt := 64) C.1 C.2.1 dX12_size_55 (by decide) ?_
            exact k_zret C hr hlk rfl Wd () (Or.inr (Or.inr (Or.inr (Or.inr (Or.inr (Or.inl (⟨c4374, c4375, c4383, c4384, c4389, c4390, rfl, rfl⟩))))))) [] rfl (by decide) [] rfl (by decide) (by decide) dX12_size_64
        · subst c4390
          refine lv_aload_n C.1 C.2.1 dX12_size_39 rfl (lv_at hl 0 rfl) ?_
          refine k_pi (k_runV (rest := []) C aks Wd cs_X12_274 (kcX12_parts l D h0 h1 h2 h3 h4 h5 h6 h7 h8 h9 h10 h11 h12 h13 h14 h15 h16 h17 h18 h19 h20 h21 h22 h23 h24 h25 _ ) [0] rfl (by decide) [] rfl 0 12 rfl rfl rfl rfl rfl ⟨(Nat.le_of_ble_eq_true rfl), (Nat.le_of_ble_eq_true rfl)⟩ hl.1 rfl rfl (Nat.le_of_ble_eq_true rfl) ⟨(Nat.le_of_ble_eq_true rfl), (Nat.le_of_ble_eq_true rfl)⟩ dX12_size_40) (fun r w4393 => ?_)
          obtain rfl := w4393
          refine lv_goto (tgt := 64) C.1 C.2.1 dX12_size_43 (by decide) ?_
          exact k_zret C hr hlk rfl Wd () (Or.inr (Or.inr (Or.inr (Or.inr (Or.inr (Or.inr (Or.inl (⟨c4374, c4375, c4383, c4384, c4389, rfl, rfl⟩)))))))) [] rfl (by decide) [] rfl (by decide) (by decide) dX12_size_64
      · subst c4389
        refine lv_aload_n C.1 C.2.1 dX12_size_27 rfl (lv_at hl 0 rfl) ?_
        refine k_pi (k_runV (rest := []) C aks Wd cs_X12_265 (kcX12_statements_v1 l D h0 h1 h2 h3 h4 h5 h6 h7 h8 h9 h10 h11 h12 h13 h14 h15 h16 h17 h18 h19 h20 h21 h22 h23 h24 h25 _ ) [0] rfl (by decide) [] rfl 0 12 rfl rfl rfl rfl rfl ⟨(Nat.le_of_ble_eq_true rfl), (Nat.le_of_ble_eq_true rfl)⟩ hl.1 rfl rfl (Nat.le_of_ble_eq_true rfl) ⟨(Nat.le_of_ble_eq_true rfl), (Nat.le_of_ble_eq_true rfl)⟩ dX12_size_28) (fun r w4394 => ?_)
        obtain rfl := w4394
        refine lv_goto (tgt := 64) C.1 C.2.1 dX12_size_31 (by decide) ?_
        exact k_zret C hr hlk rfl Wd () (Or.inr (Or.inr (Or.inr (Or.inr (Or.inr (Or.inr (Or.inr (⟨c4374, c4375, c4383, c4384, rfl, rfl⟩)))))))) [] rfl (by decide) [] rfl (by decide) (by decide) dX12_size_64
set_option maxHeartbeats 4000000 in
set_option maxRecDepth 100000 in
theorem kcX12_does (l : Launch) (D : va_G) (h0 h1 h2 h3 h4 h5 h6 h7 h8 h9 h10 h11 h12 h13 h14 h15 h16 h17 h18 h19 h20 h21 h22 h23 h24 h25 : Nat) (sz : Nat)  : Met l yX12_does (Cond.code yX12_does cX12_does 3 (some .boolean) :: gG) { frames := 2, cells := 0, slots := 0, locals := 85 } (cPre D [] [(h0, .inr (12, [.ref h1, .ref h2, .ref h3, .ref h4, .int 0, .int 0, .ref h5, .int 0, .int 0, .int 0, .int 0, .int 0, .int 0, .int 0, .int 0, .int 0, .int 0, .int 0, .int 0, .int 0, .int (-1), .int 0, .int 0, .int 0, .ref h6, .ref h7, .ref h8, .ref h9, .ref h10, .ref h11, .int 0, .int 0, .int 0, .int 0, .ref h12, .ref h13, .ref h14, .int 0, .int 0, .int 0, .int 0, .ref h15, .ref h16, .int 0, .ref h17, .ref h18, .int 0, .ref h19, .int 0, .ref h20, .ref h21, .ref h22, .int 0, .ref h23, .ref h24, .ref h25]))] sz [.ref h0, .int 0]) (vp_Si (fun r => r = 1)) 0 0 (fun _ => False) := by
  refine Met.ofW (cc := cX12_does) (maxL := 3) (ret := (some .boolean)) (by decide) rfl ?_
  intro p e s m args below meth c s₁ B hml hv
  obtain ⟨rfl, aks, rfl, Wd⟩ := k_enter hv
  have C : CallFix p m c cX12_does 3 s _ gG RX12 := ⟨B.exec, B.bytes, hml, findClass_of_methodNamed B.named, fun w h => atoms_spec (ws := Cond.code yX12_does cX12_does 3 (some .boolean) :: gG) B.pre w (List.mem_cons_of_mem _ h)⟩
  have hr := B.returns
  have hlk := B.notSynchronized
  obtain ⟨A, Wd⟩ : ∃ A, wX D [] s [(h0, .inr (12, [.ref h1, .ref h2, .ref h3, .ref h4, .int 0, .int 0, .ref h5, .int 0, .int 0, .int 0, .int 0, .int 0, .int 0, .int 0, .int 0, .int 0, .int 0, .int 0, .int 0, .int 0, .int (-1), .int 0, .int 0, .int 0, .ref h6, .ref h7, .ref h8, .ref h9, .ref h10, .ref h11, .int 0, .int 0, .int 0, .int 0, .ref h12, .ref h13, .ref h14, .int 0, .int 0, .int 0, .int 0, .ref h15, .ref h16, .int 0, .ref h17, .ref h18, .int 0, .ref h19, .int 0, .ref h20, .ref h21, .ref h22, .int 0, .ref h23, .ref h24, .ref h25]))] s.heap A s.heap [] := ⟨_, Wd⟩
  refine k_locals (Nat.le_of_ble_eq_true rfl) [(0, .ref h0), (1, .int 0)] rfl (fun ls hl => ?_)
  refine lv_iload_n C.1 C.2.1 dX12_does_0 rfl (lv_at hl 1 rfl) ?_
  refine lv_istore_n (lv' := [(2, .int 0), (0, .ref h0), (1, .int 0)]) C.1 C.2.1 dX12_does_1 rfl hl (by decide) rfl (fun ls hl => ?_)
  refine lv_aload_n C.1 C.2.1 dX12_does_2 rfl (lv_at hl 1 rfl) ?_
  refine lv_iload_n C.1 C.2.1 dX12_does_3 rfl (lv_at hl 0 rfl) ?_
  refine k_pi (k_runV (rest := []) C aks Wd cs_X12_107 (kcX12_isLast l D h0 h1 h2 h3 h4 h5 h6 h7 h8 h9 h10 h11 h12 h13 h14 h15 h16 h17 h18 h19 h20 h21 h22 h23 h24 h25 _ ) [0] rfl (by decide) [] rfl 0 12 rfl rfl rfl rfl rfl ⟨(Nat.le_of_ble_eq_true rfl), (Nat.le_of_ble_eq_true rfl)⟩ hl.1 rfl rfl (Nat.le_of_ble_eq_true rfl) ⟨(Nat.le_of_ble_eq_true rfl), (Nat.le_of_ble_eq_true rfl)⟩ dX12_does_4) (fun r w4443 => ?_)
  obtain rfl := w4443
  refine lv_if_ne (tgt := 29) C.1 C.2.1 dX12_does_7 (by decide) (fun _ => ?_) (fun c4444 => absurd c4444 (by decide))
  refine lv_iconst (v := 1) C.1 C.2.1 dX12_does_29 (by decide) ?_
  exact k_zretP C hr hlk rfl rfl dX12_does_30
set_option maxHeartbeats 4000000 in
set_option maxRecDepth 100000 in
theorem kcX12_runs (l : Launch) (D : va_G) (h0 h1 h2 h3 h4 h5 h6 h7 h8 h9 h10 h11 h12 h13 h14 h15 h16 h17 h18 h19 h20 h21 h22 h23 h24 h25 : Nat) (x0 x1 : Int32) (a9 : ClassId) (sz : Nat)  : Met l yX12_runs (Cond.code yX12_runs cX12_runs 4 none :: gG) { frames := 3, cells := 0, slots := 0, locals := 107 } (cPre D [(a9, .int)] [(h0, .inr (12, [.ref h1, .ref h2, .ref h3, .ref h4, .int 0, .int 0, .ref h5, .int 0, .int 0, .int 0, .int 0, .int 0, .int 0, .int 0, .int 0, .int 0, .int 0, .int 0, .int 0, .int 0, .int (-1), .int 0, .int 0, .int 0, .ref h6, .ref h7, .ref h8, .ref h9, .ref h10, .ref h11, .int 0, .int 0, .int 0, .int 0, .ref h12, .ref h13, .ref h14, .int 0, .int 0, .int 0, .int 0, .ref h15, .ref h16, .int 0, .ref h17, .ref h18, .int 0, .ref h19, .int 0, .ref h20, .ref h21, .ref h22, .int 0, .ref h23, .ref h24, .ref h25])), (h10, .inl (a9, 6, .inl (fun _ => 0)))] sz [.ref h0, .int x0, .int x1]) (va_Qv (fun (_ : Unit) => True) (fun u t => cB D (va_A [(h0, .inr (12, [.ref h1, .ref h2, .ref h3, .ref h4, .int 0, .int 0, .ref h5, .int 0, .int 0, .int 0, .int 0, .int 0, .int 0, .int 0, .int 0, .int 0, .int 0, .int 0, .int 0, .int 0, .int (-1), .int 0, .int 0, .int 0, .ref h6, .ref h7, .ref h8, .ref h9, .ref h10, .ref h11, .int 0, .int 0, .int 0, .int 0, .ref h12, .ref h13, .ref h14, .int 0, .int 0, .int 0, .int 0, .ref h15, .ref h16, .int 0, .ref h17, .ref h18, .int 0, .ref h19, .int 0, .ref h20, .ref h21, .ref h22, .int 0, .ref h23, .ref h24, .ref h25])), (h10, .inl (a9, 6, .inl (fun _ => 0)))] sz) ((fun (_ : Unit) => ([] : List (ClassId × FieldType))) u) ((fun (_ : Unit) => ([(h0, .inr (12, [.ref h1, .ref h2, .ref h3, .ref h4, .int 0, .int 0, .ref h5, .int 0, .int 0, .int 0, .int 0, .int 0, .int 0, .int 0, .int 0, .int 0, .int 0, .int 0, .int 0, .int 0, .int (-1), .int 0, .int 0, .int 0, .ref h6, .ref h7, .ref h8, .ref h9, .ref h10, .ref h11, .int 0, .int 0, .int 0, .int 0, .ref h12, .ref h13, .ref h14, .int 0, .int 0, .int 0, .int 0, .ref h15, .ref h16, .int 0, .ref h17, .ref h18, .int 0, .ref h19, .int 0, .ref h20, .ref h21, .ref h22, .int 0, .ref h23, .ref h24, .ref h25])), (h10, .inl (a9, 6, .inl (upd (upd (upd (upd (upd (upd (fun _ => 0) 0 x0) 1 x1) 2 0) 3 0) 4 0) 5 0)))] : va_W)) u) t) (va_A [(h0, .inr (12, [.ref h1, .ref h2, .ref h3, .ref h4, .int 0, .int 0, .ref h5, .int 0, .int 0, .int 0, .int 0, .int 0, .int 0, .int 0, .int 0, .int 0, .int 0, .int 0, .int 0, .int 0, .int (-1), .int 0, .int 0, .int 0, .ref h6, .ref h7, .ref h8, .ref h9, .ref h10, .ref h11, .int 0, .int 0, .int 0, .int 0, .ref h12, .ref h13, .ref h14, .int 0, .int 0, .int 0, .int 0, .ref h15, .ref h16, .int 0, .ref h17, .ref h18, .int 0, .ref h19, .int 0, .ref h20, .ref h21, .ref h22, .int 0, .ref h23, .ref h24, .ref h25])), (h10, .inl (a9, 6, .inl (fun _ => 0)))] sz)) 0 0 (va_A [(h0, .inr (12, [.ref h1, .ref h2, .ref h3, .ref h4, .int 0, .int 0, .ref h5, .int 0, .int 0, .int 0, .int 0, .int 0, .int 0, .int 0, .int 0, .int 0, .int 0, .int 0, .int 0, .int 0, .int (-1), .int 0, .int 0, .int 0, .ref h6, .ref h7, .ref h8, .ref h9, .ref h10, .ref h11, .int 0, .int 0, .int 0, .int 0, .ref h12, .ref h13, .ref h14, .int 0, .int 0, .int 0, .int 0, .ref h15, .ref h16, .int 0, .ref h17, .ref h18, .int 0, .ref h19, .int 0, .ref h20, .ref h21, .ref h22, .int 0, .ref h23, .ref h24, .ref h25])), (h10, .inl (a9, 6, .inl (fun _ => 0)))] sz) := by
  refine Met.ofW (cc := cX12_runs) (maxL := 4) (ret := none) (by decide) rfl ?_
  intro p e s m args below meth c s₁ B hml hv
  obtain ⟨rfl, aks, rfl, Wd⟩ := k_enter hv
  have C : CallFix p m c cX12_runs 4 s _ gG RX12 := ⟨B.exec, B.bytes, hml, findClass_of_methodNamed B.named, fun w h => atoms_spec (ws := Cond.code yX12_runs cX12_runs 4 none :: gG) B.pre w (List.mem_cons_of_mem _ h)⟩
  have hr := B.returns
  have hlk := B.notSynchronized
  generalize va_A [(h0, .inr (12, [.ref h1, .ref h2, .ref h3, .ref h4, .int 0, .int 0, .ref h5, .int 0, .int 0, .int 0, .int 0, .int 0, .int 0, .int 0, .int 0, .int 0, .int 0, .int 0, .int 0, .int 0, .int (-1), .int 0, .int 0, .int 0, .ref h6, .ref h7, .ref h8, .ref h9, .ref h10, .ref h11, .int 0, .int 0, .int 0, .int 0, .ref h12, .ref h13, .ref h14, .int 0, .int 0, .int 0, .int 0, .ref h15, .ref h16, .int 0, .ref h17, .ref h18, .int 0, .ref h19, .int 0, .ref h20, .ref h21, .ref h22, .int 0, .ref h23, .ref h24, .ref h25])), (h10, .inl (a9, 6, .inl (fun _ => 0)))] s.heap.size = A at Wd ⊢
  refine k_locals (Nat.le_of_ble_eq_true rfl) [(0, .ref h0), (1, .int x0), (2, .int x1)] rfl (fun ls hl => ?_)
  refine lv_iconst (v := 0) C.1 C.2.1 dX12_runs_0 (by decide) ?_
  refine lv_istore_n (lv' := [(3, .int 0), (0, .ref h0), (1, .int x0), (2, .int x1)]) C.1 C.2.1 dX12_runs_1 rfl hl (by decide) rfl (fun ls hl => ?_)
  refine lv_iload_n C.1 C.2.1 dX12_runs_2 rfl (lv_at hl 0 rfl) ?_
  refine lv_bipush (v := 6) C.1 C.2.1 dX12_runs_3 (by decide) ?_
  refine lv_icmp_ge (tgt := 38) C.1 C.2.1 dX12_runs_5 (by decide) (fun c4446 => absurd c4446 (by decide)) (fun _ => ?_)
  refine lv_aload_n C.1 C.2.1 dX12_runs_8 rfl (lv_at hl 1 rfl) ?_
  refine k_get C Wd KX12 0 28 rfl (by decide) fl_X12_41 rfl dX12_runs_9 ?_
  refine lv_iload_n C.1 C.2.1 dX12_runs_12 rfl (lv_at hl 0 rfl) ?_
  refine lv_iload_n C.1 C.2.1 dX12_runs_13 rfl (lv_at hl 0 rfl) ?_
  refine lv_if_ne (tgt := 21) C.1 C.2.1 dX12_runs_14 (by decide) (fun c4447 => absurd c4447 (by decide)) (fun _ => ?_)
  refine lv_iload_n C.1 C.2.1 dX12_runs_17 rfl (lv_at hl 2 rfl) ?_
  refine lv_goto (tgt := 31) C.1 C.2.1 dX12_runs_18 (by decide) ?_
  refine k_iast C Wd 1 0 [(h0, .inr (12, [.ref h1, .ref h2, .ref h3, .ref h4, .int 0, .int 0, .ref h5, .int 0, .int 0, .int 0, .int 0, .int 0, .int 0, .int 0, .int 0, .int 0, .int 0, .int 0, .int 0, .int 0, .int (-1), .int 0, .int 0, .int 0, .ref h6, .ref h7, .ref h8, .ref h9, .ref h10, .ref h11, .int 0, .int 0, .int 0, .int 0, .ref h12, .ref h13, .ref h14, .int 0, .int 0, .int 0, .int 0, .ref h15, .ref h16, .int 0, .ref h17, .ref h18, .int 0, .ref h19, .int 0, .ref h20, .ref h21, .ref h22, .int 0, .ref h23, .ref h24, .ref h25])), (h10, .inl (a9, 6, .inl (upd (fun _ => 0) 0 x0)))] rfl rfl (vp_in_iff.mpr (by decide)) rfl rfl dX12_runs_31 (fun H locs Wd => ?_)
  refine lv_iinc (v := 1) (lv' := [(3, .int 1), (0, .ref h0), (1, .int x0), (2, .int x1)]) C.1 C.2.1 dX12_runs_32 hl (k := 0) rfl (by decide) (by decide) rfl (fun ls hl => ?_)
  refine lv_goto (tgt := 2) C.1 C.2.1 dX12_runs_35 (by decide) ?_
  refine lv_iload_n C.1 C.2.1 dX12_runs_2 rfl (lv_at hl 0 rfl) ?_
  refine lv_bipush (v := 6) C.1 C.2.1 dX12_runs_3 (by decide) ?_
  refine lv_icmp_ge (tgt := 38) C.1 C.2.1 dX12_runs_5 (by decide) (fun c4448 => absurd c4448 (by decide)) (fun _ => ?_)
  refine lv_aload_n C.1 C.2.1 dX12_runs_8 rfl (lv_at hl 1 rfl) ?_
  refine k_get C Wd KX12 0 28 rfl (by decide) fl_X12_41 rfl dX12_runs_9 ?_
  refine lv_iload_n C.1 C.2.1 dX12_runs_12 rfl (lv_at hl 0 rfl) ?_
  refine lv_iload_n C.1 C.2.1 dX12_runs_13 rfl (lv_at hl 0 rfl) ?_
  refine lv_if_ne (tgt := 21) C.1 C.2.1 dX12_runs_14 (by decide) (fun _ => ?_) (fun c4449 => absurd c4449 (by decide))
  refine lv_iload_n C.1 C.2.1 dX12_runs_21 rfl (lv_at hl 0 rfl) ?_
  refine lv_iconst (v := 1) C.1 C.2.1 dX12_runs_22 (by decide) ?_
  refine lv_icmp_ne (tgt := 30) C.1 C.2.1 dX12_runs_23 (by decide) (fun c4450 => absurd c4450 (by decide)) (fun _ => ?_)
  refine lv_iload_n C.1 C.2.1 dX12_runs_26 rfl (lv_at hl 3 rfl) ?_
  refine lv_goto (tgt := 31) C.1 C.2.1 dX12_runs_27 (by decide) ?_
  refine k_iast C Wd 1 0 [(h0, .inr (12, [.ref h1, .ref h2, .ref h3, .ref h4, .int 0, .int 0, .ref h5, .int 0, .int 0, .int 0, .int 0, .int 0, .int 0, .int 0, .int 0, .int 0, .int 0, .int 0, .int 0, .int 0, .int (-1), .int 0, .int 0, .int 0, .ref h6, .ref h7, .ref h8, .ref h9, .ref h10, .ref h11, .int 0, .int 0, .int 0, .int 0, .ref h12, .ref h13, .ref h14, .int 0, .int 0, .int 0, .int 0, .ref h15, .ref h16, .int 0, .ref h17, .ref h18, .int 0, .ref h19, .int 0, .ref h20, .ref h21, .ref h22, .int 0, .ref h23, .ref h24, .ref h25])), (h10, .inl (a9, 6, .inl (upd (upd (fun _ => 0) 0 x0) 1 x1)))] rfl rfl (vp_in_iff.mpr (by decide)) rfl rfl dX12_runs_31 (fun H locs Wd => ?_)
  refine lv_iinc (v := 2) (lv' := [(3, .int 2), (0, .ref h0), (1, .int x0), (2, .int x1)]) C.1 C.2.1 dX12_runs_32 hl (k := 0) rfl (by decide) (by decide) rfl (fun ls hl => ?_)
  refine lv_goto (tgt := 2) C.1 C.2.1 dX12_runs_35 (by decide) ?_
  refine lv_iload_n C.1 C.2.1 dX12_runs_2 rfl (lv_at hl 0 rfl) ?_
  refine lv_bipush (v := 6) C.1 C.2.1 dX12_runs_3 (by decide) ?_
  refine lv_icmp_ge (tgt := 38) C.1 C.2.1 dX12_runs_5 (by decide) (fun c4451 => absurd c4451 (by decide)) (fun _ => ?_)
  refine lv_aload_n C.1 C.2.1 dX12_runs_8 rfl (lv_at hl 1 rfl) ?_
  refine k_get C Wd KX12 0 28 rfl (by decide) fl_X12_41 rfl dX12_runs_9 ?_
  refine lv_iload_n C.1 C.2.1 dX12_runs_12 rfl (lv_at hl 0 rfl) ?_
  refine lv_iload_n C.1 C.2.1 dX12_runs_13 rfl (lv_at hl 0 rfl) ?_
  refine lv_if_ne (tgt := 21) C.1 C.2.1 dX12_runs_14 (by decide) (fun _ => ?_) (fun c4452 => absurd c4452 (by decide))
  refine lv_iload_n C.1 C.2.1 dX12_runs_21 rfl (lv_at hl 0 rfl) ?_
  refine lv_iconst (v := 1) C.1 C.2.1 dX12_runs_22 (by decide) ?_
  refine lv_icmp_ne (tgt := 30) C.1 C.2.1 dX12_runs_23 (by decide) (fun _ => ?_) (fun c4453 => absurd c4453 (by decide))
  refine lv_iconst (v := 0) C.1 C.2.1 dX12_runs_30 (by decide) ?_
  refine k_iast C Wd 1 0 [(h0, .inr (12, [.ref h1, .ref h2, .ref h3, .ref h4, .int 0, .int 0, .ref h5, .int 0, .int 0, .int 0, .int 0, .int 0, .int 0, .int 0, .int 0, .int 0, .int 0, .int 0, .int 0, .int 0, .int (-1), .int 0, .int 0, .int 0, .ref h6, .ref h7, .ref h8, .ref h9, .ref h10, .ref h11, .int 0, .int 0, .int 0, .int 0, .ref h12, .ref h13, .ref h14, .int 0, .int 0, .int 0, .int 0, .ref h15, .ref h16, .int 0, .ref h17, .ref h18, .int 0, .ref h19, .int 0, .ref h20, .ref h21, .ref h22, .int 0, .ref h23, .ref h24, .ref h25])), (h10, .inl (a9, 6, .inl (upd (upd (upd (fun _ => 0) 0 x0) 1 x1) 2 0)))] rfl rfl (vp_in_iff.mpr (by decide)) rfl rfl dX12_runs_31 (fun H locs Wd => ?_)
  refine lv_iinc (v := 3) (lv' := [(3, .int 3), (0, .ref h0), (1, .int x0), (2, .int x1)]) C.1 C.2.1 dX12_runs_32 hl (k := 0) rfl (by decide) (by decide) rfl (fun ls hl => ?_)
  refine lv_goto (tgt := 2) C.1 C.2.1 dX12_runs_35 (by decide) ?_
  refine lv_iload_n C.1 C.2.1 dX12_runs_2 rfl (lv_at hl 0 rfl) ?_
  refine lv_bipush (v := 6) C.1 C.2.1 dX12_runs_3 (by decide) ?_
  refine lv_icmp_ge (tgt := 38) C.1 C.2.1 dX12_runs_5 (by decide) (fun c4454 => absurd c4454 (by decide)) (fun _ => ?_)
  refine lv_aload_n C.1 C.2.1 dX12_runs_8 rfl (lv_at hl 1 rfl) ?_
  refine k_get C Wd KX12 0 28 rfl (by decide) fl_X12_41 rfl dX12_runs_9 ?_
  refine lv_iload_n C.1 C.2.1 dX12_runs_12 rfl (lv_at hl 0 rfl) ?_
  refine lv_iload_n C.1 C.2.1 dX12_runs_13 rfl (lv_at hl 0 rfl) ?_
  refine lv_if_ne (tgt := 21) C.1 C.2.1 dX12_runs_14 (by decide) (fun _ => ?_) (fun c4455 => absurd c4455 (by decide))
  refine lv_iload_n C.1 C.2.1 dX12_runs_21 rfl (lv_at hl 0 rfl) ?_
  refine lv_iconst (v := 1) C.1 C.2.1 dX12_runs_22 (by decide) ?_
  refine lv_icmp_ne (tgt := 30) C.1 C.2.1 dX12_runs_23 (by decide) (fun _ => ?_) (fun c4456 => absurd c4456 (by decide))
  refine lv_iconst (v := 0) C.1 C.2.1 dX12_runs_30 (by decide) ?_
  refine k_iast C Wd 1 0 [(h0, .inr (12, [.ref h1, .ref h2, .ref h3, .ref h4, .int 0, .int 0, .ref h5, .int 0, .int 0, .int 0, .int 0, .int 0, .int 0, .int 0, .int 0, .int 0, .int 0, .int 0, .int 0, .int 0, .int (-1), .int 0, .int 0, .int 0, .ref h6, .ref h7, .ref h8, .ref h9, .ref h10, .ref h11, .int 0, .int 0, .int 0, .int 0, .ref h12, .ref h13, .ref h14, .int 0, .int 0, .int 0, .int 0, .ref h15, .ref h16, .int 0, .ref h17, .ref h18, .int 0, .ref h19, .int 0, .ref h20, .ref h21, .ref h22, .int 0, .ref h23, .ref h24, .ref h25])), (h10, .inl (a9, 6, .inl (upd (upd (upd (upd (fun _ => 0) 0 x0) 1 x1) 2 0) 3 0)))] rfl rfl (vp_in_iff.mpr (by decide)) rfl rfl dX12_runs_31 (fun H locs Wd => ?_)
  refine lv_iinc (v := 4) (lv' := [(3, .int 4), (0, .ref h0), (1, .int x0), (2, .int x1)]) C.1 C.2.1 dX12_runs_32 hl (k := 0) rfl (by decide) (by decide) rfl (fun ls hl => ?_)
  refine lv_goto (tgt := 2) C.1 C.2.1 dX12_runs_35 (by decide) ?_
  refine lv_iload_n C.1 C.2.1 dX12_runs_2 rfl (lv_at hl 0 rfl) ?_
  refine lv_bipush (v := 6) C.1 C.2.1 dX12_runs_3 (by decide) ?_
  refine lv_icmp_ge (tgt := 38) C.1 C.2.1 dX12_runs_5 (by decide) (fun c4457 => absurd c4457 (by decide)) (fun _ => ?_)
  refine lv_aload_n C.1 C.2.1 dX12_runs_8 rfl (lv_at hl 1 rfl) ?_
  refine k_get C Wd KX12 0 28 rfl (by decide) fl_X12_41 rfl dX12_runs_9 ?_
  refine lv_iload_n C.1 C.2.1 dX12_runs_12 rfl (lv_at hl 0 rfl) ?_
  refine lv_iload_n C.1 C.2.1 dX12_runs_13 rfl (lv_at hl 0 rfl) ?_
  refine lv_if_ne (tgt := 21) C.1 C.2.1 dX12_runs_14 (by decide) (fun _ => ?_) (fun c4458 => absurd c4458 (by decide))
  refine lv_iload_n C.1 C.2.1 dX12_runs_21 rfl (lv_at hl 0 rfl) ?_
  refine lv_iconst (v := 1) C.1 C.2.1 dX12_runs_22 (by decide) ?_
  refine lv_icmp_ne (tgt := 30) C.1 C.2.1 dX12_runs_23 (by decide) (fun _ => ?_) (fun c4459 => absurd c4459 (by decide))
  refine lv_iconst (v := 0) C.1 C.2.1 dX12_runs_30 (by decide) ?_
  refine k_iast C Wd 1 0 [(h0, .inr (12, [.ref h1, .ref h2, .ref h3, .ref h4, .int 0, .int 0, .ref h5, .int 0, .int 0, .int 0, .int 0, .int 0, .int 0, .int 0, .int 0, .int 0, .int 0, .int 0, .int 0, .int 0, .int (-1), .int 0, .int 0, .int 0, .ref h6, .ref h7, .ref h8, .ref h9, .ref h10, .ref h11, .int 0, .int 0, .int 0, .int 0, .ref h12, .ref h13, .ref h14, .int 0, .int 0, .int 0, .int 0, .ref h15, .ref h16, .int 0, .ref h17, .ref h18, .int 0, .ref h19, .int 0, .ref h20, .ref h21, .ref h22, .int 0, .ref h23, .ref h24, .ref h25])), (h10, .inl (a9, 6, .inl (upd (upd (upd (upd (upd (fun _ => 0) 0 x0) 1 x1) 2 0) 3 0) 4 0)))] rfl rfl (vp_in_iff.mpr (by decide)) rfl rfl dX12_runs_31 (fun H locs Wd => ?_)
  refine lv_iinc (v := 5) (lv' := [(3, .int 5), (0, .ref h0), (1, .int x0), (2, .int x1)]) C.1 C.2.1 dX12_runs_32 hl (k := 0) rfl (by decide) (by decide) rfl (fun ls hl => ?_)
  refine lv_goto (tgt := 2) C.1 C.2.1 dX12_runs_35 (by decide) ?_
  refine lv_iload_n C.1 C.2.1 dX12_runs_2 rfl (lv_at hl 0 rfl) ?_
  refine lv_bipush (v := 6) C.1 C.2.1 dX12_runs_3 (by decide) ?_
  refine lv_icmp_ge (tgt := 38) C.1 C.2.1 dX12_runs_5 (by decide) (fun c4460 => absurd c4460 (by decide)) (fun _ => ?_)
  refine lv_aload_n C.1 C.2.1 dX12_runs_8 rfl (lv_at hl 1 rfl) ?_
  refine k_get C Wd KX12 0 28 rfl (by decide) fl_X12_41 rfl dX12_runs_9 ?_
  refine lv_iload_n C.1 C.2.1 dX12_runs_12 rfl (lv_at hl 0 rfl) ?_
  refine lv_iload_n C.1 C.2.1 dX12_runs_13 rfl (lv_at hl 0 rfl) ?_
  refine lv_if_ne (tgt := 21) C.1 C.2.1 dX12_runs_14 (by decide) (fun _ => ?_) (fun c4461 => absurd c4461 (by decide))
  refine lv_iload_n C.1 C.2.1 dX12_runs_21 rfl (lv_at hl 0 rfl) ?_
  refine lv_iconst (v := 1) C.1 C.2.1 dX12_runs_22 (by decide) ?_
  refine lv_icmp_ne (tgt := 30) C.1 C.2.1 dX12_runs_23 (by decide) (fun _ => ?_) (fun c4462 => absurd c4462 (by decide))
  refine lv_iconst (v := 0) C.1 C.2.1 dX12_runs_30 (by decide) ?_
  refine k_iast C Wd 1 0 [(h0, .inr (12, [.ref h1, .ref h2, .ref h3, .ref h4, .int 0, .int 0, .ref h5, .int 0, .int 0, .int 0, .int 0, .int 0, .int 0, .int 0, .int 0, .int 0, .int 0, .int 0, .int 0, .int 0, .int (-1), .int 0, .int 0, .int 0, .ref h6, .ref h7, .ref h8, .ref h9, .ref h10, .ref h11, .int 0, .int 0, .int 0, .int 0, .ref h12, .ref h13, .ref h14, .int 0, .int 0, .int 0, .int 0, .ref h15, .ref h16, .int 0, .ref h17, .ref h18, .int 0, .ref h19, .int 0, .ref h20, .ref h21, .ref h22, .int 0, .ref h23, .ref h24, .ref h25])), (h10, .inl (a9, 6, .inl (upd (upd (upd (upd (upd (upd (fun _ => 0) 0 x0) 1 x1) 2 0) 3 0) 4 0) 5 0)))] rfl rfl (vp_in_iff.mpr (by decide)) rfl rfl dX12_runs_31 (fun H locs Wd => ?_)
  refine lv_iinc (v := 6) (lv' := [(3, .int 6), (0, .ref h0), (1, .int x0), (2, .int x1)]) C.1 C.2.1 dX12_runs_32 hl (k := 0) rfl (by decide) (by decide) rfl (fun ls hl => ?_)
  refine lv_goto (tgt := 2) C.1 C.2.1 dX12_runs_35 (by decide) ?_
  refine lv_iload_n C.1 C.2.1 dX12_runs_2 rfl (lv_at hl 0 rfl) ?_
  refine lv_bipush (v := 6) C.1 C.2.1 dX12_runs_3 (by decide) ?_
  refine lv_icmp_ge (tgt := 38) C.1 C.2.1 dX12_runs_5 (by decide) (fun _ => ?_) (fun c4463 => absurd c4463 (by decide))
  refine lv_aload_n C.1 C.2.1 dX12_runs_38 rfl (lv_at hl 1 rfl) ?_
  refine lv_iconst (v := 0) C.1 C.2.1 dX12_runs_39 (by decide) ?_
  refine k_put C Wd KX12 0 30 [(h0, .inr (12, [.ref h1, .ref h2, .ref h3, .ref h4, .int 0, .int 0, .ref h5, .int 0, .int 0, .int 0, .int 0, .int 0, .int 0, .int 0, .int 0, .int 0, .int 0, .int 0, .int 0, .int 0, .int (-1), .int 0, .int 0, .int 0, .ref h6, .ref h7, .ref h8, .ref h9, .ref h10, .ref h11, .int 0, .int 0, .int 0, .int 0, .ref h12, .ref h13, .ref h14, .int 0, .int 0, .int 0, .int 0, .ref h15, .ref h16, .int 0, .ref h17, .ref h18, .int 0, .ref h19, .int 0, .ref h20, .ref h21, .ref h22, .int 0, .ref h23, .ref h24, .ref h25])), (h10, .inl (a9, 6, .inl (upd (upd (upd (upd (upd (upd (fun _ => 0) 0 x0) 1 x1) 2 0) 3 0) 4 0) 5 0)))] rfl (by decide) fl_X12_291 rfl rfl rfl (Nat.le_of_ble_eq_true rfl) rfl dX12_runs_40 (fun H locs Wd => ?_)
  refine lv_aload_n C.1 C.2.1 dX12_runs_43 rfl (lv_at hl 1 rfl) ?_
  refine lv_iconst (v := 0) C.1 C.2.1 dX12_runs_44 (by decide) ?_
  refine k_put C Wd KX12 0 31 [(h0, .inr (12, [.ref h1, .ref h2, .ref h3, .ref h4, .int 0, .int 0, .ref h5, .int 0, .int 0, .int 0, .int 0, .int 0, .int 0, .int 0, .int 0, .int 0, .int 0, .int 0, .int 0, .int 0, .int (-1), .int 0, .int 0, .int 0, .ref h6, .ref h7, .ref h8, .ref h9, .ref h10, .ref h11, .int 0, .int 0, .int 0, .int 0, .ref h12, .ref h13, .ref h14, .int 0, .int 0, .int 0, .int 0, .ref h15, .ref h16, .int 0, .ref h17, .ref h18, .int 0, .ref h19, .int 0, .ref h20, .ref h21, .ref h22, .int 0, .ref h23, .ref h24, .ref h25])), (h10, .inl (a9, 6, .inl (upd (upd (upd (upd (upd (upd (fun _ => 0) 0 x0) 1 x1) 2 0) 3 0) 4 0) 5 0)))] rfl (by decide) fl_X12_294 rfl rfl rfl (Nat.le_of_ble_eq_true rfl) rfl dX12_runs_45 (fun H locs Wd => ?_)
  refine lv_aload_n C.1 C.2.1 dX12_runs_48 rfl (lv_at hl 1 rfl) ?_
  refine lv_iconst (v := 0) C.1 C.2.1 dX12_runs_49 (by decide) ?_
  refine k_put C Wd KX12 0 32 [(h0, .inr (12, [.ref h1, .ref h2, .ref h3, .ref h4, .int 0, .int 0, .ref h5, .int 0, .int 0, .int 0, .int 0, .int 0, .int 0, .int 0, .int 0, .int 0, .int 0, .int 0, .int 0, .int 0, .int (-1), .int 0, .int 0, .int 0, .ref h6, .ref h7, .ref h8, .ref h9, .ref h10, .ref h11, .int 0, .int 0, .int 0, .int 0, .ref h12, .ref h13, .ref h14, .int 0, .int 0, .int 0, .int 0, .ref h15, .ref h16, .int 0, .ref h17, .ref h18, .int 0, .ref h19, .int 0, .ref h20, .ref h21, .ref h22, .int 0, .ref h23, .ref h24, .ref h25])), (h10, .inl (a9, 6, .inl (upd (upd (upd (upd (upd (upd (fun _ => 0) 0 x0) 1 x1) 2 0) 3 0) 4 0) 5 0)))] rfl (by decide) fl_X12_312 rfl rfl rfl (Nat.le_of_ble_eq_true rfl) rfl dX12_runs_50 (fun H locs Wd => ?_)
  refine lv_aload_n C.1 C.2.1 dX12_runs_53 rfl (lv_at hl 1 rfl) ?_
  refine lv_iconst (v := 0) C.1 C.2.1 dX12_runs_54 (by decide) ?_
  refine k_pi (k_runV (rest := []) C aks Wd cs_X12_306 (kcX12_does l D h0 h1 h2 h3 h4 h5 h6 h7 h8 h9 h10 h11 h12 h13 h14 h15 h16 h17 h18 h19 h20 h21 h22 h23 h24 h25 _ ) [0] rfl (by decide) [] rfl 0 12 rfl rfl rfl rfl rfl ⟨(Nat.le_of_ble_eq_true rfl), (Nat.le_of_ble_eq_true rfl)⟩ hl.1 rfl rfl (Nat.le_of_ble_eq_true rfl) ⟨(Nat.le_of_ble_eq_true rfl), (Nat.le_of_ble_eq_true rfl)⟩ dX12_runs_55) (fun r w4464 => ?_)
  obtain rfl := w4464
  refine lv_pop C.1 C.2.1 dX12_runs_58 rfl ?_
  exact k_vret C hr hlk Wd () trivial [0, 1] rfl (by decide) [] rfl (by decide) (by decide) dX12_runs_59
set_option maxHeartbeats 4000000 in
set_option maxRecDepth 100000 in
theorem kcX12_run (l : Launch) (D : va_G) (h0 h1 h2 h3 h4 h5 h6 h7 h8 h9 h10 h11 h12 h13 h14 h15 h16 h17 h18 h19 h20 h21 h22 h23 h24 h25 : Nat) (x0 x1 x2 x3 : Int32) (a1 a9 : ClassId) (sz : Nat)  : Met l yX12_run (Cond.code yX12_run cX12_run 5 (some .int) :: gG) { frames := 4, cells := 0, slots := 0, locals := 130 } (cPre D [(a1, .int), (a9, .int)] [(h0, .inr (12, [.ref h1, .ref h2, .ref h3, .ref h4, .int 0, .int 0, .ref h5, .int 0, .int 0, .int 0, .int 0, .int 0, .int 0, .int 0, .int 0, .int 0, .int 0, .int 0, .int 0, .int 0, .int (-1), .int 0, .int 0, .int 0, .ref h6, .ref h7, .ref h8, .ref h9, .ref h10, .ref h11, .int 0, .int 0, .int 0, .int 0, .ref h12, .ref h13, .ref h14, .int 0, .int 0, .int 0, .int 0, .ref h15, .ref h16, .int 0, .ref h17, .ref h18, .int 0, .ref h19, .int 0, .ref h20, .ref h21, .ref h22, .int 0, .ref h23, .ref h24, .ref h25])), (h2, .inl (a1, 6, .inl (fun _ => 0))), (h10, .inl (a9, 6, .inl (fun _ => 0)))] sz [.ref h0, .int x0, .int x1, .int x2, .int x3]) (va_Qi (fun (r : Int32) (_ : Unit) => (x0 < (0 : Int32) ∧ r = (-1)) ∨ (¬ x0 < (0 : Int32) ∧ (5 : Int32) < x0 ∧ r = (-1)) ∨ (¬ x0 < (0 : Int32) ∧ ¬ (5 : Int32) < x0 ∧ x1 < (0 : Int32) ∧ r = (-1)) ∨ (¬ x0 < (0 : Int32) ∧ ¬ (5 : Int32) < x0 ∧ ¬ x1 < (0 : Int32) ∧ (15 : Int32) < x1 ∧ r = (-1)) ∨ (¬ x0 < (0 : Int32) ∧ ¬ (5 : Int32) < x0 ∧ ¬ x1 < (0 : Int32) ∧ ¬ (15 : Int32) < x1 ∧ x2 < (0 : Int32) ∧ r = (-1)) ∨ (¬ x0 < (0 : Int32) ∧ ¬ (5 : Int32) < x0 ∧ ¬ x1 < (0 : Int32) ∧ ¬ (15 : Int32) < x1 ∧ ¬ x2 < (0 : Int32) ∧ (15 : Int32) < x2 ∧ r = (-1)) ∨ (¬ x0 < (0 : Int32) ∧ ¬ (5 : Int32) < x0 ∧ ¬ x1 < (0 : Int32) ∧ ¬ (15 : Int32) < x1 ∧ ¬ x2 < (0 : Int32) ∧ ¬ (15 : Int32) < x2 ∧ x3 < (10 : Int32) ∧ x3 < (100 : Int32) ∧ ¬ x3 = (0 : Int32) ∧ ¬ x3 = (1 : Int32) ∧ ¬ x3 = (2 : Int32) ∧ r = (-1)) ∨ (¬ x0 < (0 : Int32) ∧ ¬ (5 : Int32) < x0 ∧ ¬ x1 < (0 : Int32) ∧ ¬ (15 : Int32) < x1 ∧ ¬ x2 < (0 : Int32) ∧ ¬ (15 : Int32) < x2 ∧ x3 < (10 : Int32) ∧ x3 < (100 : Int32) ∧ ¬ x3 = (0 : Int32) ∧ ¬ x3 = (1 : Int32) ∧ x3 = (2 : Int32) ∧ r = 0) ∨ (¬ x0 < (0 : Int32) ∧ ¬ (5 : Int32) < x0 ∧ ¬ x1 < (0 : Int32) ∧ ¬ (15 : Int32) < x1 ∧ ¬ x2 < (0 : Int32) ∧ ¬ (15 : Int32) < x2 ∧ x3 < (10 : Int32) ∧ x3 < (100 : Int32) ∧ ¬ x3 = (0 : Int32) ∧ x3 = (1 : Int32) ∧ r = 0) ∨ (¬ x0 < (0 : Int32) ∧ ¬ (5 : Int32) < x0 ∧ ¬ x1 < (0 : Int32) ∧ ¬ (15 : Int32) < x1 ∧ ¬ x2 < (0 : Int32) ∧ ¬ (15 : Int32) < x2 ∧ x3 < (10 : Int32) ∧ x3 < (100 : Int32) ∧ x3 = (0 : Int32) ∧ r = 0) ∨ (¬ x0 < (0 : Int32) ∧ ¬ (5 : Int32) < x0 ∧ ¬ x1 < (0 : Int32) ∧ ¬ (15 : Int32) < x1 ∧ ¬ x2 < (0 : Int32) ∧ ¬ (15 : Int32) < x2 ∧ ¬ x3 < (10 : Int32) ∧ (15 : Int32) < x3 ∧ x3 < (100 : Int32) ∧ r = (-1)) ∨ (¬ x0 < (0 : Int32) ∧ ¬ (5 : Int32) < x0 ∧ ¬ x1 < (0 : Int32) ∧ ¬ (15 : Int32) < x1 ∧ ¬ x2 < (0 : Int32) ∧ ¬ (15 : Int32) < x2 ∧ ¬ x3 < (10 : Int32) ∧ (15 : Int32) < x3 ∧ ¬ x3 < (100 : Int32) ∧ (99 : Int32) < x3 ∧ r = (-1)) ∨ (¬ x0 < (0 : Int32) ∧ ¬ (5 : Int32) < x0 ∧ ¬ x1 < (0 : Int32) ∧ ¬ (15 : Int32) < x1 ∧ ¬ x2 < (0 : Int32) ∧ ¬ (15 : Int32) < x2 ∧ ¬ x3 < (10 : Int32) ∧ ¬ (15 : Int32) < x3 ∧ r = ((upd (upd (upd (upd (upd (upd (fun _ => 0) 0 x1) 1 x2) 2 0) 3 0) 4 0) 5 0) (x3 - 10).toNatClampNeg))) (fun u t => cB D (va_A [(h0, .inr (12, [.ref h1, .ref h2, .ref h3, .ref h4, .int 0, .int 0, .ref h5, .int 0, .int 0, .int 0, .int 0, .int 0, .int 0, .int 0, .int 0, .int 0, .int 0, .int 0, .int 0, .int 0, .int (-1), .int 0, .int 0, .int 0, .ref h6, .ref h7, .ref h8, .ref h9, .ref h10, .ref h11, .int 0, .int 0, .int 0, .int 0, .ref h12, .ref h13, .ref h14, .int 0, .int 0, .int 0, .int 0, .ref h15, .ref h16, .int 0, .ref h17, .ref h18, .int 0, .ref h19, .int 0, .ref h20, .ref h21, .ref h22, .int 0, .ref h23, .ref h24, .ref h25])), (h2, .inl (a1, 6, .inl (fun _ => 0))), (h10, .inl (a9, 6, .inl (fun _ => 0)))] sz) ((fun (_ : Unit) => ([] : List (ClassId × FieldType))) u) ((fun (_ : Unit) => ([] : va_W)) u) t) (va_A [(h0, .inr (12, [.ref h1, .ref h2, .ref h3, .ref h4, .int 0, .int 0, .ref h5, .int 0, .int 0, .int 0, .int 0, .int 0, .int 0, .int 0, .int 0, .int 0, .int 0, .int 0, .int 0, .int 0, .int (-1), .int 0, .int 0, .int 0, .ref h6, .ref h7, .ref h8, .ref h9, .ref h10, .ref h11, .int 0, .int 0, .int 0, .int 0, .ref h12, .ref h13, .ref h14, .int 0, .int 0, .int 0, .int 0, .ref h15, .ref h16, .int 0, .ref h17, .ref h18, .int 0, .ref h19, .int 0, .ref h20, .ref h21, .ref h22, .int 0, .ref h23, .ref h24, .ref h25])), (h2, .inl (a1, 6, .inl (fun _ => 0))), (h10, .inl (a9, 6, .inl (fun _ => 0)))] sz)) 0 0 (va_A [(h0, .inr (12, [.ref h1, .ref h2, .ref h3, .ref h4, .int 0, .int 0, .ref h5, .int 0, .int 0, .int 0, .int 0, .int 0, .int 0, .int 0, .int 0, .int 0, .int 0, .int 0, .int 0, .int 0, .int (-1), .int 0, .int 0, .int 0, .ref h6, .ref h7, .ref h8, .ref h9, .ref h10, .ref h11, .int 0, .int 0, .int 0, .int 0, .ref h12, .ref h13, .ref h14, .int 0, .int 0, .int 0, .int 0, .ref h15, .ref h16, .int 0, .ref h17, .ref h18, .int 0, .ref h19, .int 0, .ref h20, .ref h21, .ref h22, .int 0, .ref h23, .ref h24, .ref h25])), (h2, .inl (a1, 6, .inl (fun _ => 0))), (h10, .inl (a9, 6, .inl (fun _ => 0)))] sz) := by
  refine Met.ofW (cc := cX12_run) (maxL := 5) (ret := (some .int)) (by decide) rfl ?_
  intro p e s m args below meth c s₁ B hml hv
  obtain ⟨rfl, aks, rfl, Wd⟩ := k_enter hv
  have C : CallFix p m c cX12_run 5 s _ gG RX12 := ⟨B.exec, B.bytes, hml, findClass_of_methodNamed B.named, fun w h => atoms_spec (ws := Cond.code yX12_run cX12_run 5 (some .int) :: gG) B.pre w (List.mem_cons_of_mem _ h)⟩
  have hr := B.returns
  have hlk := B.notSynchronized
  generalize va_A [(h0, .inr (12, [.ref h1, .ref h2, .ref h3, .ref h4, .int 0, .int 0, .ref h5, .int 0, .int 0, .int 0, .int 0, .int 0, .int 0, .int 0, .int 0, .int 0, .int 0, .int 0, .int 0, .int 0, .int (-1), .int 0, .int 0, .int 0, .ref h6, .ref h7, .ref h8, .ref h9, .ref h10, .ref h11, .int 0, .int 0, .int 0, .int 0, .ref h12, .ref h13, .ref h14, .int 0, .int 0, .int 0, .int 0, .ref h15, .ref h16, .int 0, .ref h17, .ref h18, .int 0, .ref h19, .int 0, .ref h20, .ref h21, .ref h22, .int 0, .ref h23, .ref h24, .ref h25])), (h2, .inl (a1, 6, .inl (fun _ => 0))), (h10, .inl (a9, 6, .inl (fun _ => 0)))] s.heap.size = A at Wd ⊢
  refine k_locals (Nat.le_of_ble_eq_true rfl) [(0, .ref h0), (1, .int x0), (2, .int x1), (3, .int x2), (4, .int x3)] rfl (fun ls hl => ?_)
  refine lv_iload_n C.1 C.2.1 dX12_run_0 rfl (lv_at hl 1 rfl) ?_
  refine k_pi (k_runS (rest := []) C aks Wd cs_X12_249 (kcX12_isSlot l D x0 _ ) [] rfl (by decide) [] rfl rfl rfl ⟨(Nat.le_of_ble_eq_true rfl), (Nat.le_of_ble_eq_true rfl)⟩ hl.1 rfl rfl (Nat.le_of_ble_eq_true rfl) ⟨(Nat.le_of_ble_eq_true rfl), (Nat.le_of_ble_eq_true rfl)⟩ dX12_run_1) (fun r w4499 => ?_)
  rcases w4499 with ⟨c4500, rfl⟩ | ⟨c4501, c4502, rfl⟩ | ⟨c4503, c4504, rfl⟩
  · refine lv_if_eq (tgt := 27) C.1 C.2.1 dX12_run_4 (by decide) (fun _ => ?_) (fun c4505 => absurd c4505 (by decide))
    refine lv_iconst (v := (-1)) C.1 C.2.1 dX12_run_27 (by decide) ?_
    exact k_zret C hr hlk rfl Wd () (Or.inl (⟨c4500, rfl⟩)) [] rfl (by decide) [] rfl (by decide) (by decide) dX12_run_28
  · refine lv_if_eq (tgt := 27) C.1 C.2.1 dX12_run_4 (by decide) (fun _ => ?_) (fun c4506 => absurd c4506 (by decide))
    refine lv_iconst (v := (-1)) C.1 C.2.1 dX12_run_27 (by decide) ?_
    exact k_zret C hr hlk rfl Wd () (Or.inr (Or.inl (⟨c4501, c4502, rfl⟩))) [] rfl (by decide) [] rfl (by decide) (by decide) dX12_run_28
  · refine lv_if_eq (tgt := 27) C.1 C.2.1 dX12_run_4 (by decide) (fun c4507 => absurd c4507 (by decide)) (fun _ => ?_)
    refine lv_iload_n C.1 C.2.1 dX12_run_7 rfl (lv_at hl 2 rfl) ?_
    refine lv_iconst (v := 0) C.1 C.2.1 dX12_run_8 (by decide) ?_
    refine lv_bipush (v := 15) C.1 C.2.1 dX12_run_9 (by decide) ?_
    refine k_pi (k_runS (rest := []) C aks Wd cs_X12_90 (kcX12_isIn l D x1 0 15 _ ) [] rfl (by decide) [] rfl rfl rfl ⟨(Nat.le_of_ble_eq_true rfl), (Nat.le_of_ble_eq_true rfl)⟩ hl.1 rfl rfl (Nat.le_of_ble_eq_true rfl) ⟨(Nat.le_of_ble_eq_true rfl), (Nat.le_of_ble_eq_true rfl)⟩ dX12_run_11) (fun r w4508 => ?_)
    rcases w4508 with ⟨c4509, rfl⟩ | ⟨c4510, c4511, rfl⟩ | ⟨c4512, c4513, rfl⟩
    · refine lv_if_eq (tgt := 27) C.1 C.2.1 dX12_run_14 (by decide) (fun _ => ?_) (fun c4514 => absurd c4514 (by decide))
      refine lv_iconst (v := (-1)) C.1 C.2.1 dX12_run_27 (by decide) ?_
      exact k_zret C hr hlk rfl Wd () (Or.inr (Or.inr (Or.inl (⟨c4503, c4504, c4509, rfl⟩)))) [] rfl (by decide) [] rfl (by decide) (by decide) dX12_run_28
    · refine lv_if_eq (tgt := 27) C.1 C.2.1 dX12_run_14 (by decide) (fun _ => ?_) (fun c4515 => absurd c4515 (by decide))
      refine lv_iconst (v := (-1)) C.1 C.2.1 dX12_run_27 (by decide) ?_
      exact k_zret C hr hlk rfl Wd () (Or.inr (Or.inr (Or.inr (Or.inl (⟨c4503, c4504, c4510, c4511, rfl⟩))))) [] rfl (by decide) [] rfl (by decide) (by decide) dX12_run_28
    · refine lv_if_eq (tgt := 27) C.1 C.2.1 dX12_run_14 (by decide) (fun c4516 => absurd c4516 (by decide)) (fun _ => ?_)
      refine lv_iload_n C.1 C.2.1 dX12_run_17 rfl (lv_at hl 3 rfl) ?_
      refine lv_iconst (v := 0) C.1 C.2.1 dX12_run_18 (by decide) ?_
      refine lv_bipush (v := 15) C.1 C.2.1 dX12_run_19 (by decide) ?_
      refine k_pi (k_runS (rest := []) C aks Wd cs_X12_90 (kcX12_isIn l D x2 0 15 _ ) [] rfl (by decide) [] rfl rfl rfl ⟨(Nat.le_of_ble_eq_true rfl), (Nat.le_of_ble_eq_true rfl)⟩ hl.1 rfl rfl (Nat.le_of_ble_eq_true rfl) ⟨(Nat.le_of_ble_eq_true rfl), (Nat.le_of_ble_eq_true rfl)⟩ dX12_run_21) (fun r w4517 => ?_)
      rcases w4517 with ⟨c4518, rfl⟩ | ⟨c4519, c4520, rfl⟩ | ⟨c4521, c4522, rfl⟩
      · refine lv_if_ne (tgt := 29) C.1 C.2.1 dX12_run_24 (by decide) (fun c4523 => absurd c4523 (by decide)) (fun _ => ?_)
        refine lv_iconst (v := (-1)) C.1 C.2.1 dX12_run_27 (by decide) ?_
        exact k_zret C hr hlk rfl Wd () (Or.inr (Or.inr (Or.inr (Or.inr (Or.inl (⟨c4503, c4504, c4512, c4513, c4518, rfl⟩)))))) [] rfl (by decide) [] rfl (by decide) (by decide) dX12_run_28
      · refine lv_if_ne (tgt := 29) C.1 C.2.1 dX12_run_24 (by decide) (fun c4524 => absurd c4524 (by decide)) (fun _ => ?_)
        refine lv_iconst (v := (-1)) C.1 C.2.1 dX12_run_27 (by decide) ?_
        exact k_zret C hr hlk rfl Wd () (Or.inr (Or.inr (Or.inr (Or.inr (Or.inr (Or.inl (⟨c4503, c4504, c4512, c4513, c4519, c4520, rfl⟩))))))) [] rfl (by decide) [] rfl (by decide) (by decide) dX12_run_28
      · refine lv_if_ne (tgt := 29) C.1 C.2.1 dX12_run_24 (by decide) (fun _ => ?_) (fun c4525 => absurd c4525 (by decide))
        refine lv_aload_n C.1 C.2.1 dX12_run_29 rfl (lv_at hl 0 rfl) ?_
        refine lv_iload_n C.1 C.2.1 dX12_run_30 rfl (lv_at hl 1 rfl) ?_
        refine k_cv Wd [0, 1] [2] rfl (wr := [(h10, .inl (a9, 6, .inl (fun _ => 0)))]) rfl (by decide) (by decide) (cells' := 0) (slots' := 0) (by decide) (by decide) (k_runV (rest := []) C aks Wd cs_X12_271 (kcX12_takes l D h0 h1 h2 h3 h4 h5 h6 h7 h8 h9 h10 h11 h12 h13 h14 h15 h16 h17 h18 h19 h20 h21 h22 h23 h24 h25 x0 a1 _ c4503 c4504) [0, 1] rfl (by decide) [0] rfl 0 12 rfl rfl rfl rfl rfl ⟨(Nat.le_of_ble_eq_true rfl), (Nat.le_of_ble_eq_true rfl)⟩ hl.1 rfl rfl (Nat.le_of_ble_eq_true rfl) ⟨(Nat.le_of_ble_eq_true rfl), (Nat.le_of_ble_eq_true rfl)⟩ dX12_run_31) (fun _ H locs w4526 Wd => ?_)
        have Wd : wX D [(a1, .int), (a9, .int)] s [(h10, .inl (a9, 6, .inl (fun _ => 0))), (h0, .inr (12, [.ref h1, .ref h2, .ref h3, .ref h4, .int 0, .int 0, .ref h5, .int 0, .int 0, .int 0, .int 0, .int 0, .int 0, .int 0, .int 0, .int 0, .int 0, .int 0, .int 0, .int 0, .int (-1), .int 0, .int 0, .int 0, .ref h6, .ref h7, .ref h8, .ref h9, .ref h10, .ref h11, .int 0, .int 0, .int 0, .int 0, .ref h12, .ref h13, .ref h14, .int 0, .int 0, .int 0, .int 0, .ref h15, .ref h16, .int 0, .ref h17, .ref h18, .int 0, .ref h19, .int 0, .ref h20, .ref h21, .ref h22, .int 0, .ref h23, .ref h24, .ref h25])), (h2, .inl (a1, 6, .inl (fun _ => 0)))] _ A s.heap _ := Wd
        refine lv_aload_n C.1 C.2.1 dX12_run_34 rfl (lv_at hl 0 rfl) ?_
        refine lv_iload_n C.1 C.2.1 dX12_run_35 rfl (lv_at hl 2 rfl) ?_
        refine lv_iload_n C.1 C.2.1 dX12_run_36 rfl (lv_at hl 3 rfl) ?_
        refine k_cv Wd [1, 0] [2] rfl (wr := [(h2, .inl (a1, 6, .inl (fun _ => 0)))]) rfl (by decide) (by decide) (cells' := 0) (slots' := 0) (by decide) (by decide) (k_runV (rest := []) C aks Wd cs_X12_315 (kcX12_runs l D h0 h1 h2 h3 h4 h5 h6 h7 h8 h9 h10 h11 h12 h13 h14 h15 h16 h17 h18 h19 h20 h21 h22 h23 h24 h25 x1 x2 a9 _ ) [1, 0] rfl (by decide) [1] rfl 1 12 rfl rfl rfl rfl rfl ⟨(Nat.le_of_ble_eq_true rfl), (Nat.le_of_ble_eq_true rfl)⟩ hl.1 rfl rfl (Nat.le_of_ble_eq_true rfl) ⟨(Nat.le_of_ble_eq_true rfl), (Nat.le_of_ble_eq_true rfl)⟩ dX12_run_37) (fun _ H locs w4527 Wd => ?_)
        have Wd : wX D [(a1, .int), (a9, .int)] s [(h2, .inl (a1, 6, .inl (fun _ => 0))), (h0, .inr (12, [.ref h1, .ref h2, .ref h3, .ref h4, .int 0, .int 0, .ref h5, .int 0, .int 0, .int 0, .int 0, .int 0, .int 0, .int 0, .int 0, .int 0, .int 0, .int 0, .int 0, .int 0, .int (-1), .int 0, .int 0, .int 0, .ref h6, .ref h7, .ref h8, .ref h9, .ref h10, .ref h11, .int 0, .int 0, .int 0, .int 0, .ref h12, .ref h13, .ref h14, .int 0, .int 0, .int 0, .int 0, .ref h15, .ref h16, .int 0, .ref h17, .ref h18, .int 0, .ref h19, .int 0, .ref h20, .ref h21, .ref h22, .int 0, .ref h23, .ref h24, .ref h25])), (h10, .inl (a9, 6, .inl (upd (upd (upd (upd (upd (upd (fun _ => 0) 0 x1) 1 x2) 2 0) 3 0) 4 0) 5 0)))] _ A s.heap _ := Wd
        refine lv_iload C.1 C.2.1 dX12_run_40 (lv_at hl 4 rfl) ?_
        refine lv_bipush (v := 10) C.1 C.2.1 dX12_run_42 (by decide) ?_
        refine lv_bipush (v := 15) C.1 C.2.1 dX12_run_44 (by decide) ?_
        refine k_pi (k_runS (rest := []) C aks Wd cs_X12_90 (kcX12_isIn l D x3 10 15 _ ) [] rfl (by decide) [] rfl rfl rfl ⟨(Nat.le_of_ble_eq_true rfl), (Nat.le_of_ble_eq_true rfl)⟩ hl.1 rfl rfl (Nat.le_of_ble_eq_true rfl) ⟨(Nat.le_of_ble_eq_true rfl), (Nat.le_of_ble_eq_true rfl)⟩ dX12_run_46) (fun r w4528 => ?_)
        rcases w4528 with ⟨c4529, rfl⟩ | ⟨c4530, c4531, rfl⟩ | ⟨c4532, c4533, rfl⟩
        · refine lv_if_eq (tgt := 63) C.1 C.2.1 dX12_run_49 (by decide) (fun _ => ?_) (fun c4534 => absurd c4534 (by decide))
          refine lv_iload C.1 C.2.1 dX12_run_63 (lv_at hl 4 rfl) ?_
          refine lv_bipush (v := 100) C.1 C.2.1 dX12_run_65 (by decide) ?_
          refine lv_bipush (v := 99) C.1 C.2.1 dX12_run_67 (by decide) ?_
          refine lv_aload_n C.1 C.2.1 dX12_run_69 rfl (lv_at hl 0 rfl) ?_
          refine k_get C Wd KX12 1 32 rfl (by decide) fl_X12_312 rfl dX12_run_70 ?_
          refine k_iadd (v := 99) C (by decide) dX12_run_73 ?_
          refine k_pi (k_runS (rest := []) C aks Wd cs_X12_90 (kcX12_isIn l D x3 100 99 _ ) [] rfl (by decide) [] rfl rfl rfl ⟨(Nat.le_of_ble_eq_true rfl), (Nat.le_of_ble_eq_true rfl)⟩ hl.1 rfl rfl (Nat.le_of_ble_eq_true rfl) ⟨(Nat.le_of_ble_eq_true rfl), (Nat.le_of_ble_eq_true rfl)⟩ dX12_run_74) (fun r w4535 => ?_)
          rcases w4535 with ⟨c4536, rfl⟩ | ⟨c4537, c4538, rfl⟩ | ⟨c4539, c4540, rfl⟩
          · refine lv_if_eq (tgt := 91) C.1 C.2.1 dX12_run_77 (by decide) (fun _ => ?_) (fun c4541 => absurd c4541 (by decide))
            refine lv_iload C.1 C.2.1 dX12_run_91 (lv_at hl 4 rfl) ?_
            refine lv_if_ne (tgt := 103) C.1 C.2.1 dX12_run_93 (by decide) (fun c4542 => ?_) (fun c4542 => ?_)
            · refine lv_iload C.1 C.2.1 dX12_run_103 (lv_at hl 4 rfl) ?_
              refine lv_iconst (v := 1) C.1 C.2.1 dX12_run_105 (by decide) ?_
              refine lv_icmp_ne (tgt := 116) C.1 C.2.1 dX12_run_106 (by decide) (fun c4543 => ?_) (fun c4543 => ?_)
              · refine lv_iload C.1 C.2.1 dX12_run_116 (lv_at hl 4 rfl) ?_
                refine lv_iconst (v := 2) C.1 C.2.1 dX12_run_118 (by decide) ?_
                refine lv_icmp_ne (tgt := 129) C.1 C.2.1 dX12_run_119 (by decide) (fun c4544 => ?_) (fun c4544 => ?_)
                · refine lv_iconst (v := (-1)) C.1 C.2.1 dX12_run_129 (by decide) ?_
                  exact k_zret C hr hlk rfl Wd () (Or.inr (Or.inr (Or.inr (Or.inr (Or.inr (Or.inr (Or.inl (⟨c4503, c4504, c4512, c4513, c4521, c4522, c4529, c4536, c4542, c4543, c4544, rfl⟩)))))))) [] rfl (by decide) [] rfl (by decide) (by decide) dX12_run_130
                · subst c4544
                  refine lv_aload_n C.1 C.2.1 dX12_run_122 rfl (lv_at hl 0 rfl) ?_
                  refine k_get C Wd KX12 1 32 rfl (by decide) fl_X12_312 rfl dX12_run_123 ?_
                  refine lv_goto (tgt := 130) C.1 C.2.1 dX12_run_126 (by decide) ?_
                  exact k_zret C hr hlk rfl Wd () (Or.inr (Or.inr (Or.inr (Or.inr (Or.inr (Or.inr (Or.inr (Or.inl (⟨c4503, c4504, c4512, c4513, c4521, c4522, c4529, c4536, c4542, c4543, rfl, rfl⟩))))))))) [] rfl (by decide) [] rfl (by decide) (by decide) dX12_run_130
              · subst c4543
                refine lv_aload_n C.1 C.2.1 dX12_run_109 rfl (lv_at hl 0 rfl) ?_
                refine k_get C Wd KX12 1 30 rfl (by decide) fl_X12_291 rfl dX12_run_110 ?_
                refine lv_goto (tgt := 130) C.1 C.2.1 dX12_run_113 (by decide) ?_
                exact k_zret C hr hlk rfl Wd () (Or.inr (Or.inr (Or.inr (Or.inr (Or.inr (Or.inr (Or.inr (Or.inr (Or.inl (⟨c4503, c4504, c4512, c4513, c4521, c4522, c4529, c4536, c4542, rfl, rfl⟩)))))))))) [] rfl (by decide) [] rfl (by decide) (by decide) dX12_run_130
            · subst c4542
              refine lv_aload_n C.1 C.2.1 dX12_run_96 rfl (lv_at hl 0 rfl) ?_
              refine k_get C Wd KX12 1 31 rfl (by decide) fl_X12_294 rfl dX12_run_97 ?_
              refine lv_goto (tgt := 130) C.1 C.2.1 dX12_run_100 (by decide) ?_
              exact k_zret C hr hlk rfl Wd () (Or.inr (Or.inr (Or.inr (Or.inr (Or.inr (Or.inr (Or.inr (Or.inr (Or.inr (Or.inl (⟨c4503, c4504, c4512, c4513, c4521, c4522, c4529, c4536, rfl, rfl⟩))))))))))) [] rfl (by decide) [] rfl (by decide) (by decide) dX12_run_130
          · exact False.elim (by have z0 := kz_lt c4529; have z1 := kz_nlt c4537; have t10 : (10 : Int32).toInt = 10 := (by decide); have t100 : (100 : Int32).toInt = 100 := (by decide); omega)
          · exact False.elim (by have z0 := kz_lt c4529; have z1 := kz_nlt c4539; have t10 : (10 : Int32).toInt = 10 := (by decide); have t100 : (100 : Int32).toInt = 100 := (by decide); omega)
        · refine lv_if_eq (tgt := 63) C.1 C.2.1 dX12_run_49 (by decide) (fun _ => ?_) (fun c4545 => absurd c4545 (by decide))
          refine lv_iload C.1 C.2.1 dX12_run_63 (lv_at hl 4 rfl) ?_
          refine lv_bipush (v := 100) C.1 C.2.1 dX12_run_65 (by decide) ?_
          refine lv_bipush (v := 99) C.1 C.2.1 dX12_run_67 (by decide) ?_
          refine lv_aload_n C.1 C.2.1 dX12_run_69 rfl (lv_at hl 0 rfl) ?_
          refine k_get C Wd KX12 1 32 rfl (by decide) fl_X12_312 rfl dX12_run_70 ?_
          refine k_iadd (v := 99) C (by decide) dX12_run_73 ?_
          refine k_pi (k_runS (rest := []) C aks Wd cs_X12_90 (kcX12_isIn l D x3 100 99 _ ) [] rfl (by decide) [] rfl rfl rfl ⟨(Nat.le_of_ble_eq_true rfl), (Nat.le_of_ble_eq_true rfl)⟩ hl.1 rfl rfl (Nat.le_of_ble_eq_true rfl) ⟨(Nat.le_of_ble_eq_true rfl), (Nat.le_of_ble_eq_true rfl)⟩ dX12_run_74) (fun r w4546 => ?_)
          rcases w4546 with ⟨c4547, rfl⟩ | ⟨c4548, c4549, rfl⟩ | ⟨c4550, c4551, rfl⟩
          · refine lv_if_eq (tgt := 91) C.1 C.2.1 dX12_run_77 (by decide) (fun _ => ?_) (fun c4552 => absurd c4552 (by decide))
            refine lv_iload C.1 C.2.1 dX12_run_91 (lv_at hl 4 rfl) ?_
            refine lv_if_ne (tgt := 103) C.1 C.2.1 dX12_run_93 (by decide) (fun _ => ?_) (fun c4553 => False.elim (by have z0 := kz_nlt c4530; have z1 := kz_lt c4531; have z2 := kz_lt c4547; have z3 := kz_eq c4553; have t10 : (10 : Int32).toInt = 10 := (by decide); have t15 : (15 : Int32).toInt = 15 := (by decide); have t100 : (100 : Int32).toInt = 100 := (by decide); have t0 : (0 : Int32).toInt = 0 := (by decide); omega))
            refine lv_iload C.1 C.2.1 dX12_run_103 (lv_at hl 4 rfl) ?_
            refine lv_iconst (v := 1) C.1 C.2.1 dX12_run_105 (by decide) ?_
            refine lv_icmp_ne (tgt := 116) C.1 C.2.1 dX12_run_106 (by decide) (fun _ => ?_) (fun c4554 => False.elim (by have z0 := kz_nlt c4530; have z1 := kz_lt c4531; have z2 := kz_lt c4547; have z3 := kz_eq c4554; have t10 : (10 : Int32).toInt = 10 := (by decide); have t15 : (15 : Int32).toInt = 15 := (by decide); have t100 : (100 : Int32).toInt = 100 := (by decide); have t1 : (1 : Int32).toInt = 1 := (by decide); omega))
            refine lv_iload C.1 C.2.1 dX12_run_116 (lv_at hl 4 rfl) ?_
            refine lv_iconst (v := 2) C.1 C.2.1 dX12_run_118 (by decide) ?_
            refine lv_icmp_ne (tgt := 129) C.1 C.2.1 dX12_run_119 (by decide) (fun _ => ?_) (fun c4555 => False.elim (by have z0 := kz_nlt c4530; have z1 := kz_lt c4531; have z2 := kz_lt c4547; have z3 := kz_eq c4555; have t10 : (10 : Int32).toInt = 10 := (by decide); have t15 : (15 : Int32).toInt = 15 := (by decide); have t100 : (100 : Int32).toInt = 100 := (by decide); have t2 : (2 : Int32).toInt = 2 := (by decide); omega))
            refine lv_iconst (v := (-1)) C.1 C.2.1 dX12_run_129 (by decide) ?_
            exact k_zret C hr hlk rfl Wd () (Or.inr (Or.inr (Or.inr (Or.inr (Or.inr (Or.inr (Or.inr (Or.inr (Or.inr (Or.inr (Or.inl (⟨c4503, c4504, c4512, c4513, c4521, c4522, c4530, c4531, c4547, rfl⟩)))))))))))) [] rfl (by decide) [] rfl (by decide) (by decide) dX12_run_130
          · refine lv_if_eq (tgt := 91) C.1 C.2.1 dX12_run_77 (by decide) (fun _ => ?_) (fun c4556 => absurd c4556 (by decide))
            refine lv_iload C.1 C.2.1 dX12_run_91 (lv_at hl 4 rfl) ?_
            refine lv_if_ne (tgt := 103) C.1 C.2.1 dX12_run_93 (by decide) (fun _ => ?_) (fun c4557 => False.elim (by have z0 := kz_nlt c4530; have z1 := kz_lt c4531; have z2 := kz_nlt c4548; have z3 := kz_lt c4549; have z4 := kz_eq c4557; have t10 : (10 : Int32).toInt = 10 := (by decide); have t15 : (15 : Int32).toInt = 15 := (by decide); have t100 : (100 : Int32).toInt = 100 := (by decide); have t99 : (99 : Int32).toInt = 99 := (by decide); have t0 : (0 : Int32).toInt = 0 := (by decide); omega))
            refine lv_iload C.1 C.2.1 dX12_run_103 (lv_at hl 4 rfl) ?_
            refine lv_iconst (v := 1) C.1 C.2.1 dX12_run_105 (by decide) ?_
            refine lv_icmp_ne (tgt := 116) C.1 C.2.1 dX12_run_106 (by decide) (fun _ => ?_) (fun c4558 => False.elim (by have z0 := kz_nlt c4530; have z1 := kz_lt c4531; have z2 := kz_nlt c4548; have z3 := kz_lt c4549; have z4 := kz_eq c4558; have t10 : (10 : Int32).toInt = 10 := (by decide); have t15 : (15 : Int32).toInt = 15 := (by decide); have t100 : (100 : Int32).toInt = 100 := (by decide); have t99 : (99 : Int32).toInt = 99 := (by decide); have t1 : (1 : Int32).toInt = 1 := (by decide); omega))
            refine lv_iload C.1 C.2.1 dX12_run_116 (lv_at hl 4 rfl) ?_
            refine lv_iconst (v := 2) C.1 C.2.1 dX12_run_118 (by decide) ?_
            refine lv_icmp_ne (tgt := 129) C.1 C.2.1 dX12_run_119 (by decide) (fun _ => ?_) (fun c4559 => False.elim (by have z0 := kz_nlt c4530; have z1 := kz_lt c4531; have z2 := kz_nlt c4548; have z3 := kz_lt c4549; have z4 := kz_eq c4559; have t10 : (10 : Int32).toInt = 10 := (by decide); have t15 : (15 : Int32).toInt = 15 := (by decide); have t100 : (100 : Int32).toInt = 100 := (by decide); have t99 : (99 : Int32).toInt = 99 := (by decide); have t2 : (2 : Int32).toInt = 2 := (by decide); omega))
            refine lv_iconst (v := (-1)) C.1 C.2.1 dX12_run_129 (by decide) ?_
            exact k_zret C hr hlk rfl Wd () (Or.inr (Or.inr (Or.inr (Or.inr (Or.inr (Or.inr (Or.inr (Or.inr (Or.inr (Or.inr (Or.inr (Or.inl (⟨c4503, c4504, c4512, c4513, c4521, c4522, c4530, c4531, c4548, c4549, rfl⟩))))))))))))) [] rfl (by decide) [] rfl (by decide) (by decide) dX12_run_130
          · exact False.elim (by have z0 := kz_nlt c4530; have z1 := kz_lt c4531; have z2 := kz_nlt c4550; have z3 := kz_nlt c4551; have t10 : (10 : Int32).toInt = 10 := (by decide); have t15 : (15 : Int32).toInt = 15 := (by decide); have t100 : (100 : Int32).toInt = 100 := (by decide); have t99 : (99 : Int32).toInt = 99 := (by decide); omega)
        · refine lv_if_eq (tgt := 63) C.1 C.2.1 dX12_run_49 (by decide) (fun c4560 => absurd c4560 (by decide)) (fun _ => ?_)
          refine lv_aload_n C.1 C.2.1 dX12_run_52 rfl (lv_at hl 0 rfl) ?_
          refine k_get C Wd KX12 1 28 rfl (by decide) fl_X12_41 rfl dX12_run_53 ?_
          refine lv_iload C.1 C.2.1 dX12_run_56 (lv_at hl 4 rfl) ?_
          refine lv_bipush (v := 10) C.1 C.2.1 dX12_run_58 (by decide) ?_
          refine k_isub (v := (x3 - 10)) C rfl dX12_run_60 ?_
          refine k_iald (v := ((upd (upd (upd (upd (upd (upd (fun _ => 0) 0 x1) 1 x2) 2 0) 3 0) 4 0) 5 0) (x3 - 10).toNatClampNeg)) C Wd 2 1 rfl rfl (vp_in_iff.mpr ⟨by have z0 := kz_nlt c4532; have z1 := kz_nlt c4533; have zr := kz_rng x3; have z2 := kz_subI (a := x3) (b := 10); have t10 : (10 : Int32).toInt = 10 := (by decide); have t15 : (15 : Int32).toInt = 15 := (by decide); omega, by have z0 := kz_nlt c4532; have z1 := kz_nlt c4533; have zr := kz_rng x3; have z2 := kz_subI (a := x3) (b := 10); have t10 : (10 : Int32).toInt = 10 := (by decide); have t15 : (15 : Int32).toInt = 15 := (by decide); omega⟩) rfl dX12_run_61 ?_
          exact k_zret C hr hlk rfl Wd () (Or.inr (Or.inr (Or.inr (Or.inr (Or.inr (Or.inr (Or.inr (Or.inr (Or.inr (Or.inr (Or.inr (Or.inr (⟨c4503, c4504, c4512, c4513, c4521, c4522, c4532, c4533, rfl⟩))))))))))))) [] rfl (by decide) [] rfl (by decide) (by decide) dX12_run_62
set_option maxHeartbeats 4000000 in
set_option maxRecDepth 100000 in
theorem kcX12_runs_v1 (l : Launch) (D : va_G) (h0 h1 h2 h3 h4 h5 h6 h7 h8 h9 h10 h11 h12 h13 h14 h15 h16 h17 h18 h19 h20 h21 h22 h23 h24 h25 : Nat) (x0 x1 : Int32) (f0 : Nat → Int32) (a9 : ClassId) (sz : Nat)  : Met l yX12_runs (Cond.code yX12_runs cX12_runs 4 none :: gG) { frames := 3, cells := 0, slots := 0, locals := 107 } (cPre D [(a9, .int)] [(h0, .inr (12, [.ref h1, .ref h2, .ref h3, .ref h4, .int 0, .int 0, .ref h5, .int 0, .int 0, .int 0, .int 0, .int 0, .int 0, .int 0, .int 0, .int 0, .int 0, .int 0, .int 0, .int 0, .int (-1), .int 0, .int 0, .int 0, .ref h6, .ref h7, .ref h8, .ref h9, .ref h10, .ref h11, .int 0, .int 0, .int 0, .int 0, .ref h12, .ref h13, .ref h14, .int 0, .int 0, .int 0, .int 0, .ref h15, .ref h16, .int 0, .ref h17, .ref h18, .int 0, .ref h19, .int 0, .ref h20, .ref h21, .ref h22, .int 0, .ref h23, .ref h24, .ref h25])), (h10, .inl (a9, 6, .inl f0))] sz [.ref h0, .int x0, .int x1]) (va_Qv (fun (_ : Unit) => True) (fun u t => cB D (va_A [(h0, .inr (12, [.ref h1, .ref h2, .ref h3, .ref h4, .int 0, .int 0, .ref h5, .int 0, .int 0, .int 0, .int 0, .int 0, .int 0, .int 0, .int 0, .int 0, .int 0, .int 0, .int 0, .int 0, .int (-1), .int 0, .int 0, .int 0, .ref h6, .ref h7, .ref h8, .ref h9, .ref h10, .ref h11, .int 0, .int 0, .int 0, .int 0, .ref h12, .ref h13, .ref h14, .int 0, .int 0, .int 0, .int 0, .ref h15, .ref h16, .int 0, .ref h17, .ref h18, .int 0, .ref h19, .int 0, .ref h20, .ref h21, .ref h22, .int 0, .ref h23, .ref h24, .ref h25])), (h10, .inl (a9, 6, .inl f0))] sz) ((fun (_ : Unit) => ([] : List (ClassId × FieldType))) u) ((fun (_ : Unit) => ([(h0, .inr (12, [.ref h1, .ref h2, .ref h3, .ref h4, .int 0, .int 0, .ref h5, .int 0, .int 0, .int 0, .int 0, .int 0, .int 0, .int 0, .int 0, .int 0, .int 0, .int 0, .int 0, .int 0, .int (-1), .int 0, .int 0, .int 0, .ref h6, .ref h7, .ref h8, .ref h9, .ref h10, .ref h11, .int 0, .int 0, .int 0, .int 0, .ref h12, .ref h13, .ref h14, .int 0, .int 0, .int 0, .int 0, .ref h15, .ref h16, .int 0, .ref h17, .ref h18, .int 0, .ref h19, .int 0, .ref h20, .ref h21, .ref h22, .int 0, .ref h23, .ref h24, .ref h25])), (h10, .inl (a9, 6, .inl (upd (upd (upd (upd (upd (upd f0 0 x0) 1 x1) 2 0) 3 0) 4 0) 5 0)))] : va_W)) u) t) (va_A [(h0, .inr (12, [.ref h1, .ref h2, .ref h3, .ref h4, .int 0, .int 0, .ref h5, .int 0, .int 0, .int 0, .int 0, .int 0, .int 0, .int 0, .int 0, .int 0, .int 0, .int 0, .int 0, .int 0, .int (-1), .int 0, .int 0, .int 0, .ref h6, .ref h7, .ref h8, .ref h9, .ref h10, .ref h11, .int 0, .int 0, .int 0, .int 0, .ref h12, .ref h13, .ref h14, .int 0, .int 0, .int 0, .int 0, .ref h15, .ref h16, .int 0, .ref h17, .ref h18, .int 0, .ref h19, .int 0, .ref h20, .ref h21, .ref h22, .int 0, .ref h23, .ref h24, .ref h25])), (h10, .inl (a9, 6, .inl f0))] sz)) 0 0 (va_A [(h0, .inr (12, [.ref h1, .ref h2, .ref h3, .ref h4, .int 0, .int 0, .ref h5, .int 0, .int 0, .int 0, .int 0, .int 0, .int 0, .int 0, .int 0, .int 0, .int 0, .int 0, .int 0, .int 0, .int (-1), .int 0, .int 0, .int 0, .ref h6, .ref h7, .ref h8, .ref h9, .ref h10, .ref h11, .int 0, .int 0, .int 0, .int 0, .ref h12, .ref h13, .ref h14, .int 0, .int 0, .int 0, .int 0, .ref h15, .ref h16, .int 0, .ref h17, .ref h18, .int 0, .ref h19, .int 0, .ref h20, .ref h21, .ref h22, .int 0, .ref h23, .ref h24, .ref h25])), (h10, .inl (a9, 6, .inl f0))] sz) := by
  refine Met.ofW (cc := cX12_runs) (maxL := 4) (ret := none) (by decide) rfl ?_
  intro p e s m args below meth c s₁ B hml hv
  obtain ⟨rfl, aks, rfl, Wd⟩ := k_enter hv
  have C : CallFix p m c cX12_runs 4 s _ gG RX12 := ⟨B.exec, B.bytes, hml, findClass_of_methodNamed B.named, fun w h => atoms_spec (ws := Cond.code yX12_runs cX12_runs 4 none :: gG) B.pre w (List.mem_cons_of_mem _ h)⟩
  have hr := B.returns
  have hlk := B.notSynchronized
  generalize va_A [(h0, .inr (12, [.ref h1, .ref h2, .ref h3, .ref h4, .int 0, .int 0, .ref h5, .int 0, .int 0, .int 0, .int 0, .int 0, .int 0, .int 0, .int 0, .int 0, .int 0, .int 0, .int 0, .int 0, .int (-1), .int 0, .int 0, .int 0, .ref h6, .ref h7, .ref h8, .ref h9, .ref h10, .ref h11, .int 0, .int 0, .int 0, .int 0, .ref h12, .ref h13, .ref h14, .int 0, .int 0, .int 0, .int 0, .ref h15, .ref h16, .int 0, .ref h17, .ref h18, .int 0, .ref h19, .int 0, .ref h20, .ref h21, .ref h22, .int 0, .ref h23, .ref h24, .ref h25])), (h10, .inl (a9, 6, .inl f0))] s.heap.size = A at Wd ⊢
  refine k_locals (Nat.le_of_ble_eq_true rfl) [(0, .ref h0), (1, .int x0), (2, .int x1)] rfl (fun ls hl => ?_)
  refine lv_iconst (v := 0) C.1 C.2.1 dX12_runs_0 (by decide) ?_
  refine lv_istore_n (lv' := [(3, .int 0), (0, .ref h0), (1, .int x0), (2, .int x1)]) C.1 C.2.1 dX12_runs_1 rfl hl (by decide) rfl (fun ls hl => ?_)
  refine lv_iload_n C.1 C.2.1 dX12_runs_2 rfl (lv_at hl 0 rfl) ?_
  refine lv_bipush (v := 6) C.1 C.2.1 dX12_runs_3 (by decide) ?_
  refine lv_icmp_ge (tgt := 38) C.1 C.2.1 dX12_runs_5 (by decide) (fun c4614 => absurd c4614 (by decide)) (fun _ => ?_)
  refine lv_aload_n C.1 C.2.1 dX12_runs_8 rfl (lv_at hl 1 rfl) ?_
  refine k_get C Wd KX12 0 28 rfl (by decide) fl_X12_41 rfl dX12_runs_9 ?_
  refine lv_iload_n C.1 C.2.1 dX12_runs_12 rfl (lv_at hl 0 rfl) ?_
  refine lv_iload_n C.1 C.2.1 dX12_runs_13 rfl (lv_at hl 0 rfl) ?_
  refine lv_if_ne (tgt := 21) C.1 C.2.1 dX12_runs_14 (by decide) (fun c4615 => absurd c4615 (by decide)) (fun _ => ?_)
  refine lv_iload_n C.1 C.2.1 dX12_runs_17 rfl (lv_at hl 2 rfl) ?_
  refine lv_goto (tgt := 31) C.1 C.2.1 dX12_runs_18 (by decide) ?_
  refine k_iast C Wd 1 0 [(h0, .inr (12, [.ref h1, .ref h2, .ref h3, .ref h4, .int 0, .int 0, .ref h5, .int 0, .int 0, .int 0, .int 0, .int 0, .int 0, .int 0, .int 0, .int 0, .int 0, .int 0, .int 0, .int 0, .int (-1), .int 0, .int 0, .int 0, .ref h6, .ref h7, .ref h8, .ref h9, .ref h10, .ref h11, .int 0, .int 0, .int 0, .int 0, .ref h12, .ref h13, .ref h14, .int 0, .int 0, .int 0, .int 0, .ref h15, .ref h16, .int 0, .ref h17, .ref h18, .int 0, .ref h19, .int 0, .ref h20, .ref h21, .ref h22, .int 0, .ref h23, .ref h24, .ref h25])), (h10, .inl (a9, 6, .inl (upd f0 0 x0)))] rfl rfl (vp_in_iff.mpr (by decide)) rfl rfl dX12_runs_31 (fun H locs Wd => ?_)
  refine lv_iinc (v := 1) (lv' := [(3, .int 1), (0, .ref h0), (1, .int x0), (2, .int x1)]) C.1 C.2.1 dX12_runs_32 hl (k := 0) rfl (by decide) (by decide) rfl (fun ls hl => ?_)
  refine lv_goto (tgt := 2) C.1 C.2.1 dX12_runs_35 (by decide) ?_
  refine lv_iload_n C.1 C.2.1 dX12_runs_2 rfl (lv_at hl 0 rfl) ?_
  refine lv_bipush (v := 6) C.1 C.2.1 dX12_runs_3 (by decide) ?_
  refine lv_icmp_ge (tgt := 38) C.1 C.2.1 dX12_runs_5 (by decide) (fun c4616 => absurd c4616 (by decide)) (fun _ => ?_)
  refine lv_aload_n C.1 C.2.1 dX12_runs_8 rfl (lv_at hl 1 rfl) ?_
  refine k_get C Wd KX12 0 28 rfl (by decide) fl_X12_41 rfl dX12_runs_9 ?_
  refine lv_iload_n C.1 C.2.1 dX12_runs_12 rfl (lv_at hl 0 rfl) ?_
  refine lv_iload_n C.1 C.2.1 dX12_runs_13 rfl (lv_at hl 0 rfl) ?_
  refine lv_if_ne (tgt := 21) C.1 C.2.1 dX12_runs_14 (by decide) (fun _ => ?_) (fun c4617 => absurd c4617 (by decide))
  refine lv_iload_n C.1 C.2.1 dX12_runs_21 rfl (lv_at hl 0 rfl) ?_
  refine lv_iconst (v := 1) C.1 C.2.1 dX12_runs_22 (by decide) ?_
  refine lv_icmp_ne (tgt := 30) C.1 C.2.1 dX12_runs_23 (by decide) (fun c4618 => absurd c4618 (by decide)) (fun _ => ?_)
  refine lv_iload_n C.1 C.2.1 dX12_runs_26 rfl (lv_at hl 3 rfl) ?_
  refine lv_goto (tgt := 31) C.1 C.2.1 dX12_runs_27 (by decide) ?_
  refine k_iast C Wd 1 0 [(h0, .inr (12, [.ref h1, .ref h2, .ref h3, .ref h4, .int 0, .int 0, .ref h5, .int 0, .int 0, .int 0, .int 0, .int 0, .int 0, .int 0, .int 0, .int 0, .int 0, .int 0, .int 0, .int 0, .int (-1), .int 0, .int 0, .int 0, .ref h6, .ref h7, .ref h8, .ref h9, .ref h10, .ref h11, .int 0, .int 0, .int 0, .int 0, .ref h12, .ref h13, .ref h14, .int 0, .int 0, .int 0, .int 0, .ref h15, .ref h16, .int 0, .ref h17, .ref h18, .int 0, .ref h19, .int 0, .ref h20, .ref h21, .ref h22, .int 0, .ref h23, .ref h24, .ref h25])), (h10, .inl (a9, 6, .inl (upd (upd f0 0 x0) 1 x1)))] rfl rfl (vp_in_iff.mpr (by decide)) rfl rfl dX12_runs_31 (fun H locs Wd => ?_)
  refine lv_iinc (v := 2) (lv' := [(3, .int 2), (0, .ref h0), (1, .int x0), (2, .int x1)]) C.1 C.2.1 dX12_runs_32 hl (k := 0) rfl (by decide) (by decide) rfl (fun ls hl => ?_)
  refine lv_goto (tgt := 2) C.1 C.2.1 dX12_runs_35 (by decide) ?_
  refine lv_iload_n C.1 C.2.1 dX12_runs_2 rfl (lv_at hl 0 rfl) ?_
  refine lv_bipush (v := 6) C.1 C.2.1 dX12_runs_3 (by decide) ?_
  refine lv_icmp_ge (tgt := 38) C.1 C.2.1 dX12_runs_5 (by decide) (fun c4619 => absurd c4619 (by decide)) (fun _ => ?_)
  refine lv_aload_n C.1 C.2.1 dX12_runs_8 rfl (lv_at hl 1 rfl) ?_
  refine k_get C Wd KX12 0 28 rfl (by decide) fl_X12_41 rfl dX12_runs_9 ?_
  refine lv_iload_n C.1 C.2.1 dX12_runs_12 rfl (lv_at hl 0 rfl) ?_
  refine lv_iload_n C.1 C.2.1 dX12_runs_13 rfl (lv_at hl 0 rfl) ?_
  refine lv_if_ne (tgt := 21) C.1 C.2.1 dX12_runs_14 (by decide) (fun _ => ?_) (fun c4620 => absurd c4620 (by decide))
  refine lv_iload_n C.1 C.2.1 dX12_runs_21 rfl (lv_at hl 0 rfl) ?_
  refine lv_iconst (v := 1) C.1 C.2.1 dX12_runs_22 (by decide) ?_
  refine lv_icmp_ne (tgt := 30) C.1 C.2.1 dX12_runs_23 (by decide) (fun _ => ?_) (fun c4621 => absurd c4621 (by decide))
  refine lv_iconst (v := 0) C.1 C.2.1 dX12_runs_30 (by decide) ?_
  refine k_iast C Wd 1 0 [(h0, .inr (12, [.ref h1, .ref h2, .ref h3, .ref h4, .int 0, .int 0, .ref h5, .int 0, .int 0, .int 0, .int 0, .int 0, .int 0, .int 0, .int 0, .int 0, .int 0, .int 0, .int 0, .int 0, .int (-1), .int 0, .int 0, .int 0, .ref h6, .ref h7, .ref h8, .ref h9, .ref h10, .ref h11, .int 0, .int 0, .int 0, .int 0, .ref h12, .ref h13, .ref h14, .int 0, .int 0, .int 0, .int 0, .ref h15, .ref h16, .int 0, .ref h17, .ref h18, .int 0, .ref h19, .int 0, .ref h20, .ref h21, .ref h22, .int 0, .ref h23, .ref h24, .ref h25])), (h10, .inl (a9, 6, .inl (upd (upd (upd f0 0 x0) 1 x1) 2 0)))] rfl rfl (vp_in_iff.mpr (by decide)) rfl rfl dX12_runs_31 (fun H locs Wd => ?_)
  refine lv_iinc (v := 3) (lv' := [(3, .int 3), (0, .ref h0), (1, .int x0), (2, .int x1)]) C.1 C.2.1 dX12_runs_32 hl (k := 0) rfl (by decide) (by decide) rfl (fun ls hl => ?_)
  refine lv_goto (tgt := 2) C.1 C.2.1 dX12_runs_35 (by decide) ?_
  refine lv_iload_n C.1 C.2.1 dX12_runs_2 rfl (lv_at hl 0 rfl) ?_
  refine lv_bipush (v := 6) C.1 C.2.1 dX12_runs_3 (by decide) ?_
  refine lv_icmp_ge (tgt := 38) C.1 C.2.1 dX12_runs_5 (by decide) (fun c4622 => absurd c4622 (by decide)) (fun _ => ?_)
  refine lv_aload_n C.1 C.2.1 dX12_runs_8 rfl (lv_at hl 1 rfl) ?_
  refine k_get C Wd KX12 0 28 rfl (by decide) fl_X12_41 rfl dX12_runs_9 ?_
  refine lv_iload_n C.1 C.2.1 dX12_runs_12 rfl (lv_at hl 0 rfl) ?_
  refine lv_iload_n C.1 C.2.1 dX12_runs_13 rfl (lv_at hl 0 rfl) ?_
  refine lv_if_ne (tgt := 21) C.1 C.2.1 dX12_runs_14 (by decide) (fun _ => ?_) (fun c4623 => absurd c4623 (by decide))
  refine lv_iload_n C.1 C.2.1 dX12_runs_21 rfl (lv_at hl 0 rfl) ?_
  refine lv_iconst (v := 1) C.1 C.2.1 dX12_runs_22 (by decide) ?_
  refine lv_icmp_ne (tgt := 30) C.1 C.2.1 dX12_runs_23 (by decide) (fun _ => ?_) (fun c4624 => absurd c4624 (by decide))
  refine lv_iconst (v := 0) C.1 C.2.1 dX12_runs_30 (by decide) ?_
  refine k_iast C Wd 1 0 [(h0, .inr (12, [.ref h1, .ref h2, .ref h3, .ref h4, .int 0, .int 0, .ref h5, .int 0, .int 0, .int 0, .int 0, .int 0, .int 0, .int 0, .int 0, .int 0, .int 0, .int 0, .int 0, .int 0, .int (-1), .int 0, .int 0, .int 0, .ref h6, .ref h7, .ref h8, .ref h9, .ref h10, .ref h11, .int 0, .int 0, .int 0, .int 0, .ref h12, .ref h13, .ref h14, .int 0, .int 0, .int 0, .int 0, .ref h15, .ref h16, .int 0, .ref h17, .ref h18, .int 0, .ref h19, .int 0, .ref h20, .ref h21, .ref h22, .int 0, .ref h23, .ref h24, .ref h25])), (h10, .inl (a9, 6, .inl (upd (upd (upd (upd f0 0 x0) 1 x1) 2 0) 3 0)))] rfl rfl (vp_in_iff.mpr (by decide)) rfl rfl dX12_runs_31 (fun H locs Wd => ?_)
  refine lv_iinc (v := 4) (lv' := [(3, .int 4), (0, .ref h0), (1, .int x0), (2, .int x1)]) C.1 C.2.1 dX12_runs_32 hl (k := 0) rfl (by decide) (by decide) rfl (fun ls hl => ?_)
  refine lv_goto (tgt := 2) C.1 C.2.1 dX12_runs_35 (by decide) ?_
  refine lv_iload_n C.1 C.2.1 dX12_runs_2 rfl (lv_at hl 0 rfl) ?_
  refine lv_bipush (v := 6) C.1 C.2.1 dX12_runs_3 (by decide) ?_
  refine lv_icmp_ge (tgt := 38) C.1 C.2.1 dX12_runs_5 (by decide) (fun c4625 => absurd c4625 (by decide)) (fun _ => ?_)
  refine lv_aload_n C.1 C.2.1 dX12_runs_8 rfl (lv_at hl 1 rfl) ?_
  refine k_get C Wd KX12 0 28 rfl (by decide) fl_X12_41 rfl dX12_runs_9 ?_
  refine lv_iload_n C.1 C.2.1 dX12_runs_12 rfl (lv_at hl 0 rfl) ?_
  refine lv_iload_n C.1 C.2.1 dX12_runs_13 rfl (lv_at hl 0 rfl) ?_
  refine lv_if_ne (tgt := 21) C.1 C.2.1 dX12_runs_14 (by decide) (fun _ => ?_) (fun c4626 => absurd c4626 (by decide))
  refine lv_iload_n C.1 C.2.1 dX12_runs_21 rfl (lv_at hl 0 rfl) ?_
  refine lv_iconst (v := 1) C.1 C.2.1 dX12_runs_22 (by decide) ?_
  refine lv_icmp_ne (tgt := 30) C.1 C.2.1 dX12_runs_23 (by decide) (fun _ => ?_) (fun c4627 => absurd c4627 (by decide))
  refine lv_iconst (v := 0) C.1 C.2.1 dX12_runs_30 (by decide) ?_
  refine k_iast C Wd 1 0 [(h0, .inr (12, [.ref h1, .ref h2, .ref h3, .ref h4, .int 0, .int 0, .ref h5, .int 0, .int 0, .int 0, .int 0, .int 0, .int 0, .int 0, .int 0, .int 0, .int 0, .int 0, .int 0, .int 0, .int (-1), .int 0, .int 0, .int 0, .ref h6, .ref h7, .ref h8, .ref h9, .ref h10, .ref h11, .int 0, .int 0, .int 0, .int 0, .ref h12, .ref h13, .ref h14, .int 0, .int 0, .int 0, .int 0, .ref h15, .ref h16, .int 0, .ref h17, .ref h18, .int 0, .ref h19, .int 0, .ref h20, .ref h21, .ref h22, .int 0, .ref h23, .ref h24, .ref h25])), (h10, .inl (a9, 6, .inl (upd (upd (upd (upd (upd f0 0 x0) 1 x1) 2 0) 3 0) 4 0)))] rfl rfl (vp_in_iff.mpr (by decide)) rfl rfl dX12_runs_31 (fun H locs Wd => ?_)
  refine lv_iinc (v := 5) (lv' := [(3, .int 5), (0, .ref h0), (1, .int x0), (2, .int x1)]) C.1 C.2.1 dX12_runs_32 hl (k := 0) rfl (by decide) (by decide) rfl (fun ls hl => ?_)
  refine lv_goto (tgt := 2) C.1 C.2.1 dX12_runs_35 (by decide) ?_
  refine lv_iload_n C.1 C.2.1 dX12_runs_2 rfl (lv_at hl 0 rfl) ?_
  refine lv_bipush (v := 6) C.1 C.2.1 dX12_runs_3 (by decide) ?_
  refine lv_icmp_ge (tgt := 38) C.1 C.2.1 dX12_runs_5 (by decide) (fun c4628 => absurd c4628 (by decide)) (fun _ => ?_)
  refine lv_aload_n C.1 C.2.1 dX12_runs_8 rfl (lv_at hl 1 rfl) ?_
  refine k_get C Wd KX12 0 28 rfl (by decide) fl_X12_41 rfl dX12_runs_9 ?_
  refine lv_iload_n C.1 C.2.1 dX12_runs_12 rfl (lv_at hl 0 rfl) ?_
  refine lv_iload_n C.1 C.2.1 dX12_runs_13 rfl (lv_at hl 0 rfl) ?_
  refine lv_if_ne (tgt := 21) C.1 C.2.1 dX12_runs_14 (by decide) (fun _ => ?_) (fun c4629 => absurd c4629 (by decide))
  refine lv_iload_n C.1 C.2.1 dX12_runs_21 rfl (lv_at hl 0 rfl) ?_
  refine lv_iconst (v := 1) C.1 C.2.1 dX12_runs_22 (by decide) ?_
  refine lv_icmp_ne (tgt := 30) C.1 C.2.1 dX12_runs_23 (by decide) (fun _ => ?_) (fun c4630 => absurd c4630 (by decide))
  refine lv_iconst (v := 0) C.1 C.2.1 dX12_runs_30 (by decide) ?_
  refine k_iast C Wd 1 0 [(h0, .inr (12, [.ref h1, .ref h2, .ref h3, .ref h4, .int 0, .int 0, .ref h5, .int 0, .int 0, .int 0, .int 0, .int 0, .int 0, .int 0, .int 0, .int 0, .int 0, .int 0, .int 0, .int 0, .int (-1), .int 0, .int 0, .int 0, .ref h6, .ref h7, .ref h8, .ref h9, .ref h10, .ref h11, .int 0, .int 0, .int 0, .int 0, .ref h12, .ref h13, .ref h14, .int 0, .int 0, .int 0, .int 0, .ref h15, .ref h16, .int 0, .ref h17, .ref h18, .int 0, .ref h19, .int 0, .ref h20, .ref h21, .ref h22, .int 0, .ref h23, .ref h24, .ref h25])), (h10, .inl (a9, 6, .inl (upd (upd (upd (upd (upd (upd f0 0 x0) 1 x1) 2 0) 3 0) 4 0) 5 0)))] rfl rfl (vp_in_iff.mpr (by decide)) rfl rfl dX12_runs_31 (fun H locs Wd => ?_)
  refine lv_iinc (v := 6) (lv' := [(3, .int 6), (0, .ref h0), (1, .int x0), (2, .int x1)]) C.1 C.2.1 dX12_runs_32 hl (k := 0) rfl (by decide) (by decide) rfl (fun ls hl => ?_)
  refine lv_goto (tgt := 2) C.1 C.2.1 dX12_runs_35 (by decide) ?_
  refine lv_iload_n C.1 C.2.1 dX12_runs_2 rfl (lv_at hl 0 rfl) ?_
  refine lv_bipush (v := 6) C.1 C.2.1 dX12_runs_3 (by decide) ?_
  refine lv_icmp_ge (tgt := 38) C.1 C.2.1 dX12_runs_5 (by decide) (fun _ => ?_) (fun c4631 => absurd c4631 (by decide))
  refine lv_aload_n C.1 C.2.1 dX12_runs_38 rfl (lv_at hl 1 rfl) ?_
  refine lv_iconst (v := 0) C.1 C.2.1 dX12_runs_39 (by decide) ?_
  refine k_put C Wd KX12 0 30 [(h0, .inr (12, [.ref h1, .ref h2, .ref h3, .ref h4, .int 0, .int 0, .ref h5, .int 0, .int 0, .int 0, .int 0, .int 0, .int 0, .int 0, .int 0, .int 0, .int 0, .int 0, .int 0, .int 0, .int (-1), .int 0, .int 0, .int 0, .ref h6, .ref h7, .ref h8, .ref h9, .ref h10, .ref h11, .int 0, .int 0, .int 0, .int 0, .ref h12, .ref h13, .ref h14, .int 0, .int 0, .int 0, .int 0, .ref h15, .ref h16, .int 0, .ref h17, .ref h18, .int 0, .ref h19, .int 0, .ref h20, .ref h21, .ref h22, .int 0, .ref h23, .ref h24, .ref h25])), (h10, .inl (a9, 6, .inl (upd (upd (upd (upd (upd (upd f0 0 x0) 1 x1) 2 0) 3 0) 4 0) 5 0)))] rfl (by decide) fl_X12_291 rfl rfl rfl (Nat.le_of_ble_eq_true rfl) rfl dX12_runs_40 (fun H locs Wd => ?_)
  refine lv_aload_n C.1 C.2.1 dX12_runs_43 rfl (lv_at hl 1 rfl) ?_
  refine lv_iconst (v := 0) C.1 C.2.1 dX12_runs_44 (by decide) ?_
  refine k_put C Wd KX12 0 31 [(h0, .inr (12, [.ref h1, .ref h2, .ref h3, .ref h4, .int 0, .int 0, .ref h5, .int 0, .int 0, .int 0, .int 0, .int 0, .int 0, .int 0, .int 0, .int 0, .int 0, .int 0, .int 0, .int 0, .int (-1), .int 0, .int 0, .int 0, .ref h6, .ref h7, .ref h8, .ref h9, .ref h10, .ref h11, .int 0, .int 0, .int 0, .int 0, .ref h12, .ref h13, .ref h14, .int 0, .int 0, .int 0, .int 0, .ref h15, .ref h16, .int 0, .ref h17, .ref h18, .int 0, .ref h19, .int 0, .ref h20, .ref h21, .ref h22, .int 0, .ref h23, .ref h24, .ref h25])), (h10, .inl (a9, 6, .inl (upd (upd (upd (upd (upd (upd f0 0 x0) 1 x1) 2 0) 3 0) 4 0) 5 0)))] rfl (by decide) fl_X12_294 rfl rfl rfl (Nat.le_of_ble_eq_true rfl) rfl dX12_runs_45 (fun H locs Wd => ?_)
  refine lv_aload_n C.1 C.2.1 dX12_runs_48 rfl (lv_at hl 1 rfl) ?_
  refine lv_iconst (v := 0) C.1 C.2.1 dX12_runs_49 (by decide) ?_
  refine k_put C Wd KX12 0 32 [(h0, .inr (12, [.ref h1, .ref h2, .ref h3, .ref h4, .int 0, .int 0, .ref h5, .int 0, .int 0, .int 0, .int 0, .int 0, .int 0, .int 0, .int 0, .int 0, .int 0, .int 0, .int 0, .int 0, .int (-1), .int 0, .int 0, .int 0, .ref h6, .ref h7, .ref h8, .ref h9, .ref h10, .ref h11, .int 0, .int 0, .int 0, .int 0, .ref h12, .ref h13, .ref h14, .int 0, .int 0, .int 0, .int 0, .ref h15, .ref h16, .int 0, .ref h17, .ref h18, .int 0, .ref h19, .int 0, .ref h20, .ref h21, .ref h22, .int 0, .ref h23, .ref h24, .ref h25])), (h10, .inl (a9, 6, .inl (upd (upd (upd (upd (upd (upd f0 0 x0) 1 x1) 2 0) 3 0) 4 0) 5 0)))] rfl (by decide) fl_X12_312 rfl rfl rfl (Nat.le_of_ble_eq_true rfl) rfl dX12_runs_50 (fun H locs Wd => ?_)
  refine lv_aload_n C.1 C.2.1 dX12_runs_53 rfl (lv_at hl 1 rfl) ?_
  refine lv_iconst (v := 0) C.1 C.2.1 dX12_runs_54 (by decide) ?_
  refine k_pi (k_runV (rest := []) C aks Wd cs_X12_306 (kcX12_does l D h0 h1 h2 h3 h4 h5 h6 h7 h8 h9 h10 h11 h12 h13 h14 h15 h16 h17 h18 h19 h20 h21 h22 h23 h24 h25 _ ) [0] rfl (by decide) [] rfl 0 12 rfl rfl rfl rfl rfl ⟨(Nat.le_of_ble_eq_true rfl), (Nat.le_of_ble_eq_true rfl)⟩ hl.1 rfl rfl (Nat.le_of_ble_eq_true rfl) ⟨(Nat.le_of_ble_eq_true rfl), (Nat.le_of_ble_eq_true rfl)⟩ dX12_runs_55) (fun r w4632 => ?_)
  obtain rfl := w4632
  refine lv_pop C.1 C.2.1 dX12_runs_58 rfl ?_
  exact k_vret C hr hlk Wd () trivial [0, 1] rfl (by decide) [] rfl (by decide) (by decide) dX12_runs_59
set_option maxHeartbeats 4000000 in
set_option maxRecDepth 100000 in
theorem kcX12_keeps (l : Launch) (D : va_G) (h0 h1 h2 h3 h4 h5 h6 h7 h8 h9 h10 h11 h12 h13 h14 h15 h16 h17 h18 h19 h20 h21 h22 h23 h24 h25 : Nat) (a9 a11 a12 : ClassId) (sz : Nat)  : Met l yX12_keeps (Cond.code yX12_keeps cX12_keeps 3 none :: gG) { frames := 4, cells := 0, slots := 0, locals := 130 } (cPre D [(a9, .int), (a11, .int), (a12, .int)] [(h10, .inl (a9, 6, .inl (fun _ => 0))), (h0, .inr (12, [.ref h1, .ref h2, .ref h3, .ref h4, .int 0, .int 0, .ref h5, .int 0, .int 0, .int 0, .int 0, .int 0, .int 0, .int 0, .int 0, .int 0, .int 0, .int 0, .int 0, .int 0, .int (-1), .int 0, .int 0, .int 0, .ref h6, .ref h7, .ref h8, .ref h9, .ref h10, .ref h11, .int 0, .int 0, .int 0, .int 0, .ref h12, .ref h13, .ref h14, .int 0, .int 0, .int 0, .int 0, .ref h15, .ref h16, .int 0, .ref h17, .ref h18, .int 0, .ref h19, .int 0, .ref h20, .ref h21, .ref h22, .int 0, .ref h23, .ref h24, .ref h25])), (h12, .inl (a11, 256, .inl (fun _ => 0))), (h13, .inl (a12, 256, .inl (fun _ => 0)))] sz [.ref h0]) (va_Qv (fun (_ : (Nat → Int32)) => True) (fun u t => cB D (va_A [(h10, .inl (a9, 6, .inl (fun _ => 0))), (h0, .inr (12, [.ref h1, .ref h2, .ref h3, .ref h4, .int 0, .int 0, .ref h5, .int 0, .int 0, .int 0, .int 0, .int 0, .int 0, .int 0, .int 0, .int 0, .int 0, .int 0, .int 0, .int 0, .int (-1), .int 0, .int 0, .int 0, .ref h6, .ref h7, .ref h8, .ref h9, .ref h10, .ref h11, .int 0, .int 0, .int 0, .int 0, .ref h12, .ref h13, .ref h14, .int 0, .int 0, .int 0, .int 0, .ref h15, .ref h16, .int 0, .ref h17, .ref h18, .int 0, .ref h19, .int 0, .ref h20, .ref h21, .ref h22, .int 0, .ref h23, .ref h24, .ref h25])), (h12, .inl (a11, 256, .inl (fun _ => 0))), (h13, .inl (a12, 256, .inl (fun _ => 0)))] sz) ((fun fu4636 => []) u) ((fun fu4636 => [(h10, .inl (a9, 6, .inl fu4636)), (h0, .inr (12, [.ref h1, .ref h2, .ref h3, .ref h4, .int 0, .int 0, .ref h5, .int 0, .int 0, .int 0, .int 0, .int 0, .int 0, .int 0, .int 0, .int 0, .int 0, .int 0, .int 0, .int 0, .int (-1), .int 0, .int 0, .int 0, .ref h6, .ref h7, .ref h8, .ref h9, .ref h10, .ref h11, .int 0, .int 0, .int 0, .int 0, .ref h12, .ref h13, .ref h14, .int 0, .int 0, .int 0, .int 0, .ref h15, .ref h16, .int 0, .ref h17, .ref h18, .int 0, .ref h19, .int 0, .ref h20, .ref h21, .ref h22, .int 0, .ref h23, .ref h24, .ref h25])), (h12, .inl (a11, 256, .inl (fun _ => 0))), (h13, .inl (a12, 256, .inl (fun _ => 0)))]) u) t) (va_A [(h10, .inl (a9, 6, .inl (fun _ => 0))), (h0, .inr (12, [.ref h1, .ref h2, .ref h3, .ref h4, .int 0, .int 0, .ref h5, .int 0, .int 0, .int 0, .int 0, .int 0, .int 0, .int 0, .int 0, .int 0, .int 0, .int 0, .int 0, .int 0, .int (-1), .int 0, .int 0, .int 0, .ref h6, .ref h7, .ref h8, .ref h9, .ref h10, .ref h11, .int 0, .int 0, .int 0, .int 0, .ref h12, .ref h13, .ref h14, .int 0, .int 0, .int 0, .int 0, .ref h15, .ref h16, .int 0, .ref h17, .ref h18, .int 0, .ref h19, .int 0, .ref h20, .ref h21, .ref h22, .int 0, .ref h23, .ref h24, .ref h25])), (h12, .inl (a11, 256, .inl (fun _ => 0))), (h13, .inl (a12, 256, .inl (fun _ => 0)))] sz)) 0 0 (va_A [(h10, .inl (a9, 6, .inl (fun _ => 0))), (h0, .inr (12, [.ref h1, .ref h2, .ref h3, .ref h4, .int 0, .int 0, .ref h5, .int 0, .int 0, .int 0, .int 0, .int 0, .int 0, .int 0, .int 0, .int 0, .int 0, .int 0, .int 0, .int 0, .int (-1), .int 0, .int 0, .int 0, .ref h6, .ref h7, .ref h8, .ref h9, .ref h10, .ref h11, .int 0, .int 0, .int 0, .int 0, .ref h12, .ref h13, .ref h14, .int 0, .int 0, .int 0, .int 0, .ref h15, .ref h16, .int 0, .ref h17, .ref h18, .int 0, .ref h19, .int 0, .ref h20, .ref h21, .ref h22, .int 0, .ref h23, .ref h24, .ref h25])), (h12, .inl (a11, 256, .inl (fun _ => 0))), (h13, .inl (a12, 256, .inl (fun _ => 0)))] sz) := by
  refine Met.ofW (cc := cX12_keeps) (maxL := 3) (ret := none) (by decide) rfl ?_
  intro p e s m args below meth c s₁ B hml hv
  obtain ⟨rfl, aks, rfl, Wd⟩ := k_enter hv
  have C : CallFix p m c cX12_keeps 3 s _ gG RX12 := ⟨B.exec, B.bytes, hml, findClass_of_methodNamed B.named, fun w h => atoms_spec (ws := Cond.code yX12_keeps cX12_keeps 3 none :: gG) B.pre w (List.mem_cons_of_mem _ h)⟩
  have hr := B.returns
  have hlk := B.notSynchronized
  generalize va_A [(h10, .inl (a9, 6, .inl (fun _ => 0))), (h0, .inr (12, [.ref h1, .ref h2, .ref h3, .ref h4, .int 0, .int 0, .ref h5, .int 0, .int 0, .int 0, .int 0, .int 0, .int 0, .int 0, .int 0, .int 0, .int 0, .int 0, .int 0, .int 0, .int (-1), .int 0, .int 0, .int 0, .ref h6, .ref h7, .ref h8, .ref h9, .ref h10, .ref h11, .int 0, .int 0, .int 0, .int 0, .ref h12, .ref h13, .ref h14, .int 0, .int 0, .int 0, .int 0, .ref h15, .ref h16, .int 0, .ref h17, .ref h18, .int 0, .ref h19, .int 0, .ref h20, .ref h21, .ref h22, .int 0, .ref h23, .ref h24, .ref h25])), (h12, .inl (a11, 256, .inl (fun _ => 0))), (h13, .inl (a12, 256, .inl (fun _ => 0)))] s.heap.size = A at Wd ⊢
  refine k_locals (Nat.le_of_ble_eq_true rfl) [(0, .ref h0)] rfl (fun ls hl => ?_)
  refine lv_iconst (v := 0) C.1 C.2.1 dX12_keeps_0 (by decide) ?_
  refine lv_istore_n (lv' := [(1, .int 0), (0, .ref h0)]) C.1 C.2.1 dX12_keeps_1 rfl hl (by decide) rfl (fun ls hl => ?_)
  refine k_loop (X := Nat → Int32) (fun lx4635 fu4636 H locs ls => ¬ lx4635 < 0 ∧ lx4635 ≤ 256 ∧ wX D [(a9, .int), (a11, .int), (a12, .int)] s [(h10, .inl (a9, 6, .inl fu4636)), (h0, .inr (12, [.ref h1, .ref h2, .ref h3, .ref h4, .int 0, .int 0, .ref h5, .int 0, .int 0, .int 0, .int 0, .int 0, .int 0, .int 0, .int 0, .int 0, .int 0, .int 0, .int 0, .int 0, .int (-1), .int 0, .int 0, .int 0, .ref h6, .ref h7, .ref h8, .ref h9, .ref h10, .ref h11, .int 0, .int 0, .int 0, .int 0, .ref h12, .ref h13, .ref h14, .int 0, .int 0, .int 0, .int 0, .ref h15, .ref h16, .int 0, .ref h17, .ref h18, .int 0, .ref h19, .int 0, .ref h20, .ref h21, .ref h22, .int 0, .ref h23, .ref h24, .ref h25])), (h12, .inl (a11, 256, .inl (fun _ => 0))), (h13, .inl (a12, 256, .inl (fun _ => 0)))] H A s.heap locs ∧ lv_has ls 3 [(1, .int lx4635), (0, .ref h0)]) 2 256 (fun lx4635 fu4636 H locs ls hi ih4637 => ?_) 0 (fun _ => 0) _ _ _ ⟨by decide, by decide, Wd, hl⟩
  obtain ⟨li4638, li4639, Wd, hl⟩ := hi
  refine lv_iload_n C.1 C.2.1 dX12_keeps_2 rfl (lv_at hl 0 rfl) ?_
  refine lv_sipush (v := 256) C.1 C.2.1 dX12_keeps_3 (by decide) ?_
  refine lv_icmp_ge (tgt := 80) C.1 C.2.1 dX12_keeps_6 (by decide) (fun c4640 => ?_) (fun c4640 => ?_)
  · exact k_vret C hr hlk Wd fu4636 trivial [0, 1, 2, 3] rfl (by decide) [] rfl (by decide) (by decide) dX12_keeps_80
  · refine lv_aload_n C.1 C.2.1 dX12_keeps_9 rfl (lv_at hl 1 rfl) ?_
    refine lv_iload_n C.1 C.2.1 dX12_keeps_10 rfl (lv_at hl 0 rfl) ?_
    refine lv_bipush (v := 16) C.1 C.2.1 dX12_keeps_11 (by decide) ?_
    refine k_idiv (v := (lx4635 / 16)) C (by decide) rfl dX12_keeps_13 ?_
    refine lv_iload_n C.1 C.2.1 dX12_keeps_14 rfl (lv_at hl 0 rfl) ?_
    refine lv_bipush (v := 16) C.1 C.2.1 dX12_keeps_15 (by decide) ?_
    refine k_irem (v := (lx4635 - lx4635 / 16 * 16)) C (by decide) rfl dX12_keeps_17 ?_
    refine k_cv Wd [1, 0] [2, 3] rfl (wr := [(h12, .inl (a11, 256, .inl (fun _ => 0))), (h13, .inl (a12, 256, .inl (fun _ => 0)))]) rfl (by decide) (by decide) (cells' := 0) (slots' := 0) (by decide) (by decide) (k_runV (rest := []) C aks Wd cs_X12_315 (kcX12_runs_v1 l D h0 h1 h2 h3 h4 h5 h6 h7 h8 h9 h10 h11 h12 h13 h14 h15 h16 h17 h18 h19 h20 h21 h22 h23 h24 h25 (lx4635 / 16) (lx4635 - lx4635 / 16 * 16) fu4636 a9 _ ) [1, 0] rfl (by decide) [0] rfl 1 12 rfl rfl rfl rfl rfl ⟨(Nat.le_of_ble_eq_true rfl), (Nat.le_of_ble_eq_true rfl)⟩ hl.1 rfl rfl (Nat.le_of_ble_eq_true rfl) ⟨(Nat.le_of_ble_eq_true rfl), (Nat.le_of_ble_eq_true rfl)⟩ dX12_keeps_18) (fun _ H locs w4641 Wd => ?_)
    have Wd : wX D [(a9, .int), (a11, .int), (a12, .int)] s [(h12, .inl (a11, 256, .inl (fun _ => 0))), (h13, .inl (a12, 256, .inl (fun _ => 0))), (h0, .inr (12, [.ref h1, .ref h2, .ref h3, .ref h4, .int 0, .int 0, .ref h5, .int 0, .int 0, .int 0, .int 0, .int 0, .int 0, .int 0, .int 0, .int 0, .int 0, .int 0, .int 0, .int 0, .int (-1), .int 0, .int 0, .int 0, .ref h6, .ref h7, .ref h8, .ref h9, .ref h10, .ref h11, .int 0, .int 0, .int 0, .int 0, .ref h12, .ref h13, .ref h14, .int 0, .int 0, .int 0, .int 0, .ref h15, .ref h16, .int 0, .ref h17, .ref h18, .int 0, .ref h19, .int 0, .ref h20, .ref h21, .ref h22, .int 0, .ref h23, .ref h24, .ref h25])), (h10, .inl (a9, 6, .inl (upd (upd (upd (upd (upd (upd fu4636 0 (lx4635 / 16)) 1 (lx4635 - lx4635 / 16 * 16)) 2 0) 3 0) 4 0) 5 0)))] _ A s.heap _ := Wd
    refine lv_aload_n C.1 C.2.1 dX12_keeps_21 rfl (lv_at hl 1 rfl) ?_
    refine k_get C Wd KX12 2 34 rfl (by decide) fl_X12_47 rfl dX12_keeps_22 ?_
    refine lv_iload_n C.1 C.2.1 dX12_keeps_25 rfl (lv_at hl 0 rfl) ?_
    refine lv_aload_n C.1 C.2.1 dX12_keeps_26 rfl (lv_at hl 1 rfl) ?_
    refine k_get C Wd KX12 2 31 rfl (by decide) fl_X12_294 rfl dX12_keeps_27 ?_
    refine k_iast C Wd 0 1 [(h12, .inl (a11, 256, .inl (fun _ => 0))), (h13, .inl (a12, 256, .inl (fun _ => 0))), (h0, .inr (12, [.ref h1, .ref h2, .ref h3, .ref h4, .int 0, .int 0, .ref h5, .int 0, .int 0, .int 0, .int 0, .int 0, .int 0, .int 0, .int 0, .int 0, .int 0, .int 0, .int 0, .int 0, .int (-1), .int 0, .int 0, .int 0, .ref h6, .ref h7, .ref h8, .ref h9, .ref h10, .ref h11, .int 0, .int 0, .int 0, .int 0, .ref h12, .ref h13, .ref h14, .int 0, .int 0, .int 0, .int 0, .ref h15, .ref h16, .int 0, .ref h17, .ref h18, .int 0, .ref h19, .int 0, .ref h20, .ref h21, .ref h22, .int 0, .ref h23, .ref h24, .ref h25])), (h10, .inl (a9, 6, .inl (upd (upd (upd (upd (upd (upd fu4636 0 (lx4635 / 16)) 1 (lx4635 - lx4635 / 16 * 16)) 2 0) 3 0) 4 0) 5 0)))] rfl rfl (vp_in_iff.mpr ⟨by have z0 := kz_nlt li4638; have z1 := kz_le li4639; have z2 := kz_nle c4640; have t0 : (0 : Int32).toInt = 0 := (by decide); have t256 : (256 : Int32).toInt = 256 := (by decide); omega, by have z0 := kz_nlt li4638; have z1 := kz_le li4639; have z2 := kz_nle c4640; have t0 : (0 : Int32).toInt = 0 := (by decide); have t256 : (256 : Int32).toInt = 256 := (by decide); omega⟩) (upd0 _) rfl dX12_keeps_30 (fun H locs Wd => ?_)
    refine lv_aload_n C.1 C.2.1 dX12_keeps_31 rfl (lv_at hl 1 rfl) ?_
    refine k_get C Wd KX12 2 35 rfl (by decide) fl_X12_50 rfl dX12_keeps_32 ?_
    refine lv_iload_n C.1 C.2.1 dX12_keeps_35 rfl (lv_at hl 0 rfl) ?_
    refine lv_aload_n C.1 C.2.1 dX12_keeps_36 rfl (lv_at hl 1 rfl) ?_
    refine k_get C Wd KX12 2 32 rfl (by decide) fl_X12_312 rfl dX12_keeps_37 ?_
    refine k_iast C Wd 1 2 [(h12, .inl (a11, 256, .inl (fun _ => 0))), (h13, .inl (a12, 256, .inl (fun _ => 0))), (h0, .inr (12, [.ref h1, .ref h2, .ref h3, .ref h4, .int 0, .int 0, .ref h5, .int 0, .int 0, .int 0, .int 0, .int 0, .int 0, .int 0, .int 0, .int 0, .int 0, .int 0, .int 0, .int 0, .int (-1), .int 0, .int 0, .int 0, .ref h6, .ref h7, .ref h8, .ref h9, .ref h10, .ref h11, .int 0, .int 0, .int 0, .int 0, .ref h12, .ref h13, .ref h14, .int 0, .int 0, .int 0, .int 0, .ref h15, .ref h16, .int 0, .ref h17, .ref h18, .int 0, .ref h19, .int 0, .ref h20, .ref h21, .ref h22, .int 0, .ref h23, .ref h24, .ref h25])), (h10, .inl (a9, 6, .inl (upd (upd (upd (upd (upd (upd fu4636 0 (lx4635 / 16)) 1 (lx4635 - lx4635 / 16 * 16)) 2 0) 3 0) 4 0) 5 0)))] rfl rfl (vp_in_iff.mpr ⟨by have z0 := kz_nlt li4638; have z1 := kz_le li4639; have z2 := kz_nle c4640; have t0 : (0 : Int32).toInt = 0 := (by decide); have t256 : (256 : Int32).toInt = 256 := (by decide); omega, by have z0 := kz_nlt li4638; have z1 := kz_le li4639; have z2 := kz_nle c4640; have t0 : (0 : Int32).toInt = 0 := (by decide); have t256 : (256 : Int32).toInt = 256 := (by decide); omega⟩) (upd0 _) rfl dX12_keeps_40 (fun H locs Wd => ?_)
    refine lv_iconst (v := 0) C.1 C.2.1 dX12_keeps_41 (by decide) ?_
    refine lv_istore_n (lv' := [(2, .int 0), (1, .int lx4635), (0, .ref h0)]) C.1 C.2.1 dX12_keeps_42 rfl hl (by decide) rfl (fun ls hl => ?_)
    refine lv_iload_n C.1 C.2.1 dX12_keeps_43 rfl (lv_at hl 0 rfl) ?_
    refine lv_aload_n C.1 C.2.1 dX12_keeps_44 rfl (lv_at hl 2 rfl) ?_
    refine k_get C Wd KX12 2 32 rfl (by decide) fl_X12_312 rfl dX12_keeps_45 ?_
    refine lv_icmp_ge (tgt := 74) C.1 C.2.1 dX12_keeps_48 (by decide) (fun _ => ?_) (fun c4642 => absurd c4642 (by decide))
    refine lv_iinc (v := (lx4635 + 1)) (lv' := [(1, .int (lx4635 + 1)), (2, .int 0), (0, .ref h0)]) C.1 C.2.1 dX12_keeps_74 hl (k := 1) rfl rfl (by decide) rfl (fun ls hl => ?_)
    refine lv_goto (tgt := 2) C.1 C.2.1 dX12_keeps_77 (by decide) ?_
    exact ih4637 (lx4635 + 1) (upd (upd (upd (upd (upd (upd fu4636 0 (lx4635 / 16)) 1 (lx4635 - lx4635 / 16 * 16)) 2 0) 3 0) 4 0) 5 0) _ _ _ ⟨fun hq => by have zq := kz_lt hq; have z0 := kz_nlt li4638; have z1 := kz_le li4639; have z2 := kz_nle c4640; have zr := kz_rng lx4635; have z3 := kz_addI (a := lx4635) (b := 1); have t0 : (0 : Int32).toInt = 0 := (by decide); have t256 : (256 : Int32).toInt = 256 := (by decide); have t1 : (1 : Int32).toInt = 1 := (by decide); omega, Int32.le_iff_toInt_le.mpr (by have z0 := kz_nlt li4638; have z1 := kz_le li4639; have z2 := kz_nle c4640; have zr := kz_rng lx4635; have z3 := kz_addI (a := lx4635) (b := 1); have t0 : (0 : Int32).toInt = 0 := (by decide); have t256 : (256 : Int32).toInt = 256 := (by decide); have t1 : (1 : Int32).toInt = 1 := (by decide); omega), k_sub Wd [3, 2, 0, 1] rfl (by decide) [0, 1, 2] rfl, lv_sub hl [0, 2] rfl⟩ (by have z0 := kz_nlt li4638; have z1 := kz_le li4639; have z2 := kz_nle c4640; have zr := kz_rng lx4635; have z3 := kz_addI (a := lx4635) (b := 1); have t0 : (0 : Int32).toInt = 0 := (by decide); have t256 : (256 : Int32).toInt = 256 := (by decide); have t1 : (1 : Int32).toInt = 1 := (by decide); omega)
set_option maxHeartbeats 4000000 in
set_option maxRecDepth 100000 in
theorem kcX12_isLast_v1 (l : Launch) (D : va_G) (h0 h1 h2 h3 h4 h5 h6 h7 h8 h9 h10 h11 h12 h13 h14 h15 h16 h17 h18 h19 h20 h21 h22 h23 h24 h25 : Nat) (sz : Nat)  : Met l yX12_isLast (Cond.code yX12_isLast cX12_isLast 2 (some .boolean) :: gG) { frames := 1, cells := 0, slots := 0, locals := 64 } (cPre D [] [(h0, .inr (12, [.ref h1, .ref h2, .ref h3, .ref h4, .int 0, .int 0, .ref h5, .int 0, .int 0, .int 0, .int 0, .int 0, .int 0, .int 0, .int 0, .int 0, .int 0, .int 0, .int 0, .int 0, .int (-1), .int 0, .int 0, .int 0, .ref h6, .ref h7, .ref h8, .ref h9, .ref h10, .ref h11, .int 0, .int 0, .int 0, .int 0, .ref h12, .ref h13, .ref h14, .int (-1), .int (-1), .int 0, .int 0, .ref h15, .ref h16, .int 0, .ref h17, .ref h18, .int 0, .ref h19, .int 0, .ref h20, .ref h21, .ref h22, .int 0, .ref h23, .ref h24, .ref h25]))] sz [.ref h0, .int 0]) (vp_Si (fun r => r = 1)) 0 0 (fun _ => False) := by
  refine Met.ofW (cc := cX12_isLast) (maxL := 2) (ret := (some .boolean)) (by decide) rfl ?_
  intro p e s m args below meth c s₁ B hml hv
  obtain ⟨rfl, aks, rfl, Wd⟩ := k_enter hv
  have C : CallFix p m c cX12_isLast 2 s _ gG RX12 := ⟨B.exec, B.bytes, hml, findClass_of_methodNamed B.named, fun w h => atoms_spec (ws := Cond.code yX12_isLast cX12_isLast 2 (some .boolean) :: gG) B.pre w (List.mem_cons_of_mem _ h)⟩
  have hr := B.returns
  have hlk := B.notSynchronized
  obtain ⟨A, Wd⟩ : ∃ A, wX D [] s [(h0, .inr (12, [.ref h1, .ref h2, .ref h3, .ref h4, .int 0, .int 0, .ref h5, .int 0, .int 0, .int 0, .int 0, .int 0, .int 0, .int 0, .int 0, .int 0, .int 0, .int 0, .int 0, .int 0, .int (-1), .int 0, .int 0, .int 0, .ref h6, .ref h7, .ref h8, .ref h9, .ref h10, .ref h11, .int 0, .int 0, .int 0, .int 0, .ref h12, .ref h13, .ref h14, .int (-1), .int (-1), .int 0, .int 0, .ref h15, .ref h16, .int 0, .ref h17, .ref h18, .int 0, .ref h19, .int 0, .ref h20, .ref h21, .ref h22, .int 0, .ref h23, .ref h24, .ref h25]))] s.heap A s.heap [] := ⟨_, Wd⟩
  refine k_locals (Nat.le_of_ble_eq_true rfl) [(0, .ref h0), (1, .int 0)] rfl (fun ls hl => ?_)
  refine lv_iload_n C.1 C.2.1 dX12_isLast_0 rfl (lv_at hl 1 rfl) ?_
  refine lv_aload_n C.1 C.2.1 dX12_isLast_1 rfl (lv_at hl 0 rfl) ?_
  refine k_get C Wd KX12 0 4 rfl (by decide) fl_X12_98 rfl dX12_isLast_2 ?_
  refine lv_icmp_eq (tgt := 30) C.1 C.2.1 dX12_isLast_5 (by decide) (fun _ => ?_) (fun c4671 => absurd c4671 (by decide))
  refine lv_iconst (v := 1) C.1 C.2.1 dX12_isLast_30 (by decide) ?_
  refine lv_goto (tgt := 35) C.1 C.2.1 dX12_isLast_31 (by decide) ?_
  exact k_zretP C hr hlk rfl rfl dX12_isLast_35
set_option maxHeartbeats 4000000 in
set_option maxRecDepth 100000 in
theorem kcX12_does_v1 (l : Launch) (D : va_G) (h0 h1 h2 h3 h4 h5 h6 h7 h8 h9 h10 h11 h12 h13 h14 h15 h16 h17 h18 h19 h20 h21 h22 h23 h24 h25 : Nat) (sz : Nat)  : Met l yX12_does (Cond.code yX12_does cX12_does 3 (some .boolean) :: gG) { frames := 2, cells := 0, slots := 0, locals := 85 } (cPre D [] [(h0, .inr (12, [.ref h1, .ref h2, .ref h3, .ref h4, .int 0, .int 0, .ref h5, .int 0, .int 0, .int 0, .int 0, .int 0, .int 0, .int 0, .int 0, .int 0, .int 0, .int 0, .int 0, .int 0, .int (-1), .int 0, .int 0, .int 0, .ref h6, .ref h7, .ref h8, .ref h9, .ref h10, .ref h11, .int 0, .int 0, .int 0, .int 0, .ref h12, .ref h13, .ref h14, .int (-1), .int (-1), .int 0, .int 0, .ref h15, .ref h16, .int 0, .ref h17, .ref h18, .int 0, .ref h19, .int 0, .ref h20, .ref h21, .ref h22, .int 0, .ref h23, .ref h24, .ref h25]))] sz [.ref h0, .int 0]) (vp_Si (fun r => r = 1)) 0 0 (fun _ => False) := by
  refine Met.ofW (cc := cX12_does) (maxL := 3) (ret := (some .boolean)) (by decide) rfl ?_
  intro p e s m args below meth c s₁ B hml hv
  obtain ⟨rfl, aks, rfl, Wd⟩ := k_enter hv
  have C : CallFix p m c cX12_does 3 s _ gG RX12 := ⟨B.exec, B.bytes, hml, findClass_of_methodNamed B.named, fun w h => atoms_spec (ws := Cond.code yX12_does cX12_does 3 (some .boolean) :: gG) B.pre w (List.mem_cons_of_mem _ h)⟩
  have hr := B.returns
  have hlk := B.notSynchronized
  obtain ⟨A, Wd⟩ : ∃ A, wX D [] s [(h0, .inr (12, [.ref h1, .ref h2, .ref h3, .ref h4, .int 0, .int 0, .ref h5, .int 0, .int 0, .int 0, .int 0, .int 0, .int 0, .int 0, .int 0, .int 0, .int 0, .int 0, .int 0, .int 0, .int (-1), .int 0, .int 0, .int 0, .ref h6, .ref h7, .ref h8, .ref h9, .ref h10, .ref h11, .int 0, .int 0, .int 0, .int 0, .ref h12, .ref h13, .ref h14, .int (-1), .int (-1), .int 0, .int 0, .ref h15, .ref h16, .int 0, .ref h17, .ref h18, .int 0, .ref h19, .int 0, .ref h20, .ref h21, .ref h22, .int 0, .ref h23, .ref h24, .ref h25]))] s.heap A s.heap [] := ⟨_, Wd⟩
  refine k_locals (Nat.le_of_ble_eq_true rfl) [(0, .ref h0), (1, .int 0)] rfl (fun ls hl => ?_)
  refine lv_iload_n C.1 C.2.1 dX12_does_0 rfl (lv_at hl 1 rfl) ?_
  refine lv_istore_n (lv' := [(2, .int 0), (0, .ref h0), (1, .int 0)]) C.1 C.2.1 dX12_does_1 rfl hl (by decide) rfl (fun ls hl => ?_)
  refine lv_aload_n C.1 C.2.1 dX12_does_2 rfl (lv_at hl 1 rfl) ?_
  refine lv_iload_n C.1 C.2.1 dX12_does_3 rfl (lv_at hl 0 rfl) ?_
  refine k_pi (k_runV (rest := []) C aks Wd cs_X12_107 (kcX12_isLast_v1 l D h0 h1 h2 h3 h4 h5 h6 h7 h8 h9 h10 h11 h12 h13 h14 h15 h16 h17 h18 h19 h20 h21 h22 h23 h24 h25 _ ) [0] rfl (by decide) [] rfl 0 12 rfl rfl rfl rfl rfl ⟨(Nat.le_of_ble_eq_true rfl), (Nat.le_of_ble_eq_true rfl)⟩ hl.1 rfl rfl (Nat.le_of_ble_eq_true rfl) ⟨(Nat.le_of_ble_eq_true rfl), (Nat.le_of_ble_eq_true rfl)⟩ dX12_does_4) (fun r w4674 => ?_)
  obtain rfl := w4674
  refine lv_if_ne (tgt := 29) C.1 C.2.1 dX12_does_7 (by decide) (fun _ => ?_) (fun c4675 => absurd c4675 (by decide))
  refine lv_iconst (v := 1) C.1 C.2.1 dX12_does_29 (by decide) ?_
  exact k_zretP C hr hlk rfl rfl dX12_does_30
set_option maxHeartbeats 4000000 in
set_option maxRecDepth 100000 in
theorem kcX12_runs_v2 (l : Launch) (D : va_G) (h0 h1 h2 h3 h4 h5 h6 h7 h8 h9 h10 h11 h12 h13 h14 h15 h16 h17 h18 h19 h20 h21 h22 h23 h24 h25 : Nat) (x0 x1 : Int32) (f0 : Nat → Int32) (a9 : ClassId) (sz : Nat)  : Met l yX12_runs (Cond.code yX12_runs cX12_runs 4 none :: gG) { frames := 3, cells := 0, slots := 0, locals := 107 } (cPre D [(a9, .int)] [(h0, .inr (12, [.ref h1, .ref h2, .ref h3, .ref h4, .int 0, .int 0, .ref h5, .int 0, .int 0, .int 0, .int 0, .int 0, .int 0, .int 0, .int 0, .int 0, .int 0, .int 0, .int 0, .int 0, .int (-1), .int 0, .int 0, .int 0, .ref h6, .ref h7, .ref h8, .ref h9, .ref h10, .ref h11, .int 0, .int 0, .int 0, .int 0, .ref h12, .ref h13, .ref h14, .int (-1), .int (-1), .int 0, .int 0, .ref h15, .ref h16, .int 0, .ref h17, .ref h18, .int 0, .ref h19, .int 0, .ref h20, .ref h21, .ref h22, .int 0, .ref h23, .ref h24, .ref h25])), (h10, .inl (a9, 6, .inl f0))] sz [.ref h0, .int x0, .int x1]) (va_Qv (fun (_ : Unit) => True) (fun u t => cB D (va_A [(h0, .inr (12, [.ref h1, .ref h2, .ref h3, .ref h4, .int 0, .int 0, .ref h5, .int 0, .int 0, .int 0, .int 0, .int 0, .int 0, .int 0, .int 0, .int 0, .int 0, .int 0, .int 0, .int 0, .int (-1), .int 0, .int 0, .int 0, .ref h6, .ref h7, .ref h8, .ref h9, .ref h10, .ref h11, .int 0, .int 0, .int 0, .int 0, .ref h12, .ref h13, .ref h14, .int (-1), .int (-1), .int 0, .int 0, .ref h15, .ref h16, .int 0, .ref h17, .ref h18, .int 0, .ref h19, .int 0, .ref h20, .ref h21, .ref h22, .int 0, .ref h23, .ref h24, .ref h25])), (h10, .inl (a9, 6, .inl f0))] sz) ((fun (_ : Unit) => ([] : List (ClassId × FieldType))) u) ((fun (_ : Unit) => ([(h0, .inr (12, [.ref h1, .ref h2, .ref h3, .ref h4, .int 0, .int 0, .ref h5, .int 0, .int 0, .int 0, .int 0, .int 0, .int 0, .int 0, .int 0, .int 0, .int 0, .int 0, .int 0, .int 0, .int (-1), .int 0, .int 0, .int 0, .ref h6, .ref h7, .ref h8, .ref h9, .ref h10, .ref h11, .int 0, .int 0, .int 0, .int 0, .ref h12, .ref h13, .ref h14, .int (-1), .int (-1), .int 0, .int 0, .ref h15, .ref h16, .int 0, .ref h17, .ref h18, .int 0, .ref h19, .int 0, .ref h20, .ref h21, .ref h22, .int 0, .ref h23, .ref h24, .ref h25])), (h10, .inl (a9, 6, .inl (upd (upd (upd (upd (upd (upd f0 0 x0) 1 x1) 2 0) 3 0) 4 0) 5 0)))] : va_W)) u) t) (va_A [(h0, .inr (12, [.ref h1, .ref h2, .ref h3, .ref h4, .int 0, .int 0, .ref h5, .int 0, .int 0, .int 0, .int 0, .int 0, .int 0, .int 0, .int 0, .int 0, .int 0, .int 0, .int 0, .int 0, .int (-1), .int 0, .int 0, .int 0, .ref h6, .ref h7, .ref h8, .ref h9, .ref h10, .ref h11, .int 0, .int 0, .int 0, .int 0, .ref h12, .ref h13, .ref h14, .int (-1), .int (-1), .int 0, .int 0, .ref h15, .ref h16, .int 0, .ref h17, .ref h18, .int 0, .ref h19, .int 0, .ref h20, .ref h21, .ref h22, .int 0, .ref h23, .ref h24, .ref h25])), (h10, .inl (a9, 6, .inl f0))] sz)) 0 0 (va_A [(h0, .inr (12, [.ref h1, .ref h2, .ref h3, .ref h4, .int 0, .int 0, .ref h5, .int 0, .int 0, .int 0, .int 0, .int 0, .int 0, .int 0, .int 0, .int 0, .int 0, .int 0, .int 0, .int 0, .int (-1), .int 0, .int 0, .int 0, .ref h6, .ref h7, .ref h8, .ref h9, .ref h10, .ref h11, .int 0, .int 0, .int 0, .int 0, .ref h12, .ref h13, .ref h14, .int (-1), .int (-1), .int 0, .int 0, .ref h15, .ref h16, .int 0, .ref h17, .ref h18, .int 0, .ref h19, .int 0, .ref h20, .ref h21, .ref h22, .int 0, .ref h23, .ref h24, .ref h25])), (h10, .inl (a9, 6, .inl f0))] sz) := by
  refine Met.ofW (cc := cX12_runs) (maxL := 4) (ret := none) (by decide) rfl ?_
  intro p e s m args below meth c s₁ B hml hv
  obtain ⟨rfl, aks, rfl, Wd⟩ := k_enter hv
  have C : CallFix p m c cX12_runs 4 s _ gG RX12 := ⟨B.exec, B.bytes, hml, findClass_of_methodNamed B.named, fun w h => atoms_spec (ws := Cond.code yX12_runs cX12_runs 4 none :: gG) B.pre w (List.mem_cons_of_mem _ h)⟩
  have hr := B.returns
  have hlk := B.notSynchronized
  generalize va_A [(h0, .inr (12, [.ref h1, .ref h2, .ref h3, .ref h4, .int 0, .int 0, .ref h5, .int 0, .int 0, .int 0, .int 0, .int 0, .int 0, .int 0, .int 0, .int 0, .int 0, .int 0, .int 0, .int 0, .int (-1), .int 0, .int 0, .int 0, .ref h6, .ref h7, .ref h8, .ref h9, .ref h10, .ref h11, .int 0, .int 0, .int 0, .int 0, .ref h12, .ref h13, .ref h14, .int (-1), .int (-1), .int 0, .int 0, .ref h15, .ref h16, .int 0, .ref h17, .ref h18, .int 0, .ref h19, .int 0, .ref h20, .ref h21, .ref h22, .int 0, .ref h23, .ref h24, .ref h25])), (h10, .inl (a9, 6, .inl f0))] s.heap.size = A at Wd ⊢
  refine k_locals (Nat.le_of_ble_eq_true rfl) [(0, .ref h0), (1, .int x0), (2, .int x1)] rfl (fun ls hl => ?_)
  refine lv_iconst (v := 0) C.1 C.2.1 dX12_runs_0 (by decide) ?_
  refine lv_istore_n (lv' := [(3, .int 0), (0, .ref h0), (1, .int x0), (2, .int x1)]) C.1 C.2.1 dX12_runs_1 rfl hl (by decide) rfl (fun ls hl => ?_)
  refine lv_iload_n C.1 C.2.1 dX12_runs_2 rfl (lv_at hl 0 rfl) ?_
  refine lv_bipush (v := 6) C.1 C.2.1 dX12_runs_3 (by decide) ?_
  refine lv_icmp_ge (tgt := 38) C.1 C.2.1 dX12_runs_5 (by decide) (fun c4677 => absurd c4677 (by decide)) (fun _ => ?_)
  refine lv_aload_n C.1 C.2.1 dX12_runs_8 rfl (lv_at hl 1 rfl) ?_
  refine k_get C Wd KX12 0 28 rfl (by decide) fl_X12_41 rfl dX12_runs_9 ?_
  refine lv_iload_n C.1 C.2.1 dX12_runs_12 rfl (lv_at hl 0 rfl) ?_
  refine lv_iload_n C.1 C.2.1 dX12_runs_13 rfl (lv_at hl 0 rfl) ?_
  refine lv_if_ne (tgt := 21) C.1 C.2.1 dX12_runs_14 (by decide) (fun c4678 => absurd c4678 (by decide)) (fun _ => ?_)
  refine lv_iload_n C.1 C.2.1 dX12_runs_17 rfl (lv_at hl 2 rfl) ?_
  refine lv_goto (tgt := 31) C.1 C.2.1 dX12_runs_18 (by decide) ?_
  refine k_iast C Wd 1 0 [(h0, .inr (12, [.ref h1, .ref h2, .ref h3, .ref h4, .int 0, .int 0, .ref h5, .int 0, .int 0, .int 0, .int 0, .int 0, .int 0, .int 0, .int 0, .int 0, .int 0, .int 0, .int 0, .int 0, .int (-1), .int 0, .int 0, .int 0, .ref h6, .ref h7, .ref h8, .ref h9, .ref h10, .ref h11, .int 0, .int 0, .int 0, .int 0, .ref h12, .ref h13, .ref h14, .int (-1), .int (-1), .int 0, .int 0, .ref h15, .ref h16, .int 0, .ref h17, .ref h18, .int 0, .ref h19, .int 0, .ref h20, .ref h21, .ref h22, .int 0, .ref h23, .ref h24, .ref h25])), (h10, .inl (a9, 6, .inl (upd f0 0 x0)))] rfl rfl (vp_in_iff.mpr (by decide)) rfl rfl dX12_runs_31 (fun H locs Wd => ?_)
  refine lv_iinc (v := 1) (lv' := [(3, .int 1), (0, .ref h0), (1, .int x0), (2, .int x1)]) C.1 C.2.1 dX12_runs_32 hl (k := 0) rfl (by decide) (by decide) rfl (fun ls hl => ?_)
  refine lv_goto (tgt := 2) C.1 C.2.1 dX12_runs_35 (by decide) ?_
  refine lv_iload_n C.1 C.2.1 dX12_runs_2 rfl (lv_at hl 0 rfl) ?_
  refine lv_bipush (v := 6) C.1 C.2.1 dX12_runs_3 (by decide) ?_
  refine lv_icmp_ge (tgt := 38) C.1 C.2.1 dX12_runs_5 (by decide) (fun c4679 => absurd c4679 (by decide)) (fun _ => ?_)
  refine lv_aload_n C.1 C.2.1 dX12_runs_8 rfl (lv_at hl 1 rfl) ?_
  refine k_get C Wd KX12 0 28 rfl (by decide) fl_X12_41 rfl dX12_runs_9 ?_
  refine lv_iload_n C.1 C.2.1 dX12_runs_12 rfl (lv_at hl 0 rfl) ?_
  refine lv_iload_n C.1 C.2.1 dX12_runs_13 rfl (lv_at hl 0 rfl) ?_
  refine lv_if_ne (tgt := 21) C.1 C.2.1 dX12_runs_14 (by decide) (fun _ => ?_) (fun c4680 => absurd c4680 (by decide))
  refine lv_iload_n C.1 C.2.1 dX12_runs_21 rfl (lv_at hl 0 rfl) ?_
  refine lv_iconst (v := 1) C.1 C.2.1 dX12_runs_22 (by decide) ?_
  refine lv_icmp_ne (tgt := 30) C.1 C.2.1 dX12_runs_23 (by decide) (fun c4681 => absurd c4681 (by decide)) (fun _ => ?_)
  refine lv_iload_n C.1 C.2.1 dX12_runs_26 rfl (lv_at hl 3 rfl) ?_
  refine lv_goto (tgt := 31) C.1 C.2.1 dX12_runs_27 (by decide) ?_
  refine k_iast C Wd 1 0 [(h0, .inr (12, [.ref h1, .ref h2, .ref h3, .ref h4, .int 0, .int 0, .ref h5, .int 0, .int 0, .int 0, .int 0, .int 0, .int 0, .int 0, .int 0, .int 0, .int 0, .int 0, .int 0, .int 0, .int (-1), .int 0, .int 0, .int 0, .ref h6, .ref h7, .ref h8, .ref h9, .ref h10, .ref h11, .int 0, .int 0, .int 0, .int 0, .ref h12, .ref h13, .ref h14, .int (-1), .int (-1), .int 0, .int 0, .ref h15, .ref h16, .int 0, .ref h17, .ref h18, .int 0, .ref h19, .int 0, .ref h20, .ref h21, .ref h22, .int 0, .ref h23, .ref h24, .ref h25])), (h10, .inl (a9, 6, .inl (upd (upd f0 0 x0) 1 x1)))] rfl rfl (vp_in_iff.mpr (by decide)) rfl rfl dX12_runs_31 (fun H locs Wd => ?_)
  refine lv_iinc (v := 2) (lv' := [(3, .int 2), (0, .ref h0), (1, .int x0), (2, .int x1)]) C.1 C.2.1 dX12_runs_32 hl (k := 0) rfl (by decide) (by decide) rfl (fun ls hl => ?_)
  refine lv_goto (tgt := 2) C.1 C.2.1 dX12_runs_35 (by decide) ?_
  refine lv_iload_n C.1 C.2.1 dX12_runs_2 rfl (lv_at hl 0 rfl) ?_
  refine lv_bipush (v := 6) C.1 C.2.1 dX12_runs_3 (by decide) ?_
  refine lv_icmp_ge (tgt := 38) C.1 C.2.1 dX12_runs_5 (by decide) (fun c4682 => absurd c4682 (by decide)) (fun _ => ?_)
  refine lv_aload_n C.1 C.2.1 dX12_runs_8 rfl (lv_at hl 1 rfl) ?_
  refine k_get C Wd KX12 0 28 rfl (by decide) fl_X12_41 rfl dX12_runs_9 ?_
  refine lv_iload_n C.1 C.2.1 dX12_runs_12 rfl (lv_at hl 0 rfl) ?_
  refine lv_iload_n C.1 C.2.1 dX12_runs_13 rfl (lv_at hl 0 rfl) ?_
  refine lv_if_ne (tgt := 21) C.1 C.2.1 dX12_runs_14 (by decide) (fun _ => ?_) (fun c4683 => absurd c4683 (by decide))
  refine lv_iload_n C.1 C.2.1 dX12_runs_21 rfl (lv_at hl 0 rfl) ?_
  refine lv_iconst (v := 1) C.1 C.2.1 dX12_runs_22 (by decide) ?_
  refine lv_icmp_ne (tgt := 30) C.1 C.2.1 dX12_runs_23 (by decide) (fun _ => ?_) (fun c4684 => absurd c4684 (by decide))
  refine lv_iconst (v := 0) C.1 C.2.1 dX12_runs_30 (by decide) ?_
  refine k_iast C Wd 1 0 [(h0, .inr (12, [.ref h1, .ref h2, .ref h3, .ref h4, .int 0, .int 0, .ref h5, .int 0, .int 0, .int 0, .int 0, .int 0, .int 0, .int 0, .int 0, .int 0, .int 0, .int 0, .int 0, .int 0, .int (-1), .int 0, .int 0, .int 0, .ref h6, .ref h7, .ref h8, .ref h9, .ref h10, .ref h11, .int 0, .int 0, .int 0, .int 0, .ref h12, .ref h13, .ref h14, .int (-1), .int (-1), .int 0, .int 0, .ref h15, .ref h16, .int 0, .ref h17, .ref h18, .int 0, .ref h19, .int 0, .ref h20, .ref h21, .ref h22, .int 0, .ref h23, .ref h24, .ref h25])), (h10, .inl (a9, 6, .inl (upd (upd (upd f0 0 x0) 1 x1) 2 0)))] rfl rfl (vp_in_iff.mpr (by decide)) rfl rfl dX12_runs_31 (fun H locs Wd => ?_)
  refine lv_iinc (v := 3) (lv' := [(3, .int 3), (0, .ref h0), (1, .int x0), (2, .int x1)]) C.1 C.2.1 dX12_runs_32 hl (k := 0) rfl (by decide) (by decide) rfl (fun ls hl => ?_)
  refine lv_goto (tgt := 2) C.1 C.2.1 dX12_runs_35 (by decide) ?_
  refine lv_iload_n C.1 C.2.1 dX12_runs_2 rfl (lv_at hl 0 rfl) ?_
  refine lv_bipush (v := 6) C.1 C.2.1 dX12_runs_3 (by decide) ?_
  refine lv_icmp_ge (tgt := 38) C.1 C.2.1 dX12_runs_5 (by decide) (fun c4685 => absurd c4685 (by decide)) (fun _ => ?_)
  refine lv_aload_n C.1 C.2.1 dX12_runs_8 rfl (lv_at hl 1 rfl) ?_
  refine k_get C Wd KX12 0 28 rfl (by decide) fl_X12_41 rfl dX12_runs_9 ?_
  refine lv_iload_n C.1 C.2.1 dX12_runs_12 rfl (lv_at hl 0 rfl) ?_
  refine lv_iload_n C.1 C.2.1 dX12_runs_13 rfl (lv_at hl 0 rfl) ?_
  refine lv_if_ne (tgt := 21) C.1 C.2.1 dX12_runs_14 (by decide) (fun _ => ?_) (fun c4686 => absurd c4686 (by decide))
  refine lv_iload_n C.1 C.2.1 dX12_runs_21 rfl (lv_at hl 0 rfl) ?_
  refine lv_iconst (v := 1) C.1 C.2.1 dX12_runs_22 (by decide) ?_
  refine lv_icmp_ne (tgt := 30) C.1 C.2.1 dX12_runs_23 (by decide) (fun _ => ?_) (fun c4687 => absurd c4687 (by decide))
  refine lv_iconst (v := 0) C.1 C.2.1 dX12_runs_30 (by decide) ?_
  refine k_iast C Wd 1 0 [(h0, .inr (12, [.ref h1, .ref h2, .ref h3, .ref h4, .int 0, .int 0, .ref h5, .int 0, .int 0, .int 0, .int 0, .int 0, .int 0, .int 0, .int 0, .int 0, .int 0, .int 0, .int 0, .int 0, .int (-1), .int 0, .int 0, .int 0, .ref h6, .ref h7, .ref h8, .ref h9, .ref h10, .ref h11, .int 0, .int 0, .int 0, .int 0, .ref h12, .ref h13, .ref h14, .int (-1), .int (-1), .int 0, .int 0, .ref h15, .ref h16, .int 0, .ref h17, .ref h18, .int 0, .ref h19, .int 0, .ref h20, .ref h21, .ref h22, .int 0, .ref h23, .ref h24, .ref h25])), (h10, .inl (a9, 6, .inl (upd (upd (upd (upd f0 0 x0) 1 x1) 2 0) 3 0)))] rfl rfl (vp_in_iff.mpr (by decide)) rfl rfl dX12_runs_31 (fun H locs Wd => ?_)
  refine lv_iinc (v := 4) (lv' := [(3, .int 4), (0, .ref h0), (1, .int x0), (2, .int x1)]) C.1 C.2.1 dX12_runs_32 hl (k := 0) rfl (by decide) (by decide) rfl (fun ls hl => ?_)
  refine lv_goto (tgt := 2) C.1 C.2.1 dX12_runs_35 (by decide) ?_
  refine lv_iload_n C.1 C.2.1 dX12_runs_2 rfl (lv_at hl 0 rfl) ?_
  refine lv_bipush (v := 6) C.1 C.2.1 dX12_runs_3 (by decide) ?_
  refine lv_icmp_ge (tgt := 38) C.1 C.2.1 dX12_runs_5 (by decide) (fun c4688 => absurd c4688 (by decide)) (fun _ => ?_)
  refine lv_aload_n C.1 C.2.1 dX12_runs_8 rfl (lv_at hl 1 rfl) ?_
  refine k_get C Wd KX12 0 28 rfl (by decide) fl_X12_41 rfl dX12_runs_9 ?_
  refine lv_iload_n C.1 C.2.1 dX12_runs_12 rfl (lv_at hl 0 rfl) ?_
  refine lv_iload_n C.1 C.2.1 dX12_runs_13 rfl (lv_at hl 0 rfl) ?_
  refine lv_if_ne (tgt := 21) C.1 C.2.1 dX12_runs_14 (by decide) (fun _ => ?_) (fun c4689 => absurd c4689 (by decide))
  refine lv_iload_n C.1 C.2.1 dX12_runs_21 rfl (lv_at hl 0 rfl) ?_
  refine lv_iconst (v := 1) C.1 C.2.1 dX12_runs_22 (by decide) ?_
  refine lv_icmp_ne (tgt := 30) C.1 C.2.1 dX12_runs_23 (by decide) (fun _ => ?_) (fun c4690 => absurd c4690 (by decide))
  refine lv_iconst (v := 0) C.1 C.2.1 dX12_runs_30 (by decide) ?_
  refine k_iast C Wd 1 0 [(h0, .inr (12, [.ref h1, .ref h2, .ref h3, .ref h4, .int 0, .int 0, .ref h5, .int 0, .int 0, .int 0, .int 0, .int 0, .int 0, .int 0, .int 0, .int 0, .int 0, .int 0, .int 0, .int 0, .int (-1), .int 0, .int 0, .int 0, .ref h6, .ref h7, .ref h8, .ref h9, .ref h10, .ref h11, .int 0, .int 0, .int 0, .int 0, .ref h12, .ref h13, .ref h14, .int (-1), .int (-1), .int 0, .int 0, .ref h15, .ref h16, .int 0, .ref h17, .ref h18, .int 0, .ref h19, .int 0, .ref h20, .ref h21, .ref h22, .int 0, .ref h23, .ref h24, .ref h25])), (h10, .inl (a9, 6, .inl (upd (upd (upd (upd (upd f0 0 x0) 1 x1) 2 0) 3 0) 4 0)))] rfl rfl (vp_in_iff.mpr (by decide)) rfl rfl dX12_runs_31 (fun H locs Wd => ?_)
  refine lv_iinc (v := 5) (lv' := [(3, .int 5), (0, .ref h0), (1, .int x0), (2, .int x1)]) C.1 C.2.1 dX12_runs_32 hl (k := 0) rfl (by decide) (by decide) rfl (fun ls hl => ?_)
  refine lv_goto (tgt := 2) C.1 C.2.1 dX12_runs_35 (by decide) ?_
  refine lv_iload_n C.1 C.2.1 dX12_runs_2 rfl (lv_at hl 0 rfl) ?_
  refine lv_bipush (v := 6) C.1 C.2.1 dX12_runs_3 (by decide) ?_
  refine lv_icmp_ge (tgt := 38) C.1 C.2.1 dX12_runs_5 (by decide) (fun c4691 => absurd c4691 (by decide)) (fun _ => ?_)
  refine lv_aload_n C.1 C.2.1 dX12_runs_8 rfl (lv_at hl 1 rfl) ?_
  refine k_get C Wd KX12 0 28 rfl (by decide) fl_X12_41 rfl dX12_runs_9 ?_
  refine lv_iload_n C.1 C.2.1 dX12_runs_12 rfl (lv_at hl 0 rfl) ?_
  refine lv_iload_n C.1 C.2.1 dX12_runs_13 rfl (lv_at hl 0 rfl) ?_
  refine lv_if_ne (tgt := 21) C.1 C.2.1 dX12_runs_14 (by decide) (fun _ => ?_) (fun c4692 => absurd c4692 (by decide))
  refine lv_iload_n C.1 C.2.1 dX12_runs_21 rfl (lv_at hl 0 rfl) ?_
  refine lv_iconst (v := 1) C.1 C.2.1 dX12_runs_22 (by decide) ?_
  refine lv_icmp_ne (tgt := 30) C.1 C.2.1 dX12_runs_23 (by decide) (fun _ => ?_) (fun c4693 => absurd c4693 (by decide))
  refine lv_iconst (v := 0) C.1 C.2.1 dX12_runs_30 (by decide) ?_
  refine k_iast C Wd 1 0 [(h0, .inr (12, [.ref h1, .ref h2, .ref h3, .ref h4, .int 0, .int 0, .ref h5, .int 0, .int 0, .int 0, .int 0, .int 0, .int 0, .int 0, .int 0, .int 0, .int 0, .int 0, .int 0, .int 0, .int (-1), .int 0, .int 0, .int 0, .ref h6, .ref h7, .ref h8, .ref h9, .ref h10, .ref h11, .int 0, .int 0, .int 0, .int 0, .ref h12, .ref h13, .ref h14, .int (-1), .int (-1), .int 0, .int 0, .ref h15, .ref h16, .int 0, .ref h17, .ref h18, .int 0, .ref h19, .int 0, .ref h20, .ref h21, .ref h22, .int 0, .ref h23, .ref h24, .ref h25])), (h10, .inl (a9, 6, .inl (upd (upd (upd (upd (upd (upd f0 0 x0) 1 x1) 2 0) 3 0) 4 0) 5 0)))] rfl rfl (vp_in_iff.mpr (by decide)) rfl rfl dX12_runs_31 (fun H locs Wd => ?_)
  refine lv_iinc (v := 6) (lv' := [(3, .int 6), (0, .ref h0), (1, .int x0), (2, .int x1)]) C.1 C.2.1 dX12_runs_32 hl (k := 0) rfl (by decide) (by decide) rfl (fun ls hl => ?_)
  refine lv_goto (tgt := 2) C.1 C.2.1 dX12_runs_35 (by decide) ?_
  refine lv_iload_n C.1 C.2.1 dX12_runs_2 rfl (lv_at hl 0 rfl) ?_
  refine lv_bipush (v := 6) C.1 C.2.1 dX12_runs_3 (by decide) ?_
  refine lv_icmp_ge (tgt := 38) C.1 C.2.1 dX12_runs_5 (by decide) (fun _ => ?_) (fun c4694 => absurd c4694 (by decide))
  refine lv_aload_n C.1 C.2.1 dX12_runs_38 rfl (lv_at hl 1 rfl) ?_
  refine lv_iconst (v := 0) C.1 C.2.1 dX12_runs_39 (by decide) ?_
  refine k_put C Wd KX12 0 30 [(h0, .inr (12, [.ref h1, .ref h2, .ref h3, .ref h4, .int 0, .int 0, .ref h5, .int 0, .int 0, .int 0, .int 0, .int 0, .int 0, .int 0, .int 0, .int 0, .int 0, .int 0, .int 0, .int 0, .int (-1), .int 0, .int 0, .int 0, .ref h6, .ref h7, .ref h8, .ref h9, .ref h10, .ref h11, .int 0, .int 0, .int 0, .int 0, .ref h12, .ref h13, .ref h14, .int (-1), .int (-1), .int 0, .int 0, .ref h15, .ref h16, .int 0, .ref h17, .ref h18, .int 0, .ref h19, .int 0, .ref h20, .ref h21, .ref h22, .int 0, .ref h23, .ref h24, .ref h25])), (h10, .inl (a9, 6, .inl (upd (upd (upd (upd (upd (upd f0 0 x0) 1 x1) 2 0) 3 0) 4 0) 5 0)))] rfl (by decide) fl_X12_291 rfl rfl rfl (Nat.le_of_ble_eq_true rfl) rfl dX12_runs_40 (fun H locs Wd => ?_)
  refine lv_aload_n C.1 C.2.1 dX12_runs_43 rfl (lv_at hl 1 rfl) ?_
  refine lv_iconst (v := 0) C.1 C.2.1 dX12_runs_44 (by decide) ?_
  refine k_put C Wd KX12 0 31 [(h0, .inr (12, [.ref h1, .ref h2, .ref h3, .ref h4, .int 0, .int 0, .ref h5, .int 0, .int 0, .int 0, .int 0, .int 0, .int 0, .int 0, .int 0, .int 0, .int 0, .int 0, .int 0, .int 0, .int (-1), .int 0, .int 0, .int 0, .ref h6, .ref h7, .ref h8, .ref h9, .ref h10, .ref h11, .int 0, .int 0, .int 0, .int 0, .ref h12, .ref h13, .ref h14, .int (-1), .int (-1), .int 0, .int 0, .ref h15, .ref h16, .int 0, .ref h17, .ref h18, .int 0, .ref h19, .int 0, .ref h20, .ref h21, .ref h22, .int 0, .ref h23, .ref h24, .ref h25])), (h10, .inl (a9, 6, .inl (upd (upd (upd (upd (upd (upd f0 0 x0) 1 x1) 2 0) 3 0) 4 0) 5 0)))] rfl (by decide) fl_X12_294 rfl rfl rfl (Nat.le_of_ble_eq_true rfl) rfl dX12_runs_45 (fun H locs Wd => ?_)
  refine lv_aload_n C.1 C.2.1 dX12_runs_48 rfl (lv_at hl 1 rfl) ?_
  refine lv_iconst (v := 0) C.1 C.2.1 dX12_runs_49 (by decide) ?_
  refine k_put C Wd KX12 0 32 [(h0, .inr (12, [.ref h1, .ref h2, .ref h3, .ref h4, .int 0, .int 0, .ref h5, .int 0, .int 0, .int 0, .int 0, .int 0, .int 0, .int 0, .int 0, .int 0, .int 0, .int 0, .int 0, .int 0, .int (-1), .int 0, .int 0, .int 0, .ref h6, .ref h7, .ref h8, .ref h9, .ref h10, .ref h11, .int 0, .int 0, .int 0, .int 0, .ref h12, .ref h13, .ref h14, .int (-1), .int (-1), .int 0, .int 0, .ref h15, .ref h16, .int 0, .ref h17, .ref h18, .int 0, .ref h19, .int 0, .ref h20, .ref h21, .ref h22, .int 0, .ref h23, .ref h24, .ref h25])), (h10, .inl (a9, 6, .inl (upd (upd (upd (upd (upd (upd f0 0 x0) 1 x1) 2 0) 3 0) 4 0) 5 0)))] rfl (by decide) fl_X12_312 rfl rfl rfl (Nat.le_of_ble_eq_true rfl) rfl dX12_runs_50 (fun H locs Wd => ?_)
  refine lv_aload_n C.1 C.2.1 dX12_runs_53 rfl (lv_at hl 1 rfl) ?_
  refine lv_iconst (v := 0) C.1 C.2.1 dX12_runs_54 (by decide) ?_
  refine k_pi (k_runV (rest := []) C aks Wd cs_X12_306 (kcX12_does_v1 l D h0 h1 h2 h3 h4 h5 h6 h7 h8 h9 h10 h11 h12 h13 h14 h15 h16 h17 h18 h19 h20 h21 h22 h23 h24 h25 _ ) [0] rfl (by decide) [] rfl 0 12 rfl rfl rfl rfl rfl ⟨(Nat.le_of_ble_eq_true rfl), (Nat.le_of_ble_eq_true rfl)⟩ hl.1 rfl rfl (Nat.le_of_ble_eq_true rfl) ⟨(Nat.le_of_ble_eq_true rfl), (Nat.le_of_ble_eq_true rfl)⟩ dX12_runs_55) (fun r w4695 => ?_)
  obtain rfl := w4695
  refine lv_pop C.1 C.2.1 dX12_runs_58 rfl ?_
  exact k_vret C hr hlk Wd () trivial [0, 1] rfl (by decide) [] rfl (by decide) (by decide) dX12_runs_59
set_option maxHeartbeats 4000000 in
set_option maxRecDepth 100000 in
theorem kcX12_compares (l : Launch) (D : va_G) (h0 h1 h2 h3 h4 h5 h6 h7 h8 h9 h10 h11 h12 h13 h14 h15 h16 h17 h18 h19 h20 h21 h22 h23 h24 h25 : Nat) (f0 : Nat → Int32) (a9 a11 a12 : ClassId) (sz : Nat)  : Met l yX12_compares (Cond.code yX12_compares cX12_compares 5 none :: gG) { frames := 4, cells := 0, slots := 0, locals := 130 } (cPre D [(a9, .int), (a11, .int), (a12, .int)] [(h0, .inr (12, [.ref h1, .ref h2, .ref h3, .ref h4, .int 0, .int 0, .ref h5, .int 0, .int 0, .int 0, .int 0, .int 0, .int 0, .int 0, .int 0, .int 0, .int 0, .int 0, .int 0, .int 0, .int (-1), .int 0, .int 0, .int 0, .ref h6, .ref h7, .ref h8, .ref h9, .ref h10, .ref h11, .int 0, .int 0, .int 0, .int 0, .ref h12, .ref h13, .ref h14, .int 0, .int 0, .int 0, .int 0, .ref h15, .ref h16, .int 0, .ref h17, .ref h18, .int 0, .ref h19, .int 0, .ref h20, .ref h21, .ref h22, .int 0, .ref h23, .ref h24, .ref h25])), (h10, .inl (a9, 6, .inl f0)), (h12, .inl (a11, 256, .inl (fun _ => 0))), (h13, .inl (a12, 256, .inl (fun _ => 0)))] sz [.ref h0]) (va_Qv (fun (_ : (Nat → Int32)) => True) (fun u t => cB D (va_A [(h0, .inr (12, [.ref h1, .ref h2, .ref h3, .ref h4, .int 0, .int 0, .ref h5, .int 0, .int 0, .int 0, .int 0, .int 0, .int 0, .int 0, .int 0, .int 0, .int 0, .int 0, .int 0, .int 0, .int (-1), .int 0, .int 0, .int 0, .ref h6, .ref h7, .ref h8, .ref h9, .ref h10, .ref h11, .int 0, .int 0, .int 0, .int 0, .ref h12, .ref h13, .ref h14, .int 0, .int 0, .int 0, .int 0, .ref h15, .ref h16, .int 0, .ref h17, .ref h18, .int 0, .ref h19, .int 0, .ref h20, .ref h21, .ref h22, .int 0, .ref h23, .ref h24, .ref h25])), (h10, .inl (a9, 6, .inl f0)), (h12, .inl (a11, 256, .inl (fun _ => 0))), (h13, .inl (a12, 256, .inl (fun _ => 0)))] sz) ((fun fu4708 => []) u) ((fun fu4708 => [(h0, .inr (12, [.ref h1, .ref h2, .ref h3, .ref h4, .int 0, .int 0, .ref h5, .int 0, .int 0, .int 0, .int 0, .int 0, .int 0, .int 0, .int 0, .int 0, .int 0, .int 0, .int 0, .int 0, .int (-1), .int 0, .int 0, .int 0, .ref h6, .ref h7, .ref h8, .ref h9, .ref h10, .ref h11, .int 0, .int 0, .int 0, .int 0, .ref h12, .ref h13, .ref h14, .int (-1), .int (-1), .int 0, .int 0, .ref h15, .ref h16, .int 0, .ref h17, .ref h18, .int 0, .ref h19, .int 0, .ref h20, .ref h21, .ref h22, .int 0, .ref h23, .ref h24, .ref h25])), (h10, .inl (a9, 6, .inl fu4708)), (h12, .inl (a11, 256, .inl (fun _ => 0))), (h13, .inl (a12, 256, .inl (fun _ => 0)))]) u) t) (va_A [(h0, .inr (12, [.ref h1, .ref h2, .ref h3, .ref h4, .int 0, .int 0, .ref h5, .int 0, .int 0, .int 0, .int 0, .int 0, .int 0, .int 0, .int 0, .int 0, .int 0, .int 0, .int 0, .int 0, .int (-1), .int 0, .int 0, .int 0, .ref h6, .ref h7, .ref h8, .ref h9, .ref h10, .ref h11, .int 0, .int 0, .int 0, .int 0, .ref h12, .ref h13, .ref h14, .int 0, .int 0, .int 0, .int 0, .ref h15, .ref h16, .int 0, .ref h17, .ref h18, .int 0, .ref h19, .int 0, .ref h20, .ref h21, .ref h22, .int 0, .ref h23, .ref h24, .ref h25])), (h10, .inl (a9, 6, .inl f0)), (h12, .inl (a11, 256, .inl (fun _ => 0))), (h13, .inl (a12, 256, .inl (fun _ => 0)))] sz)) 0 0 (va_A [(h0, .inr (12, [.ref h1, .ref h2, .ref h3, .ref h4, .int 0, .int 0, .ref h5, .int 0, .int 0, .int 0, .int 0, .int 0, .int 0, .int 0, .int 0, .int 0, .int 0, .int 0, .int 0, .int 0, .int (-1), .int 0, .int 0, .int 0, .ref h6, .ref h7, .ref h8, .ref h9, .ref h10, .ref h11, .int 0, .int 0, .int 0, .int 0, .ref h12, .ref h13, .ref h14, .int 0, .int 0, .int 0, .int 0, .ref h15, .ref h16, .int 0, .ref h17, .ref h18, .int 0, .ref h19, .int 0, .ref h20, .ref h21, .ref h22, .int 0, .ref h23, .ref h24, .ref h25])), (h10, .inl (a9, 6, .inl f0)), (h12, .inl (a11, 256, .inl (fun _ => 0))), (h13, .inl (a12, 256, .inl (fun _ => 0)))] sz) := by
  refine Met.ofW (cc := cX12_compares) (maxL := 5) (ret := none) (by decide) rfl ?_
  intro p e s m args below meth c s₁ B hml hv
  obtain ⟨rfl, aks, rfl, Wd⟩ := k_enter hv
  have C : CallFix p m c cX12_compares 5 s _ gG RX12 := ⟨B.exec, B.bytes, hml, findClass_of_methodNamed B.named, fun w h => atoms_spec (ws := Cond.code yX12_compares cX12_compares 5 none :: gG) B.pre w (List.mem_cons_of_mem _ h)⟩
  have hr := B.returns
  have hlk := B.notSynchronized
  generalize va_A [(h0, .inr (12, [.ref h1, .ref h2, .ref h3, .ref h4, .int 0, .int 0, .ref h5, .int 0, .int 0, .int 0, .int 0, .int 0, .int 0, .int 0, .int 0, .int 0, .int 0, .int 0, .int 0, .int 0, .int (-1), .int 0, .int 0, .int 0, .ref h6, .ref h7, .ref h8, .ref h9, .ref h10, .ref h11, .int 0, .int 0, .int 0, .int 0, .ref h12, .ref h13, .ref h14, .int 0, .int 0, .int 0, .int 0, .ref h15, .ref h16, .int 0, .ref h17, .ref h18, .int 0, .ref h19, .int 0, .ref h20, .ref h21, .ref h22, .int 0, .ref h23, .ref h24, .ref h25])), (h10, .inl (a9, 6, .inl f0)), (h12, .inl (a11, 256, .inl (fun _ => 0))), (h13, .inl (a12, 256, .inl (fun _ => 0)))] s.heap.size = A at Wd ⊢
  refine k_locals (Nat.le_of_ble_eq_true rfl) [(0, .ref h0)] rfl (fun ls hl => ?_)
  refine lv_aload_n C.1 C.2.1 dX12_compares_0 rfl (lv_at hl 0 rfl) ?_
  refine lv_iconst (v := (-1)) C.1 C.2.1 dX12_compares_1 (by decide) ?_
  refine k_put C Wd KX12 0 37 [(h0, .inr (12, [.ref h1, .ref h2, .ref h3, .ref h4, .int 0, .int 0, .ref h5, .int 0, .int 0, .int 0, .int 0, .int 0, .int 0, .int 0, .int 0, .int 0, .int 0, .int 0, .int 0, .int 0, .int (-1), .int 0, .int 0, .int 0, .ref h6, .ref h7, .ref h8, .ref h9, .ref h10, .ref h11, .int 0, .int 0, .int 0, .int 0, .ref h12, .ref h13, .ref h14, .int (-1), .int 0, .int 0, .int 0, .ref h15, .ref h16, .int 0, .ref h17, .ref h18, .int 0, .ref h19, .int 0, .ref h20, .ref h21, .ref h22, .int 0, .ref h23, .ref h24, .ref h25])), (h10, .inl (a9, 6, .inl f0)), (h12, .inl (a11, 256, .inl (fun _ => 0))), (h13, .inl (a12, 256, .inl (fun _ => 0)))] rfl (by decide) fl_X12_318 rfl rfl rfl (Nat.le_of_ble_eq_true rfl) rfl dX12_compares_2 (fun H locs Wd => ?_)
  refine lv_aload_n C.1 C.2.1 dX12_compares_5 rfl (lv_at hl 0 rfl) ?_
  refine lv_iconst (v := (-1)) C.1 C.2.1 dX12_compares_6 (by decide) ?_
  refine k_put C Wd KX12 0 38 [(h0, .inr (12, [.ref h1, .ref h2, .ref h3, .ref h4, .int 0, .int 0, .ref h5, .int 0, .int 0, .int 0, .int 0, .int 0, .int 0, .int 0, .int 0, .int 0, .int 0, .int 0, .int 0, .int 0, .int (-1), .int 0, .int 0, .int 0, .ref h6, .ref h7, .ref h8, .ref h9, .ref h10, .ref h11, .int 0, .int 0, .int 0, .int 0, .ref h12, .ref h13, .ref h14, .int (-1), .int (-1), .int 0, .int 0, .ref h15, .ref h16, .int 0, .ref h17, .ref h18, .int 0, .ref h19, .int 0, .ref h20, .ref h21, .ref h22, .int 0, .ref h23, .ref h24, .ref h25])), (h10, .inl (a9, 6, .inl f0)), (h12, .inl (a11, 256, .inl (fun _ => 0))), (h13, .inl (a12, 256, .inl (fun _ => 0)))] rfl (by decide) fl_X12_321 rfl rfl rfl (Nat.le_of_ble_eq_true rfl) rfl dX12_compares_7 (fun H locs Wd => ?_)
  refine lv_aload_n C.1 C.2.1 dX12_compares_10 rfl (lv_at hl 0 rfl) ?_
  refine lv_iconst (v := 0) C.1 C.2.1 dX12_compares_11 (by decide) ?_
  refine k_put C Wd KX12 0 39 [(h0, .inr (12, [.ref h1, .ref h2, .ref h3, .ref h4, .int 0, .int 0, .ref h5, .int 0, .int 0, .int 0, .int 0, .int 0, .int 0, .int 0, .int 0, .int 0, .int 0, .int 0, .int 0, .int 0, .int (-1), .int 0, .int 0, .int 0, .ref h6, .ref h7, .ref h8, .ref h9, .ref h10, .ref h11, .int 0, .int 0, .int 0, .int 0, .ref h12, .ref h13, .ref h14, .int (-1), .int (-1), .int 0, .int 0, .ref h15, .ref h16, .int 0, .ref h17, .ref h18, .int 0, .ref h19, .int 0, .ref h20, .ref h21, .ref h22, .int 0, .ref h23, .ref h24, .ref h25])), (h10, .inl (a9, 6, .inl f0)), (h12, .inl (a11, 256, .inl (fun _ => 0))), (h13, .inl (a12, 256, .inl (fun _ => 0)))] rfl (by decide) fl_X12_324 rfl rfl rfl (Nat.le_of_ble_eq_true rfl) rfl dX12_compares_12 (fun H locs Wd => ?_)
  refine lv_aload_n C.1 C.2.1 dX12_compares_15 rfl (lv_at hl 0 rfl) ?_
  refine lv_iconst (v := 0) C.1 C.2.1 dX12_compares_16 (by decide) ?_
  refine k_put C Wd KX12 0 40 [(h0, .inr (12, [.ref h1, .ref h2, .ref h3, .ref h4, .int 0, .int 0, .ref h5, .int 0, .int 0, .int 0, .int 0, .int 0, .int 0, .int 0, .int 0, .int 0, .int 0, .int 0, .int 0, .int 0, .int (-1), .int 0, .int 0, .int 0, .ref h6, .ref h7, .ref h8, .ref h9, .ref h10, .ref h11, .int 0, .int 0, .int 0, .int 0, .ref h12, .ref h13, .ref h14, .int (-1), .int (-1), .int 0, .int 0, .ref h15, .ref h16, .int 0, .ref h17, .ref h18, .int 0, .ref h19, .int 0, .ref h20, .ref h21, .ref h22, .int 0, .ref h23, .ref h24, .ref h25])), (h10, .inl (a9, 6, .inl f0)), (h12, .inl (a11, 256, .inl (fun _ => 0))), (h13, .inl (a12, 256, .inl (fun _ => 0)))] rfl (by decide) fl_X12_327 rfl rfl rfl (Nat.le_of_ble_eq_true rfl) rfl dX12_compares_17 (fun H locs Wd => ?_)
  refine lv_iconst (v := 0) C.1 C.2.1 dX12_compares_20 (by decide) ?_
  refine lv_istore_n (lv' := [(1, .int 0), (0, .ref h0)]) C.1 C.2.1 dX12_compares_21 rfl hl (by decide) rfl (fun ls hl => ?_)
  refine k_loop (X := Nat → Int32) (fun lx4707 fu4708 H locs ls => ¬ lx4707 < 0 ∧ lx4707 ≤ 256 ∧ wX D [(a9, .int), (a11, .int), (a12, .int)] s [(h0, .inr (12, [.ref h1, .ref h2, .ref h3, .ref h4, .int 0, .int 0, .ref h5, .int 0, .int 0, .int 0, .int 0, .int 0, .int 0, .int 0, .int 0, .int 0, .int 0, .int 0, .int 0, .int 0, .int (-1), .int 0, .int 0, .int 0, .ref h6, .ref h7, .ref h8, .ref h9, .ref h10, .ref h11, .int 0, .int 0, .int 0, .int 0, .ref h12, .ref h13, .ref h14, .int (-1), .int (-1), .int 0, .int 0, .ref h15, .ref h16, .int 0, .ref h17, .ref h18, .int 0, .ref h19, .int 0, .ref h20, .ref h21, .ref h22, .int 0, .ref h23, .ref h24, .ref h25])), (h10, .inl (a9, 6, .inl fu4708)), (h12, .inl (a11, 256, .inl (fun _ => 0))), (h13, .inl (a12, 256, .inl (fun _ => 0)))] H A s.heap locs ∧ lv_has ls 5 [(1, .int lx4707), (0, .ref h0)]) 22 256 (fun lx4707 fu4708 H locs ls hi ih4709 => ?_) 0 f0 _ _ _ ⟨by decide, by decide, Wd, hl⟩
  obtain ⟨li4710, li4711, Wd, hl⟩ := hi
  refine lv_iload_n C.1 C.2.1 dX12_compares_22 rfl (lv_at hl 0 rfl) ?_
  refine lv_sipush (v := 256) C.1 C.2.1 dX12_compares_23 (by decide) ?_
  refine lv_icmp_ge (tgt := 240) C.1 C.2.1 dX12_compares_26 (by decide) (fun c4712 => ?_) (fun c4712 => ?_)
  · exact k_vret C hr hlk Wd fu4708 trivial [0, 1, 2, 3] rfl (by decide) [] rfl (by decide) (by decide) dX12_compares_240
  · refine lv_aload_n C.1 C.2.1 dX12_compares_29 rfl (lv_at hl 1 rfl) ?_
    refine lv_iload_n C.1 C.2.1 dX12_compares_30 rfl (lv_at hl 0 rfl) ?_
    refine lv_bipush (v := 16) C.1 C.2.1 dX12_compares_31 (by decide) ?_
    refine k_idiv (v := (lx4707 / 16)) C (by decide) rfl dX12_compares_33 ?_
    refine lv_iload_n C.1 C.2.1 dX12_compares_34 rfl (lv_at hl 0 rfl) ?_
    refine lv_bipush (v := 16) C.1 C.2.1 dX12_compares_35 (by decide) ?_
    refine k_irem (v := (lx4707 - lx4707 / 16 * 16)) C (by decide) rfl dX12_compares_37 ?_
    refine k_cv Wd [0, 1] [2, 3] rfl (wr := [(h12, .inl (a11, 256, .inl (fun _ => 0))), (h13, .inl (a12, 256, .inl (fun _ => 0)))]) rfl (by decide) (by decide) (cells' := 0) (slots' := 0) (by decide) (by decide) (k_runV (rest := []) C aks Wd cs_X12_315 (kcX12_runs_v2 l D h0 h1 h2 h3 h4 h5 h6 h7 h8 h9 h10 h11 h12 h13 h14 h15 h16 h17 h18 h19 h20 h21 h22 h23 h24 h25 (lx4707 / 16) (lx4707 - lx4707 / 16 * 16) fu4708 a9 _ ) [0, 1] rfl (by decide) [0] rfl 0 12 rfl rfl rfl rfl rfl ⟨(Nat.le_of_ble_eq_true rfl), (Nat.le_of_ble_eq_true rfl)⟩ hl.1 rfl rfl (Nat.le_of_ble_eq_true rfl) ⟨(Nat.le_of_ble_eq_true rfl), (Nat.le_of_ble_eq_true rfl)⟩ dX12_compares_38) (fun _ H locs w4713 Wd => ?_)
    have Wd : wX D [(a9, .int), (a11, .int), (a12, .int)] s [(h12, .inl (a11, 256, .inl (fun _ => 0))), (h13, .inl (a12, 256, .inl (fun _ => 0))), (h0, .inr (12, [.ref h1, .ref h2, .ref h3, .ref h4, .int 0, .int 0, .ref h5, .int 0, .int 0, .int 0, .int 0, .int 0, .int 0, .int 0, .int 0, .int 0, .int 0, .int 0, .int 0, .int 0, .int (-1), .int 0, .int 0, .int 0, .ref h6, .ref h7, .ref h8, .ref h9, .ref h10, .ref h11, .int 0, .int 0, .int 0, .int 0, .ref h12, .ref h13, .ref h14, .int (-1), .int (-1), .int 0, .int 0, .ref h15, .ref h16, .int 0, .ref h17, .ref h18, .int 0, .ref h19, .int 0, .ref h20, .ref h21, .ref h22, .int 0, .ref h23, .ref h24, .ref h25])), (h10, .inl (a9, 6, .inl (upd (upd (upd (upd (upd (upd fu4708 0 (lx4707 / 16)) 1 (lx4707 - lx4707 / 16 * 16)) 2 0) 3 0) 4 0) 5 0)))] _ A s.heap _ := Wd
    refine lv_iconst (v := 0) C.1 C.2.1 dX12_compares_41 (by decide) ?_
    refine lv_istore_n (lv' := [(2, .int 0), (1, .int lx4707), (0, .ref h0)]) C.1 C.2.1 dX12_compares_42 rfl hl (by decide) rfl (fun ls hl => ?_)
    refine lv_iload_n C.1 C.2.1 dX12_compares_43 rfl (lv_at hl 0 rfl) ?_
    refine lv_aload_n C.1 C.2.1 dX12_compares_44 rfl (lv_at hl 2 rfl) ?_
    refine k_get C Wd KX12 2 32 rfl (by decide) fl_X12_312 rfl dX12_compares_45 ?_
    refine lv_icmp_ge (tgt := 87) C.1 C.2.1 dX12_compares_48 (by decide) (fun _ => ?_) (fun c4714 => absurd c4714 (by decide))
    refine lv_iload_n C.1 C.2.1 dX12_compares_87 rfl (lv_at hl 0 rfl) ?_
    refine lv_aload_n C.1 C.2.1 dX12_compares_88 rfl (lv_at hl 2 rfl) ?_
    refine k_get C Wd KX12 2 32 rfl (by decide) fl_X12_312 rfl dX12_compares_89 ?_
    refine lv_icmp_ge (tgt := 109) C.1 C.2.1 dX12_compares_92 (by decide) (fun _ => ?_) (fun c4715 => absurd c4715 (by decide))
    refine lv_iconst (v := 0) C.1 C.2.1 dX12_compares_109 (by decide) ?_
    refine lv_istore_n (lv' := [(3, .int 0), (2, .int 0), (1, .int lx4707), (0, .ref h0)]) C.1 C.2.1 dX12_compares_110 rfl hl (by decide) rfl (fun ls hl => ?_)
    refine lv_aload_n C.1 C.2.1 dX12_compares_111 rfl (lv_at hl 3 rfl) ?_
    refine k_get C Wd KX12 2 31 rfl (by decide) fl_X12_294 rfl dX12_compares_112 ?_
    refine lv_iconst (v := 2) C.1 C.2.1 dX12_compares_115 (by decide) ?_
    refine lv_icmp_eq (tgt := 129) C.1 C.2.1 dX12_compares_116 (by decide) (fun c4716 => absurd c4716 (by decide)) (fun _ => ?_)
    refine lv_aload_n C.1 C.2.1 dX12_compares_119 rfl (lv_at hl 3 rfl) ?_
    refine k_get C Wd KX12 2 34 rfl (by decide) fl_X12_47 rfl dX12_compares_120 ?_
    refine lv_iload_n C.1 C.2.1 dX12_compares_123 rfl (lv_at hl 2 rfl) ?_
    refine k_iald (v := 0) C Wd 0 1 rfl rfl (vp_in_iff.mpr ⟨by have z0 := kz_nlt li4710; have z1 := kz_le li4711; have z2 := kz_nle c4712; have t0 : (0 : Int32).toInt = 0 := (by decide); have t256 : (256 : Int32).toInt = 256 := (by decide); omega, by have z0 := kz_nlt li4710; have z1 := kz_le li4711; have z2 := kz_nle c4712; have t0 : (0 : Int32).toInt = 0 := (by decide); have t256 : (256 : Int32).toInt = 256 := (by decide); omega⟩) rfl dX12_compares_124 ?_
    refine lv_iconst (v := 2) C.1 C.2.1 dX12_compares_125 (by decide) ?_
    refine lv_icmp_ne (tgt := 133) C.1 C.2.1 dX12_compares_126 (by decide) (fun _ => ?_) (fun c4717 => absurd c4717 (by decide))
    refine lv_iconst (v := 0) C.1 C.2.1 dX12_compares_133 (by decide) ?_
    refine lv_istore (lv' := [(4, .int 0), (3, .int 0), (2, .int 0), (1, .int lx4707), (0, .ref h0)]) C.1 C.2.1 dX12_compares_134 hl (by decide) rfl (fun ls hl => ?_)
    refine lv_aload_n C.1 C.2.1 dX12_compares_136 rfl (lv_at hl 4 rfl) ?_
    refine lv_aload_n C.1 C.2.1 dX12_compares_137 rfl (lv_at hl 4 rfl) ?_
    refine k_get C Wd KX12 2 40 rfl (by decide) fl_X12_327 rfl dX12_compares_138 ?_
    refine lv_if_ne (tgt := 149) C.1 C.2.1 dX12_compares_141 (by decide) (fun c4718 => absurd c4718 (by decide)) (fun _ => ?_)
    refine lv_iload C.1 C.2.1 dX12_compares_144 (lv_at hl 0 rfl) ?_
    refine lv_if_eq (tgt := 153) C.1 C.2.1 dX12_compares_146 (by decide) (fun _ => ?_) (fun c4719 => absurd c4719 (by decide))
    refine lv_iconst (v := 0) C.1 C.2.1 dX12_compares_153 (by decide) ?_
    refine k_put C Wd KX12 2 40 [(h12, .inl (a11, 256, .inl (fun _ => 0))), (h13, .inl (a12, 256, .inl (fun _ => 0))), (h0, .inr (12, [.ref h1, .ref h2, .ref h3, .ref h4, .int 0, .int 0, .ref h5, .int 0, .int 0, .int 0, .int 0, .int 0, .int 0, .int 0, .int 0, .int 0, .int 0, .int 0, .int 0, .int 0, .int (-1), .int 0, .int 0, .int 0, .ref h6, .ref h7, .ref h8, .ref h9, .ref h10, .ref h11, .int 0, .int 0, .int 0, .int 0, .ref h12, .ref h13, .ref h14, .int (-1), .int (-1), .int 0, .int 0, .ref h15, .ref h16, .int 0, .ref h17, .ref h18, .int 0, .ref h19, .int 0, .ref h20, .ref h21, .ref h22, .int 0, .ref h23, .ref h24, .ref h25])), (h10, .inl (a9, 6, .inl (upd (upd (upd (upd (upd (upd fu4708 0 (lx4707 / 16)) 1 (lx4707 - lx4707 / 16 * 16)) 2 0) 3 0) 4 0) 5 0)))] rfl (by decide) fl_X12_327 rfl rfl rfl (Nat.le_of_ble_eq_true rfl) rfl dX12_compares_154 (fun H locs Wd => ?_)
    refine lv_iload_n C.1 C.2.1 dX12_compares_157 rfl (lv_at hl 1 rfl) ?_
    refine lv_if_ne (tgt := 195) C.1 C.2.1 dX12_compares_158 (by decide) (fun c4720 => absurd c4720 (by decide)) (fun _ => ?_)
    refine lv_iload C.1 C.2.1 dX12_compares_161 (lv_at hl 0 rfl) ?_
    refine lv_if_ne (tgt := 234) C.1 C.2.1 dX12_compares_163 (by decide) (fun c4721 => absurd c4721 (by decide)) (fun _ => ?_)
    refine lv_aload_n C.1 C.2.1 dX12_compares_166 rfl (lv_at hl 4 rfl) ?_
    refine k_get C Wd KX12 2 32 rfl (by decide) fl_X12_312 rfl dX12_compares_167 ?_
    refine lv_aload_n C.1 C.2.1 dX12_compares_170 rfl (lv_at hl 4 rfl) ?_
    refine k_get C Wd KX12 2 35 rfl (by decide) fl_X12_50 rfl dX12_compares_171 ?_
    refine lv_iload_n C.1 C.2.1 dX12_compares_174 rfl (lv_at hl 3 rfl) ?_
    refine k_iald (v := 0) C Wd 1 2 rfl rfl (vp_in_iff.mpr ⟨by have z0 := kz_nlt li4710; have z1 := kz_le li4711; have z2 := kz_nle c4712; have t0 : (0 : Int32).toInt = 0 := (by decide); have t256 : (256 : Int32).toInt = 256 := (by decide); omega, by have z0 := kz_nlt li4710; have z1 := kz_le li4711; have z2 := kz_nle c4712; have t0 : (0 : Int32).toInt = 0 := (by decide); have t256 : (256 : Int32).toInt = 256 := (by decide); omega⟩) rfl dX12_compares_175 ?_
    refine lv_icmp_ne (tgt := 195) C.1 C.2.1 dX12_compares_176 (by decide) (fun c4722 => absurd c4722 (by decide)) (fun _ => ?_)
    refine lv_aload_n C.1 C.2.1 dX12_compares_179 rfl (lv_at hl 4 rfl) ?_
    refine k_get C Wd KX12 2 31 rfl (by decide) fl_X12_294 rfl dX12_compares_180 ?_
    refine lv_aload_n C.1 C.2.1 dX12_compares_183 rfl (lv_at hl 4 rfl) ?_
    refine k_get C Wd KX12 2 34 rfl (by decide) fl_X12_47 rfl dX12_compares_184 ?_
    refine lv_iload_n C.1 C.2.1 dX12_compares_187 rfl (lv_at hl 3 rfl) ?_
    refine k_iald (v := 0) C Wd 0 1 rfl rfl (vp_in_iff.mpr ⟨by have z0 := kz_nlt li4710; have z1 := kz_le li4711; have z2 := kz_nle c4712; have t0 : (0 : Int32).toInt = 0 := (by decide); have t256 : (256 : Int32).toInt = 256 := (by decide); omega, by have z0 := kz_nlt li4710; have z1 := kz_le li4711; have z2 := kz_nle c4712; have t0 : (0 : Int32).toInt = 0 := (by decide); have t256 : (256 : Int32).toInt = 256 := (by decide); omega⟩) rfl dX12_compares_188 ?_
    refine lv_icmp_ne (tgt := 195) C.1 C.2.1 dX12_compares_189 (by decide) (fun c4723 => absurd c4723 (by decide)) (fun _ => ?_)
    refine lv_goto (tgt := 234) C.1 C.2.1 dX12_compares_192 (by decide) ?_
    refine lv_iinc (v := (lx4707 + 1)) (lv' := [(1, .int (lx4707 + 1)), (4, .int 0), (3, .int 0), (2, .int 0), (0, .ref h0)]) C.1 C.2.1 dX12_compares_234 hl (k := 3) rfl rfl (by decide) rfl (fun ls hl => ?_)
    refine lv_goto (tgt := 22) C.1 C.2.1 dX12_compares_237 (by decide) ?_
    exact ih4709 (lx4707 + 1) (upd (upd (upd (upd (upd (upd fu4708 0 (lx4707 / 16)) 1 (lx4707 - lx4707 / 16 * 16)) 2 0) 3 0) 4 0) 5 0) _ _ _ ⟨fun hq => by have zq := kz_lt hq; have z0 := kz_nlt li4710; have z1 := kz_le li4711; have z2 := kz_nle c4712; have zr := kz_rng lx4707; have z3 := kz_addI (a := lx4707) (b := 1); have t0 : (0 : Int32).toInt = 0 := (by decide); have t256 : (256 : Int32).toInt = 256 := (by decide); have t1 : (1 : Int32).toInt = 1 := (by decide); omega, Int32.le_iff_toInt_le.mpr (by have z0 := kz_nlt li4710; have z1 := kz_le li4711; have z2 := kz_nle c4712; have zr := kz_rng lx4707; have z3 := kz_addI (a := lx4707) (b := 1); have t0 : (0 : Int32).toInt = 0 := (by decide); have t256 : (256 : Int32).toInt = 256 := (by decide); have t1 : (1 : Int32).toInt = 1 := (by decide); omega), k_sub Wd [2, 3, 0, 1] rfl (by decide) [0, 1, 2] rfl, lv_sub hl [0, 4] rfl⟩ (by have z0 := kz_nlt li4710; have z1 := kz_le li4711; have z2 := kz_nle c4712; have zr := kz_rng lx4707; have z3 := kz_addI (a := lx4707) (b := 1); have t0 : (0 : Int32).toInt = 0 := (by decide); have t256 : (256 : Int32).toInt = 256 := (by decide); have t1 : (1 : Int32).toInt = 1 := (by decide); omega)
set_option maxHeartbeats 4000000 in
set_option maxRecDepth 100000 in
theorem kcX12_judge (l : Launch) (D : va_G) (h0 h1 h2 h3 h4 h5 h6 h7 h8 h9 h10 h11 h12 h13 h14 h15 h16 h17 h18 h19 h20 h21 h22 h23 h24 h25 : Nat) (x0 x1 x2 : Int32) (a1 a9 a11 a12 : ClassId) (sz : Nat)  : Met l yX12_judge (Cond.code yX12_judge cX12_judge 4 (some .int) :: gG) { frames := 5, cells := 0, slots := 0, locals := 154 } (cPre D [(a1, .int), (a9, .int), (a11, .int), (a12, .int)] [(h0, .inr (12, [.ref h1, .ref h2, .ref h3, .ref h4, .int 0, .int 0, .ref h5, .int 0, .int 0, .int 0, .int 0, .int 0, .int 0, .int 0, .int 0, .int 0, .int 0, .int 0, .int 0, .int 0, .int (-1), .int 0, .int 0, .int 0, .ref h6, .ref h7, .ref h8, .ref h9, .ref h10, .ref h11, .int 0, .int 0, .int 0, .int 0, .ref h12, .ref h13, .ref h14, .int 0, .int 0, .int 0, .int 0, .ref h15, .ref h16, .int 0, .ref h17, .ref h18, .int 0, .ref h19, .int 0, .ref h20, .ref h21, .ref h22, .int 0, .ref h23, .ref h24, .ref h25])), (h2, .inl (a1, 6, .inl (fun _ => 0))), (h10, .inl (a9, 6, .inl (fun _ => 0))), (h12, .inl (a11, 256, .inl (fun _ => 0))), (h13, .inl (a12, 256, .inl (fun _ => 0)))] sz [.ref h0, .int x0, .int x1, .int x2]) (va_Qi (fun (r : Int32) (_ : Unit) => (x0 < (0 : Int32) ∧ r = (-1)) ∨ (¬ x0 < (0 : Int32) ∧ (5 : Int32) < x0 ∧ r = (-1)) ∨ (¬ x0 < (0 : Int32) ∧ ¬ (5 : Int32) < x0 ∧ x1 < (0 : Int32) ∧ r = (-1)) ∨ (¬ x0 < (0 : Int32) ∧ ¬ (5 : Int32) < x0 ∧ ¬ x1 < (0 : Int32) ∧ (5 : Int32) < x1 ∧ r = (-1)) ∨ (¬ x0 < (0 : Int32) ∧ ¬ (5 : Int32) < x0 ∧ ¬ x1 < (0 : Int32) ∧ ¬ (5 : Int32) < x1 ∧ x2 < (0 : Int32) ∧ r = (-1)) ∨ (¬ x0 < (0 : Int32) ∧ ¬ (5 : Int32) < x0 ∧ ¬ x1 < (0 : Int32) ∧ ¬ (5 : Int32) < x1 ∧ ¬ x2 < (0 : Int32) ∧ (3 : Int32) < x2 ∧ r = (-1)) ∨ (¬ x0 < (0 : Int32) ∧ ¬ (5 : Int32) < x0 ∧ ¬ x1 < (0 : Int32) ∧ ¬ (5 : Int32) < x1 ∧ ¬ x2 < (0 : Int32) ∧ ¬ (3 : Int32) < x2 ∧ x2 = (0 : Int32) ∧ r = 0) ∨ (¬ x0 < (0 : Int32) ∧ ¬ (5 : Int32) < x0 ∧ ¬ x1 < (0 : Int32) ∧ ¬ (5 : Int32) < x1 ∧ ¬ x2 < (0 : Int32) ∧ ¬ (3 : Int32) < x2 ∧ ¬ x2 = (0 : Int32) ∧ x2 = (1 : Int32) ∧ r = (-1)) ∨ (¬ x0 < (0 : Int32) ∧ ¬ (5 : Int32) < x0 ∧ ¬ x1 < (0 : Int32) ∧ ¬ (5 : Int32) < x1 ∧ ¬ x2 < (0 : Int32) ∧ ¬ (3 : Int32) < x2 ∧ ¬ x2 = (0 : Int32) ∧ ¬ x2 = (1 : Int32) ∧ x2 = (2 : Int32) ∧ r = (-1)) ∨ (¬ x0 < (0 : Int32) ∧ ¬ (5 : Int32) < x0 ∧ ¬ x1 < (0 : Int32) ∧ ¬ (5 : Int32) < x1 ∧ ¬ x2 < (0 : Int32) ∧ ¬ (3 : Int32) < x2 ∧ ¬ x2 = (0 : Int32) ∧ ¬ x2 = (1 : Int32) ∧ ¬ x2 = (2 : Int32) ∧ r = 0)) (fun u t => cB D (va_A [(h0, .inr (12, [.ref h1, .ref h2, .ref h3, .ref h4, .int 0, .int 0, .ref h5, .int 0, .int 0, .int 0, .int 0, .int 0, .int 0, .int 0, .int 0, .int 0, .int 0, .int 0, .int 0, .int 0, .int (-1), .int 0, .int 0, .int 0, .ref h6, .ref h7, .ref h8, .ref h9, .ref h10, .ref h11, .int 0, .int 0, .int 0, .int 0, .ref h12, .ref h13, .ref h14, .int 0, .int 0, .int 0, .int 0, .ref h15, .ref h16, .int 0, .ref h17, .ref h18, .int 0, .ref h19, .int 0, .ref h20, .ref h21, .ref h22, .int 0, .ref h23, .ref h24, .ref h25])), (h2, .inl (a1, 6, .inl (fun _ => 0))), (h10, .inl (a9, 6, .inl (fun _ => 0))), (h12, .inl (a11, 256, .inl (fun _ => 0))), (h13, .inl (a12, 256, .inl (fun _ => 0)))] sz) ((fun (_ : Unit) => ([] : List (ClassId × FieldType))) u) ((fun (_ : Unit) => ([] : va_W)) u) t) (va_A [(h0, .inr (12, [.ref h1, .ref h2, .ref h3, .ref h4, .int 0, .int 0, .ref h5, .int 0, .int 0, .int 0, .int 0, .int 0, .int 0, .int 0, .int 0, .int 0, .int 0, .int 0, .int 0, .int 0, .int (-1), .int 0, .int 0, .int 0, .ref h6, .ref h7, .ref h8, .ref h9, .ref h10, .ref h11, .int 0, .int 0, .int 0, .int 0, .ref h12, .ref h13, .ref h14, .int 0, .int 0, .int 0, .int 0, .ref h15, .ref h16, .int 0, .ref h17, .ref h18, .int 0, .ref h19, .int 0, .ref h20, .ref h21, .ref h22, .int 0, .ref h23, .ref h24, .ref h25])), (h2, .inl (a1, 6, .inl (fun _ => 0))), (h10, .inl (a9, 6, .inl (fun _ => 0))), (h12, .inl (a11, 256, .inl (fun _ => 0))), (h13, .inl (a12, 256, .inl (fun _ => 0)))] sz)) 0 0 (va_A [(h0, .inr (12, [.ref h1, .ref h2, .ref h3, .ref h4, .int 0, .int 0, .ref h5, .int 0, .int 0, .int 0, .int 0, .int 0, .int 0, .int 0, .int 0, .int 0, .int 0, .int 0, .int 0, .int 0, .int (-1), .int 0, .int 0, .int 0, .ref h6, .ref h7, .ref h8, .ref h9, .ref h10, .ref h11, .int 0, .int 0, .int 0, .int 0, .ref h12, .ref h13, .ref h14, .int 0, .int 0, .int 0, .int 0, .ref h15, .ref h16, .int 0, .ref h17, .ref h18, .int 0, .ref h19, .int 0, .ref h20, .ref h21, .ref h22, .int 0, .ref h23, .ref h24, .ref h25])), (h2, .inl (a1, 6, .inl (fun _ => 0))), (h10, .inl (a9, 6, .inl (fun _ => 0))), (h12, .inl (a11, 256, .inl (fun _ => 0))), (h13, .inl (a12, 256, .inl (fun _ => 0)))] sz) := by
  refine Met.ofW (cc := cX12_judge) (maxL := 4) (ret := (some .int)) (by decide) rfl ?_
  intro p e s m args below meth c s₁ B hml hv
  obtain ⟨rfl, aks, rfl, Wd⟩ := k_enter hv
  have C : CallFix p m c cX12_judge 4 s _ gG RX12 := ⟨B.exec, B.bytes, hml, findClass_of_methodNamed B.named, fun w h => atoms_spec (ws := Cond.code yX12_judge cX12_judge 4 (some .int) :: gG) B.pre w (List.mem_cons_of_mem _ h)⟩
  have hr := B.returns
  have hlk := B.notSynchronized
  generalize va_A [(h0, .inr (12, [.ref h1, .ref h2, .ref h3, .ref h4, .int 0, .int 0, .ref h5, .int 0, .int 0, .int 0, .int 0, .int 0, .int 0, .int 0, .int 0, .int 0, .int 0, .int 0, .int 0, .int 0, .int (-1), .int 0, .int 0, .int 0, .ref h6, .ref h7, .ref h8, .ref h9, .ref h10, .ref h11, .int 0, .int 0, .int 0, .int 0, .ref h12, .ref h13, .ref h14, .int 0, .int 0, .int 0, .int 0, .ref h15, .ref h16, .int 0, .ref h17, .ref h18, .int 0, .ref h19, .int 0, .ref h20, .ref h21, .ref h22, .int 0, .ref h23, .ref h24, .ref h25])), (h2, .inl (a1, 6, .inl (fun _ => 0))), (h10, .inl (a9, 6, .inl (fun _ => 0))), (h12, .inl (a11, 256, .inl (fun _ => 0))), (h13, .inl (a12, 256, .inl (fun _ => 0)))] s.heap.size = A at Wd ⊢
  refine k_locals (Nat.le_of_ble_eq_true rfl) [(0, .ref h0), (1, .int x0), (2, .int x1), (3, .int x2)] rfl (fun ls hl => ?_)
  refine lv_iload_n C.1 C.2.1 dX12_judge_0 rfl (lv_at hl 1 rfl) ?_
  refine k_pi (k_runS (rest := []) C aks Wd cs_X12_249 (kcX12_isSlot l D x0 _ ) [] rfl (by decide) [] rfl rfl rfl ⟨(Nat.le_of_ble_eq_true rfl), (Nat.le_of_ble_eq_true rfl)⟩ hl.1 rfl rfl (Nat.le_of_ble_eq_true rfl) ⟨(Nat.le_of_ble_eq_true rfl), (Nat.le_of_ble_eq_true rfl)⟩ dX12_judge_1) (fun r w4731 => ?_)
  rcases w4731 with ⟨c4732, rfl⟩ | ⟨c4733, c4734, rfl⟩ | ⟨c4735, c4736, rfl⟩
  · refine lv_if_eq (tgt := 23) C.1 C.2.1 dX12_judge_4 (by decide) (fun _ => ?_) (fun c4737 => absurd c4737 (by decide))
    refine lv_iconst (v := (-1)) C.1 C.2.1 dX12_judge_23 (by decide) ?_
    exact k_zret C hr hlk rfl Wd () (Or.inl (⟨c4732, rfl⟩)) [] rfl (by decide) [] rfl (by decide) (by decide) dX12_judge_24
  · refine lv_if_eq (tgt := 23) C.1 C.2.1 dX12_judge_4 (by decide) (fun _ => ?_) (fun c4738 => absurd c4738 (by decide))
    refine lv_iconst (v := (-1)) C.1 C.2.1 dX12_judge_23 (by decide) ?_
    exact k_zret C hr hlk rfl Wd () (Or.inr (Or.inl (⟨c4733, c4734, rfl⟩))) [] rfl (by decide) [] rfl (by decide) (by decide) dX12_judge_24
  · refine lv_if_eq (tgt := 23) C.1 C.2.1 dX12_judge_4 (by decide) (fun c4739 => absurd c4739 (by decide)) (fun _ => ?_)
    refine lv_iload_n C.1 C.2.1 dX12_judge_7 rfl (lv_at hl 2 rfl) ?_
    refine k_pi (k_runS (rest := []) C aks Wd cs_X12_249 (kcX12_isSlot l D x1 _ ) [] rfl (by decide) [] rfl rfl rfl ⟨(Nat.le_of_ble_eq_true rfl), (Nat.le_of_ble_eq_true rfl)⟩ hl.1 rfl rfl (Nat.le_of_ble_eq_true rfl) ⟨(Nat.le_of_ble_eq_true rfl), (Nat.le_of_ble_eq_true rfl)⟩ dX12_judge_8) (fun r w4740 => ?_)
    rcases w4740 with ⟨c4741, rfl⟩ | ⟨c4742, c4743, rfl⟩ | ⟨c4744, c4745, rfl⟩
    · refine lv_if_eq (tgt := 23) C.1 C.2.1 dX12_judge_11 (by decide) (fun _ => ?_) (fun c4746 => absurd c4746 (by decide))
      refine lv_iconst (v := (-1)) C.1 C.2.1 dX12_judge_23 (by decide) ?_
      exact k_zret C hr hlk rfl Wd () (Or.inr (Or.inr (Or.inl (⟨c4735, c4736, c4741, rfl⟩)))) [] rfl (by decide) [] rfl (by decide) (by decide) dX12_judge_24
    · refine lv_if_eq (tgt := 23) C.1 C.2.1 dX12_judge_11 (by decide) (fun _ => ?_) (fun c4747 => absurd c4747 (by decide))
      refine lv_iconst (v := (-1)) C.1 C.2.1 dX12_judge_23 (by decide) ?_
      exact k_zret C hr hlk rfl Wd () (Or.inr (Or.inr (Or.inr (Or.inl (⟨c4735, c4736, c4742, c4743, rfl⟩))))) [] rfl (by decide) [] rfl (by decide) (by decide) dX12_judge_24
    · refine lv_if_eq (tgt := 23) C.1 C.2.1 dX12_judge_11 (by decide) (fun c4748 => absurd c4748 (by decide)) (fun _ => ?_)
      refine lv_iload_n C.1 C.2.1 dX12_judge_14 rfl (lv_at hl 3 rfl) ?_
      refine lv_iconst (v := 0) C.1 C.2.1 dX12_judge_15 (by decide) ?_
      refine lv_iconst (v := 3) C.1 C.2.1 dX12_judge_16 (by decide) ?_
      refine k_pi (k_runS (rest := []) C aks Wd cs_X12_90 (kcX12_isIn l D x2 0 3 _ ) [] rfl (by decide) [] rfl rfl rfl ⟨(Nat.le_of_ble_eq_true rfl), (Nat.le_of_ble_eq_true rfl)⟩ hl.1 rfl rfl (Nat.le_of_ble_eq_true rfl) ⟨(Nat.le_of_ble_eq_true rfl), (Nat.le_of_ble_eq_true rfl)⟩ dX12_judge_17) (fun r w4749 => ?_)
      rcases w4749 with ⟨c4750, rfl⟩ | ⟨c4751, c4752, rfl⟩ | ⟨c4753, c4754, rfl⟩
      · refine lv_if_ne (tgt := 25) C.1 C.2.1 dX12_judge_20 (by decide) (fun c4755 => absurd c4755 (by decide)) (fun _ => ?_)
        refine lv_iconst (v := (-1)) C.1 C.2.1 dX12_judge_23 (by decide) ?_
        exact k_zret C hr hlk rfl Wd () (Or.inr (Or.inr (Or.inr (Or.inr (Or.inl (⟨c4735, c4736, c4744, c4745, c4750, rfl⟩)))))) [] rfl (by decide) [] rfl (by decide) (by decide) dX12_judge_24
      · refine lv_if_ne (tgt := 25) C.1 C.2.1 dX12_judge_20 (by decide) (fun c4756 => absurd c4756 (by decide)) (fun _ => ?_)
        refine lv_iconst (v := (-1)) C.1 C.2.1 dX12_judge_23 (by decide) ?_
        exact k_zret C hr hlk rfl Wd () (Or.inr (Or.inr (Or.inr (Or.inr (Or.inr (Or.inl (⟨c4735, c4736, c4744, c4745, c4751, c4752, rfl⟩))))))) [] rfl (by decide) [] rfl (by decide) (by decide) dX12_judge_24
      · refine lv_if_ne (tgt := 25) C.1 C.2.1 dX12_judge_20 (by decide) (fun _ => ?_) (fun c4757 => absurd c4757 (by decide))
        refine lv_aload_n C.1 C.2.1 dX12_judge_25 rfl (lv_at hl 0 rfl) ?_
        refine lv_iload_n C.1 C.2.1 dX12_judge_26 rfl (lv_at hl 1 rfl) ?_
        refine k_cv Wd [0, 1] [2, 3, 4] rfl (wr := [(h10, .inl (a9, 6, .inl (fun _ => 0))), (h12, .inl (a11, 256, .inl (fun _ => 0))), (h13, .inl (a12, 256, .inl (fun _ => 0)))]) rfl (by decide) (by decide) (cells' := 0) (slots' := 0) (by decide) (by decide) (k_runV (rest := []) C aks Wd cs_X12_271 (kcX12_takes l D h0 h1 h2 h3 h4 h5 h6 h7 h8 h9 h10 h11 h12 h13 h14 h15 h16 h17 h18 h19 h20 h21 h22 h23 h24 h25 x0 a1 _ c4735 c4736) [0, 1] rfl (by decide) [0] rfl 0 12 rfl rfl rfl rfl rfl ⟨(Nat.le_of_ble_eq_true rfl), (Nat.le_of_ble_eq_true rfl)⟩ hl.1 rfl rfl (Nat.le_of_ble_eq_true rfl) ⟨(Nat.le_of_ble_eq_true rfl), (Nat.le_of_ble_eq_true rfl)⟩ dX12_judge_27) (fun _ H locs w4758 Wd => ?_)
        have Wd : wX D [(a1, .int), (a9, .int), (a11, .int), (a12, .int)] s [(h10, .inl (a9, 6, .inl (fun _ => 0))), (h12, .inl (a11, 256, .inl (fun _ => 0))), (h13, .inl (a12, 256, .inl (fun _ => 0))), (h0, .inr (12, [.ref h1, .ref h2, .ref h3, .ref h4, .int 0, .int 0, .ref h5, .int 0, .int 0, .int 0, .int 0, .int 0, .int 0, .int 0, .int 0, .int 0, .int 0, .int 0, .int 0, .int 0, .int (-1), .int 0, .int 0, .int 0, .ref h6, .ref h7, .ref h8, .ref h9, .ref h10, .ref h11, .int 0, .int 0, .int 0, .int 0, .ref h12, .ref h13, .ref h14, .int 0, .int 0, .int 0, .int 0, .ref h15, .ref h16, .int 0, .ref h17, .ref h18, .int 0, .ref h19, .int 0, .ref h20, .ref h21, .ref h22, .int 0, .ref h23, .ref h24, .ref h25])), (h2, .inl (a1, 6, .inl (fun _ => 0)))] _ A s.heap _ := Wd
        refine lv_aload_n C.1 C.2.1 dX12_judge_30 rfl (lv_at hl 0 rfl) ?_
        refine k_cv Wd [0, 3, 1, 2] [4] rfl (wr := [(h2, .inl (a1, 6, .inl (fun _ => 0)))]) rfl (by decide) (by decide) (cells' := 0) (slots' := 0) (by decide) (by decide) (k_runV (rest := []) C aks Wd cs_X12_330 (kcX12_keeps l D h0 h1 h2 h3 h4 h5 h6 h7 h8 h9 h10 h11 h12 h13 h14 h15 h16 h17 h18 h19 h20 h21 h22 h23 h24 h25 a9 a11 a12 _ ) [0, 3, 1, 2] rfl (by decide) [1, 2, 3] rfl 3 12 rfl rfl rfl rfl rfl ⟨(Nat.le_of_ble_eq_true rfl), (Nat.le_of_ble_eq_true rfl)⟩ hl.1 rfl rfl (Nat.le_of_ble_eq_true rfl) ⟨(Nat.le_of_ble_eq_true rfl), (Nat.le_of_ble_eq_true rfl)⟩ dX12_judge_31) (fun fu4760 H locs w4759 Wd => ?_)
        have Wd : wX D [(a1, .int), (a9, .int), (a11, .int), (a12, .int)] s [(h2, .inl (a1, 6, .inl (fun _ => 0))), (h10, .inl (a9, 6, .inl fu4760)), (h0, .inr (12, [.ref h1, .ref h2, .ref h3, .ref h4, .int 0, .int 0, .ref h5, .int 0, .int 0, .int 0, .int 0, .int 0, .int 0, .int 0, .int 0, .int 0, .int 0, .int 0, .int 0, .int 0, .int (-1), .int 0, .int 0, .int 0, .ref h6, .ref h7, .ref h8, .ref h9, .ref h10, .ref h11, .int 0, .int 0, .int 0, .int 0, .ref h12, .ref h13, .ref h14, .int 0, .int 0, .int 0, .int 0, .ref h15, .ref h16, .int 0, .ref h17, .ref h18, .int 0, .ref h19, .int 0, .ref h20, .ref h21, .ref h22, .int 0, .ref h23, .ref h24, .ref h25])), (h12, .inl (a11, 256, .inl (fun _ => 0))), (h13, .inl (a12, 256, .inl (fun _ => 0)))] _ A s.heap _ := Wd
        refine lv_aload_n C.1 C.2.1 dX12_judge_34 rfl (lv_at hl 0 rfl) ?_
        refine lv_iload_n C.1 C.2.1 dX12_judge_35 rfl (lv_at hl 2 rfl) ?_
        refine k_cv Wd [2, 0] [1, 3, 4] rfl (wr := [(h10, .inl (a9, 6, .inl fu4760)), (h12, .inl (a11, 256, .inl (fun _ => 0))), (h13, .inl (a12, 256, .inl (fun _ => 0)))]) rfl (by decide) (by decide) (cells' := 0) (slots' := 0) (by decide) (by decide) (k_runV (rest := []) C aks Wd cs_X12_271 (kcX12_takes l D h0 h1 h2 h3 h4 h5 h6 h7 h8 h9 h10 h11 h12 h13 h14 h15 h16 h17 h18 h19 h20 h21 h22 h23 h24 h25 x1 a1 _ c4744 c4745) [2, 0] rfl (by decide) [0] rfl 2 12 rfl rfl rfl rfl rfl ⟨(Nat.le_of_ble_eq_true rfl), (Nat.le_of_ble_eq_true rfl)⟩ hl.1 rfl rfl (Nat.le_of_ble_eq_true rfl) ⟨(Nat.le_of_ble_eq_true rfl), (Nat.le_of_ble_eq_true rfl)⟩ dX12_judge_36) (fun _ H locs w4761 Wd => ?_)
        have Wd : wX D [(a1, .int), (a9, .int), (a11, .int), (a12, .int)] s [(h10, .inl (a9, 6, .inl fu4760)), (h12, .inl (a11, 256, .inl (fun _ => 0))), (h13, .inl (a12, 256, .inl (fun _ => 0))), (h0, .inr (12, [.ref h1, .ref h2, .ref h3, .ref h4, .int 0, .int 0, .ref h5, .int 0, .int 0, .int 0, .int 0, .int 0, .int 0, .int 0, .int 0, .int 0, .int 0, .int 0, .int 0, .int 0, .int (-1), .int 0, .int 0, .int 0, .ref h6, .ref h7, .ref h8, .ref h9, .ref h10, .ref h11, .int 0, .int 0, .int 0, .int 0, .ref h12, .ref h13, .ref h14, .int 0, .int 0, .int 0, .int 0, .ref h15, .ref h16, .int 0, .ref h17, .ref h18, .int 0, .ref h19, .int 0, .ref h20, .ref h21, .ref h22, .int 0, .ref h23, .ref h24, .ref h25])), (h2, .inl (a1, 6, .inl (fun _ => 0)))] _ A s.heap _ := Wd
        refine lv_aload_n C.1 C.2.1 dX12_judge_39 rfl (lv_at hl 0 rfl) ?_
        refine k_cv Wd [3, 0, 1, 2] [4] rfl (wr := [(h2, .inl (a1, 6, .inl (fun _ => 0)))]) rfl (by decide) (by decide) (cells' := 0) (slots' := 0) (by decide) (by decide) (k_runV (rest := []) C aks Wd cs_X12_333 (kcX12_compares l D h0 h1 h2 h3 h4 h5 h6 h7 h8 h9 h10 h11 h12 h13 h14 h15 h16 h17 h18 h19 h20 h21 h22 h23 h24 h25 fu4760 a9 a11 a12 _ ) [3, 0, 1, 2] rfl (by decide) [1, 2, 3] rfl 3 12 rfl rfl rfl rfl rfl ⟨(Nat.le_of_ble_eq_true rfl), (Nat.le_of_ble_eq_true rfl)⟩ hl.1 rfl rfl (Nat.le_of_ble_eq_true rfl) ⟨(Nat.le_of_ble_eq_true rfl), (Nat.le_of_ble_eq_true rfl)⟩ dX12_judge_40) (fun fu4763 H locs w4762 Wd => ?_)
        have Wd : wX D [(a1, .int), (a9, .int), (a11, .int), (a12, .int)] s [(h2, .inl (a1, 6, .inl (fun _ => 0))), (h0, .inr (12, [.ref h1, .ref h2, .ref h3, .ref h4, .int 0, .int 0, .ref h5, .int 0, .int 0, .int 0, .int 0, .int 0, .int 0, .int 0, .int 0, .int 0, .int 0, .int 0, .int 0, .int 0, .int (-1), .int 0, .int 0, .int 0, .ref h6, .ref h7, .ref h8, .ref h9, .ref h10, .ref h11, .int 0, .int 0, .int 0, .int 0, .ref h12, .ref h13, .ref h14, .int (-1), .int (-1), .int 0, .int 0, .ref h15, .ref h16, .int 0, .ref h17, .ref h18, .int 0, .ref h19, .int 0, .ref h20, .ref h21, .ref h22, .int 0, .ref h23, .ref h24, .ref h25])), (h10, .inl (a9, 6, .inl fu4763)), (h12, .inl (a11, 256, .inl (fun _ => 0))), (h13, .inl (a12, 256, .inl (fun _ => 0)))] _ A s.heap _ := Wd
        refine lv_iload_n C.1 C.2.1 dX12_judge_43 rfl (lv_at hl 3 rfl) ?_
        by_cases c4764 : x2 = (0 : Int32)
        · subst c4764
          refine lv_tableIn (off := 28) (tgt := 72) C.1 C.2.1 dX12_judge_44 (by decide) (by decide) (by decide) (by decide) ?_
          refine lv_aload_n C.1 C.2.1 dX12_judge_72 rfl (lv_at hl 0 rfl) ?_
          refine k_get C Wd KX12 1 37 rfl (by decide) fl_X12_318 rfl dX12_judge_73 ?_
          refine lv_iconst (v := (-1)) C.1 C.2.1 dX12_judge_76 (by decide) ?_
          refine lv_icmp_eq (tgt := 84) C.1 C.2.1 dX12_judge_77 (by decide) (fun _ => ?_) (fun c4765 => absurd c4765 (by decide))
          refine lv_aload_n C.1 C.2.1 dX12_judge_84 rfl (lv_at hl 0 rfl) ?_
          refine k_get C Wd KX12 1 40 rfl (by decide) fl_X12_327 rfl dX12_judge_85 ?_
          refine lv_if_eq (tgt := 95) C.1 C.2.1 dX12_judge_88 (by decide) (fun _ => ?_) (fun c4766 => absurd c4766 (by decide))
          refine lv_iconst (v := 0) C.1 C.2.1 dX12_judge_95 (by decide) ?_
          exact k_zret C hr hlk rfl Wd () (Or.inr (Or.inr (Or.inr (Or.inr (Or.inr (Or.inr (Or.inl (⟨c4735, c4736, c4744, c4745, c4753, c4754, rfl, rfl⟩)))))))) [] rfl (by decide) [] rfl (by decide) (by decide) dX12_judge_96
        by_cases c4767 : x2 = (1 : Int32)
        · subst c4767
          refine lv_tableIn (off := 53) (tgt := 97) C.1 C.2.1 dX12_judge_44 (by decide) (by decide) (by decide) (by decide) ?_
          refine lv_aload_n C.1 C.2.1 dX12_judge_97 rfl (lv_at hl 0 rfl) ?_
          refine k_get C Wd KX12 1 37 rfl (by decide) fl_X12_318 rfl dX12_judge_98 ?_
          exact k_zret C hr hlk rfl Wd () (Or.inr (Or.inr (Or.inr (Or.inr (Or.inr (Or.inr (Or.inr (Or.inl (⟨c4735, c4736, c4744, c4745, c4753, c4754, c4764, rfl, rfl⟩))))))))) [] rfl (by decide) [] rfl (by decide) (by decide) dX12_judge_101
        by_cases c4768 : x2 = (2 : Int32)
        · subst c4768
          refine lv_tableIn (off := 58) (tgt := 102) C.1 C.2.1 dX12_judge_44 (by decide) (by decide) (by decide) (by decide) ?_
          refine lv_aload_n C.1 C.2.1 dX12_judge_102 rfl (lv_at hl 0 rfl) ?_
          refine k_get C Wd KX12 1 38 rfl (by decide) fl_X12_321 rfl dX12_judge_103 ?_
          exact k_zret C hr hlk rfl Wd () (Or.inr (Or.inr (Or.inr (Or.inr (Or.inr (Or.inr (Or.inr (Or.inr (Or.inl (⟨c4735, c4736, c4744, c4745, c4753, c4754, c4764, c4767, rfl, rfl⟩)))))))))) [] rfl (by decide) [] rfl (by decide) (by decide) dX12_judge_106
        refine lv_tableOut (tgt := 107) C.1 C.2.1 dX12_judge_44 (by have z0 := kz_nlt c4753; have z1 := kz_nlt c4754; have z2 := kz_ne c4764; have z3 := kz_ne c4767; have z4 := kz_ne c4768; have t0 : (0 : Int32).toInt = 0 := (by decide); have t3 : (3 : Int32).toInt = 3 := (by decide); have t1 : (1 : Int32).toInt = 1 := (by decide); have t2 : (2 : Int32).toInt = 2 := (by decide); omega) (by decide) ?_
        refine lv_aload_n C.1 C.2.1 dX12_judge_107 rfl (lv_at hl 0 rfl) ?_
        refine k_get C Wd KX12 1 39 rfl (by decide) fl_X12_324 rfl dX12_judge_108 ?_
        exact k_zret C hr hlk rfl Wd () (Or.inr (Or.inr (Or.inr (Or.inr (Or.inr (Or.inr (Or.inr (Or.inr (Or.inr (⟨c4735, c4736, c4744, c4745, c4753, c4754, c4764, c4767, c4768, rfl⟩)))))))))) [] rfl (by decide) [] rfl (by decide) (by decide) dX12_judge_111
set_option maxHeartbeats 4000000 in
set_option maxRecDepth 100000 in
theorem kcX12_ruleOf (l : Launch) (D : va_G) (h0 h1 h2 h3 h4 h5 h6 h7 h8 h9 h10 h11 h12 h13 h14 h15 h16 h17 h18 h19 h20 h21 h22 h23 h24 h25 : Nat) (x0 x1 : Int32) (sz : Nat)  : Met l yX12_ruleOf (Cond.code yX12_ruleOf cX12_ruleOf 8 (some .int) :: gG) { frames := 2, cells := 0, slots := 0, locals := 86 } (cPre D [] [(h0, .inr (12, [.ref h1, .ref h2, .ref h3, .ref h4, .int 0, .int 0, .ref h5, .int 0, .int 0, .int 0, .int 0, .int 0, .int 0, .int 0, .int 0, .int 0, .int 0, .int 0, .int 0, .int 0, .int (-1), .int 0, .int 0, .int 0, .ref h6, .ref h7, .ref h8, .ref h9, .ref h10, .ref h11, .int 0, .int 0, .int 0, .int 0, .ref h12, .ref h13, .ref h14, .int 0, .int 0, .int 0, .int 0, .ref h15, .ref h16, .int 0, .ref h17, .ref h18, .int 0, .ref h19, .int 0, .ref h20, .ref h21, .ref h22, .int 0, .ref h23, .ref h24, .ref h25]))] sz [.ref h0, .int x0, .int x1]) (vp_Si (fun r => (x0 < (0 : Int32) ∧ r = (-2)) ∨ (¬ x0 < (0 : Int32) ∧ (-1 : Int32) < x0 ∧ r = (-2)))) 0 0 (fun _ => False) := by
  refine Met.ofW (cc := cX12_ruleOf) (maxL := 8) (ret := (some .int)) (by decide) rfl ?_
  intro p e s m args below meth c s₁ B hml hv
  obtain ⟨rfl, aks, rfl, Wd⟩ := k_enter hv
  have C : CallFix p m c cX12_ruleOf 8 s _ gG RX12 := ⟨B.exec, B.bytes, hml, findClass_of_methodNamed B.named, fun w h => atoms_spec (ws := Cond.code yX12_ruleOf cX12_ruleOf 8 (some .int) :: gG) B.pre w (List.mem_cons_of_mem _ h)⟩
  have hr := B.returns
  have hlk := B.notSynchronized
  obtain ⟨A, Wd⟩ : ∃ A, wX D [] s [(h0, .inr (12, [.ref h1, .ref h2, .ref h3, .ref h4, .int 0, .int 0, .ref h5, .int 0, .int 0, .int 0, .int 0, .int 0, .int 0, .int 0, .int 0, .int 0, .int 0, .int 0, .int 0, .int 0, .int (-1), .int 0, .int 0, .int 0, .ref h6, .ref h7, .ref h8, .ref h9, .ref h10, .ref h11, .int 0, .int 0, .int 0, .int 0, .ref h12, .ref h13, .ref h14, .int 0, .int 0, .int 0, .int 0, .ref h15, .ref h16, .int 0, .ref h17, .ref h18, .int 0, .ref h19, .int 0, .ref h20, .ref h21, .ref h22, .int 0, .ref h23, .ref h24, .ref h25]))] s.heap A s.heap [] := ⟨_, Wd⟩
  refine k_locals (Nat.le_of_ble_eq_true rfl) [(0, .ref h0), (1, .int x0), (2, .int x1)] rfl (fun ls hl => ?_)
  refine lv_iload_n C.1 C.2.1 dX12_ruleOf_0 rfl (lv_at hl 1 rfl) ?_
  refine lv_iconst (v := 0) C.1 C.2.1 dX12_ruleOf_1 (by decide) ?_
  refine lv_aload_n C.1 C.2.1 dX12_ruleOf_2 rfl (lv_at hl 0 rfl) ?_
  refine k_get C Wd KX12 0 23 rfl (by decide) fl_X12_268 rfl dX12_ruleOf_3 ?_
  refine lv_iconst (v := 1) C.1 C.2.1 dX12_ruleOf_6 (by decide) ?_
  refine k_isub (v := (-1)) C (by decide) dX12_ruleOf_7 ?_
  refine k_pi (k_runS (rest := []) C aks Wd cs_X12_90 (kcX12_isIn l D x0 0 (-1) _ ) [] rfl (by decide) [] rfl rfl rfl ⟨(Nat.le_of_ble_eq_true rfl), (Nat.le_of_ble_eq_true rfl)⟩ hl.1 rfl rfl (Nat.le_of_ble_eq_true rfl) ⟨(Nat.le_of_ble_eq_true rfl), (Nat.le_of_ble_eq_true rfl)⟩ dX12_ruleOf_8) (fun r w4777 => ?_)
  rcases w4777 with ⟨c4778, rfl⟩ | ⟨c4779, c4780, rfl⟩ | ⟨c4781, c4782, rfl⟩
  · refine lv_if_eq (tgt := 23) C.1 C.2.1 dX12_ruleOf_11 (by decide) (fun _ => ?_) (fun c4783 => absurd c4783 (by decide))
    refine lv_bipush (v := (-2)) C.1 C.2.1 dX12_ruleOf_23 (by decide) ?_
    exact k_zretP C hr hlk rfl (Or.inl (⟨c4778, rfl⟩)) dX12_ruleOf_25
  · refine lv_if_eq (tgt := 23) C.1 C.2.1 dX12_ruleOf_11 (by decide) (fun _ => ?_) (fun c4784 => absurd c4784 (by decide))
    refine lv_bipush (v := (-2)) C.1 C.2.1 dX12_ruleOf_23 (by decide) ?_
    exact k_zretP C hr hlk rfl (Or.inr (⟨c4779, c4780, rfl⟩)) dX12_ruleOf_25
  · exact False.elim (by have z0 := kz_nlt c4781; have z1 := kz_nlt c4782; have t0 : (0 : Int32).toInt = 0 := (by decide); have tm1 : (-1 : Int32).toInt = -1 := (by decide); omega)
set_option maxHeartbeats 4000000 in
set_option maxRecDepth 100000 in
theorem kcX12_places (l : Launch) (D : va_G) (h0 h1 h2 h3 h4 h5 h6 h7 h8 h9 h10 h11 h12 h13 h14 h15 h16 h17 h18 h19 h20 h21 h22 h23 h24 h25 : Nat) (x0 x1 : Int32) (sz : Nat)  : Met l yX12_places (Cond.code yX12_places cX12_places 5 (some .int) :: gG) { frames := 2, cells := 0, slots := 0, locals := 86 } (cPre D [] [(h0, .inr (12, [.ref h1, .ref h2, .ref h3, .ref h4, .int 0, .int 0, .ref h5, .int 0, .int 0, .int 0, .int 0, .int 0, .int 0, .int 0, .int 0, .int 0, .int 0, .int 0, .int 0, .int 0, .int (-1), .int 0, .int 0, .int 0, .ref h6, .ref h7, .ref h8, .ref h9, .ref h10, .ref h11, .int 0, .int 0, .int 0, .int 0, .ref h12, .ref h13, .ref h14, .int 0, .int 0, .int 0, .int 0, .ref h15, .ref h16, .int 0, .ref h17, .ref h18, .int 0, .ref h19, .int 0, .ref h20, .ref h21, .ref h22, .int 0, .ref h23, .ref h24, .ref h25]))] sz [.ref h0, .int x0, .int x1]) (vp_Si (fun r => (x0 < (0 : Int32) ∧ r = (-1)) ∨ (¬ x0 < (0 : Int32) ∧ (-1 : Int32) < x0 ∧ r = (-1)))) 0 0 (fun _ => False) := by
  refine Met.ofW (cc := cX12_places) (maxL := 5) (ret := (some .int)) (by decide) rfl ?_
  intro p e s m args below meth c s₁ B hml hv
  obtain ⟨rfl, aks, rfl, Wd⟩ := k_enter hv
  have C : CallFix p m c cX12_places 5 s _ gG RX12 := ⟨B.exec, B.bytes, hml, findClass_of_methodNamed B.named, fun w h => atoms_spec (ws := Cond.code yX12_places cX12_places 5 (some .int) :: gG) B.pre w (List.mem_cons_of_mem _ h)⟩
  have hr := B.returns
  have hlk := B.notSynchronized
  obtain ⟨A, Wd⟩ : ∃ A, wX D [] s [(h0, .inr (12, [.ref h1, .ref h2, .ref h3, .ref h4, .int 0, .int 0, .ref h5, .int 0, .int 0, .int 0, .int 0, .int 0, .int 0, .int 0, .int 0, .int 0, .int 0, .int 0, .int 0, .int 0, .int (-1), .int 0, .int 0, .int 0, .ref h6, .ref h7, .ref h8, .ref h9, .ref h10, .ref h11, .int 0, .int 0, .int 0, .int 0, .ref h12, .ref h13, .ref h14, .int 0, .int 0, .int 0, .int 0, .ref h15, .ref h16, .int 0, .ref h17, .ref h18, .int 0, .ref h19, .int 0, .ref h20, .ref h21, .ref h22, .int 0, .ref h23, .ref h24, .ref h25]))] s.heap A s.heap [] := ⟨_, Wd⟩
  refine k_locals (Nat.le_of_ble_eq_true rfl) [(0, .ref h0), (1, .int x0), (2, .int x1)] rfl (fun ls hl => ?_)
  refine lv_iload_n C.1 C.2.1 dX12_places_0 rfl (lv_at hl 1 rfl) ?_
  refine lv_iconst (v := 0) C.1 C.2.1 dX12_places_1 (by decide) ?_
  refine lv_aload_n C.1 C.2.1 dX12_places_2 rfl (lv_at hl 0 rfl) ?_
  refine k_get C Wd KX12 0 23 rfl (by decide) fl_X12_268 rfl dX12_places_3 ?_
  refine lv_iconst (v := 1) C.1 C.2.1 dX12_places_6 (by decide) ?_
  refine k_isub (v := (-1)) C (by decide) dX12_places_7 ?_
  refine k_pi (k_runS (rest := []) C aks Wd cs_X12_90 (kcX12_isIn l D x0 0 (-1) _ ) [] rfl (by decide) [] rfl rfl rfl ⟨(Nat.le_of_ble_eq_true rfl), (Nat.le_of_ble_eq_true rfl)⟩ hl.1 rfl rfl (Nat.le_of_ble_eq_true rfl) ⟨(Nat.le_of_ble_eq_true rfl), (Nat.le_of_ble_eq_true rfl)⟩ dX12_places_8) (fun r w4793 => ?_)
  rcases w4793 with ⟨c4794, rfl⟩ | ⟨c4795, c4796, rfl⟩ | ⟨c4797, c4798, rfl⟩
  · refine lv_if_eq (tgt := 21) C.1 C.2.1 dX12_places_11 (by decide) (fun _ => ?_) (fun c4799 => absurd c4799 (by decide))
    refine lv_iconst (v := (-1)) C.1 C.2.1 dX12_places_21 (by decide) ?_
    exact k_zretP C hr hlk rfl (Or.inl (⟨c4794, rfl⟩)) dX12_places_22
  · refine lv_if_eq (tgt := 21) C.1 C.2.1 dX12_places_11 (by decide) (fun _ => ?_) (fun c4800 => absurd c4800 (by decide))
    refine lv_iconst (v := (-1)) C.1 C.2.1 dX12_places_21 (by decide) ?_
    exact k_zretP C hr hlk rfl (Or.inr (⟨c4795, c4796, rfl⟩)) dX12_places_22
  · exact False.elim (by have z0 := kz_nlt c4797; have z1 := kz_nlt c4798; have t0 : (0 : Int32).toInt = 0 := (by decide); have tm1 : (-1 : Int32).toInt = -1 := (by decide); omega)
set_option maxHeartbeats 4000000 in
set_option maxRecDepth 100000 in
theorem kcX12_apply (l : Launch) (D : va_G) (h0 h1 h2 h3 h4 h5 h6 h7 h8 h9 h10 h11 h12 h13 h14 h15 h16 h17 h18 h19 h20 h21 h22 h23 h24 h25 : Nat) (x0 x1 x2 x3 : Int32) (sz : Nat)  : Met l yX12_apply (Cond.code yX12_apply cX12_apply 6 (some .boolean) :: gG) { frames := 2, cells := 0, slots := 0, locals := 86 } (cPre D [] [(h0, .inr (12, [.ref h1, .ref h2, .ref h3, .ref h4, .int 0, .int 0, .ref h5, .int 0, .int 0, .int 0, .int 0, .int 0, .int 0, .int 0, .int 0, .int 0, .int 0, .int 0, .int 0, .int 0, .int (-1), .int 0, .int 0, .int 0, .ref h6, .ref h7, .ref h8, .ref h9, .ref h10, .ref h11, .int 0, .int 0, .int 0, .int 0, .ref h12, .ref h13, .ref h14, .int 0, .int 0, .int 0, .int 0, .ref h15, .ref h16, .int 0, .ref h17, .ref h18, .int 0, .ref h19, .int 0, .ref h20, .ref h21, .ref h22, .int 0, .ref h23, .ref h24, .ref h25]))] sz [.ref h0, .int x0, .int x1, .int x2, .int x3]) (vp_Si (fun r => (x0 < (0 : Int32) ∧ r = 0) ∨ (¬ x0 < (0 : Int32) ∧ (-1 : Int32) < x0 ∧ r = 0))) 0 0 (fun _ => False) := by
  refine Met.ofW (cc := cX12_apply) (maxL := 6) (ret := (some .boolean)) (by decide) rfl ?_
  intro p e s m args below meth c s₁ B hml hv
  obtain ⟨rfl, aks, rfl, Wd⟩ := k_enter hv
  have C : CallFix p m c cX12_apply 6 s _ gG RX12 := ⟨B.exec, B.bytes, hml, findClass_of_methodNamed B.named, fun w h => atoms_spec (ws := Cond.code yX12_apply cX12_apply 6 (some .boolean) :: gG) B.pre w (List.mem_cons_of_mem _ h)⟩
  have hr := B.returns
  have hlk := B.notSynchronized
  obtain ⟨A, Wd⟩ : ∃ A, wX D [] s [(h0, .inr (12, [.ref h1, .ref h2, .ref h3, .ref h4, .int 0, .int 0, .ref h5, .int 0, .int 0, .int 0, .int 0, .int 0, .int 0, .int 0, .int 0, .int 0, .int 0, .int 0, .int 0, .int 0, .int (-1), .int 0, .int 0, .int 0, .ref h6, .ref h7, .ref h8, .ref h9, .ref h10, .ref h11, .int 0, .int 0, .int 0, .int 0, .ref h12, .ref h13, .ref h14, .int 0, .int 0, .int 0, .int 0, .ref h15, .ref h16, .int 0, .ref h17, .ref h18, .int 0, .ref h19, .int 0, .ref h20, .ref h21, .ref h22, .int 0, .ref h23, .ref h24, .ref h25]))] s.heap A s.heap [] := ⟨_, Wd⟩
  refine k_locals (Nat.le_of_ble_eq_true rfl) [(0, .ref h0), (1, .int x0), (2, .int x1), (3, .int x2), (4, .int x3)] rfl (fun ls hl => ?_)
  refine lv_iload_n C.1 C.2.1 dX12_apply_0 rfl (lv_at hl 1 rfl) ?_
  refine lv_iconst (v := 0) C.1 C.2.1 dX12_apply_1 (by decide) ?_
  refine lv_aload_n C.1 C.2.1 dX12_apply_2 rfl (lv_at hl 0 rfl) ?_
  refine k_get C Wd KX12 0 23 rfl (by decide) fl_X12_268 rfl dX12_apply_3 ?_
  refine lv_iconst (v := 1) C.1 C.2.1 dX12_apply_6 (by decide) ?_
  refine k_isub (v := (-1)) C (by decide) dX12_apply_7 ?_
  refine k_pi (k_runS (rest := []) C aks Wd cs_X12_90 (kcX12_isIn l D x0 0 (-1) _ ) [] rfl (by decide) [] rfl rfl rfl ⟨(Nat.le_of_ble_eq_true rfl), (Nat.le_of_ble_eq_true rfl)⟩ hl.1 rfl rfl (Nat.le_of_ble_eq_true rfl) ⟨(Nat.le_of_ble_eq_true rfl), (Nat.le_of_ble_eq_true rfl)⟩ dX12_apply_8) (fun r w4809 => ?_)
  rcases w4809 with ⟨c4810, rfl⟩ | ⟨c4811, c4812, rfl⟩ | ⟨c4813, c4814, rfl⟩
  · refine lv_if_eq (tgt := 33) C.1 C.2.1 dX12_apply_11 (by decide) (fun _ => ?_) (fun c4815 => absurd c4815 (by decide))
    refine lv_iconst (v := 0) C.1 C.2.1 dX12_apply_33 (by decide) ?_
    exact k_zretP C hr hlk rfl (Or.inl (⟨c4810, rfl⟩)) dX12_apply_34
  · refine lv_if_eq (tgt := 33) C.1 C.2.1 dX12_apply_11 (by decide) (fun _ => ?_) (fun c4816 => absurd c4816 (by decide))
    refine lv_iconst (v := 0) C.1 C.2.1 dX12_apply_33 (by decide) ?_
    exact k_zretP C hr hlk rfl (Or.inr (⟨c4811, c4812, rfl⟩)) dX12_apply_34
  · exact False.elim (by have z0 := kz_nlt c4813; have z1 := kz_nlt c4814; have t0 : (0 : Int32).toInt = 0 := (by decide); have tm1 : (-1 : Int32).toInt = -1 := (by decide); omega)
set_option maxHeartbeats 4000000 in
set_option maxRecDepth 100000 in
theorem kcX12_isPass (l : Launch) (D : va_G) (x0 : Int32) (sz : Nat)  : Met l yX12_isPass (Cond.code yX12_isPass cX12_isPass 1 (some .boolean) :: gG) { frames := 2, cells := 0, slots := 0, locals := 86 } (cPre D [] [] sz [.int x0]) (vp_Si (fun r => (x0 < (0 : Int32) ∧ r = 0) ∨ (¬ x0 < (0 : Int32) ∧ (5 : Int32) < x0 ∧ r = 0) ∨ (¬ x0 < (0 : Int32) ∧ ¬ (5 : Int32) < x0 ∧ r = 1))) 0 0 (fun _ => False) := by
  refine Met.ofW (cc := cX12_isPass) (maxL := 1) (ret := (some .boolean)) (by decide) rfl ?_
  intro p e s m args below meth c s₁ B hml hv
  obtain ⟨rfl, aks, rfl, Wd⟩ := k_enter hv
  have C : CallFix p m c cX12_isPass 1 s _ gG RX12 := ⟨B.exec, B.bytes, hml, findClass_of_methodNamed B.named, fun w h => atoms_spec (ws := Cond.code yX12_isPass cX12_isPass 1 (some .boolean) :: gG) B.pre w (List.mem_cons_of_mem _ h)⟩
  have hr := B.returns
  have hlk := B.notSynchronized
  obtain ⟨A, Wd⟩ : ∃ A, wX D [] s [] s.heap A s.heap [] := ⟨_, Wd⟩
  refine k_locals (Nat.le_of_ble_eq_true rfl) [(0, .int x0)] rfl (fun ls hl => ?_)
  refine lv_iload_n C.1 C.2.1 dX12_isPass_0 rfl (lv_at hl 0 rfl) ?_
  refine lv_iconst (v := 0) C.1 C.2.1 dX12_isPass_1 (by decide) ?_
  refine lv_iconst (v := 5) C.1 C.2.1 dX12_isPass_2 (by decide) ?_
  refine k_pi (k_runS (rest := []) C aks Wd cs_X12_90 (kcX12_isIn l D x0 0 5 _ ) [] rfl (by decide) [] rfl rfl rfl ⟨(Nat.le_of_ble_eq_true rfl), (Nat.le_of_ble_eq_true rfl)⟩ hl.1 rfl rfl (Nat.le_of_ble_eq_true rfl) ⟨(Nat.le_of_ble_eq_true rfl), (Nat.le_of_ble_eq_true rfl)⟩ dX12_isPass_3) (fun r w4823 => ?_)
  rcases w4823 with ⟨c4824, rfl⟩ | ⟨c4825, c4826, rfl⟩ | ⟨c4827, c4828, rfl⟩
  · exact k_zretP C hr hlk rfl (Or.inl (⟨c4824, rfl⟩)) dX12_isPass_6
  · exact k_zretP C hr hlk rfl (Or.inr (Or.inl (⟨c4825, c4826, rfl⟩))) dX12_isPass_6
  · exact k_zretP C hr hlk rfl (Or.inr (Or.inr (⟨c4827, c4828, rfl⟩))) dX12_isPass_6
set_option maxHeartbeats 4000000 in
set_option maxRecDepth 100000 in
theorem kcX12_item (l : Launch) (D : va_G) (h0 h1 h2 h3 h4 h5 h6 h7 h8 h9 h10 h11 h12 h13 h14 h15 h16 h17 h18 h19 h20 h21 h22 h23 h24 h25 : Nat) (x0 x1 : Int32) (a19 a20 : ClassId) (sz : Nat)  : Met l yX12_item (Cond.code yX12_item cX12_item 3 (some .int) :: gG) { frames := 3, cells := 0, slots := 0, locals := 106 } (cPre D [(a19, .int), (a20, .int)] [(h0, .inr (12, [.ref h1, .ref h2, .ref h3, .ref h4, .int 0, .int 0, .ref h5, .int 0, .int 0, .int 0, .int 0, .int 0, .int 0, .int 0, .int 0, .int 0, .int 0, .int 0, .int 0, .int 0, .int (-1), .int 0, .int 0, .int 0, .ref h6, .ref h7, .ref h8, .ref h9, .ref h10, .ref h11, .int 0, .int 0, .int 0, .int 0, .ref h12, .ref h13, .ref h14, .int 0, .int 0, .int 0, .int 0, .ref h15, .ref h16, .int 0, .ref h17, .ref h18, .int 0, .ref h19, .int 0, .ref h20, .ref h21, .ref h22, .int 0, .ref h23, .ref h24, .ref h25])), (h21, .inl (a20, 6, .inl (fun _ => 0))), (h20, .inl (a19, 48, .inl (fun _ => 0)))] sz [.ref h0, .int x0, .int x1]) (va_Qi (fun (r : Int32) (_ : Unit) => (x0 < (0 : Int32) ∧ r = (-1)) ∨ (¬ x0 < (0 : Int32) ∧ (5 : Int32) < x0 ∧ r = (-1)) ∨ (¬ x0 < (0 : Int32) ∧ ¬ (5 : Int32) < x0 ∧ x1 < (0 : Int32) ∧ x1 < (20 : Int32) ∧ r = (-1)) ∨ (¬ x0 < (0 : Int32) ∧ ¬ (5 : Int32) < x0 ∧ ¬ x1 < (0 : Int32) ∧ (-1 : Int32) < x1 ∧ x1 < (20 : Int32) ∧ r = (-1)) ∨ (¬ x0 < (0 : Int32) ∧ ¬ (5 : Int32) < x0 ∧ ¬ x1 < (0 : Int32) ∧ (-1 : Int32) < x1 ∧ ¬ x1 < (20 : Int32) ∧ (24 : Int32) < x1 ∧ r = (-1)) ∨ (¬ x0 < (0 : Int32) ∧ ¬ (5 : Int32) < x0 ∧ ¬ x1 < (0 : Int32) ∧ (-1 : Int32) < x1 ∧ ¬ x1 < (20 : Int32) ∧ ¬ (24 : Int32) < x1 ∧ x0 = (0 : Int32) ∧ r = 1) ∨ (¬ x0 < (0 : Int32) ∧ ¬ (5 : Int32) < x0 ∧ ¬ x1 < (0 : Int32) ∧ (-1 : Int32) < x1 ∧ ¬ x1 < (20 : Int32) ∧ ¬ (24 : Int32) < x1 ∧ ¬ x0 = (0 : Int32) ∧ x0 = (1 : Int32) ∧ r = 1) ∨ (¬ x0 < (0 : Int32) ∧ ¬ (5 : Int32) < x0 ∧ ¬ x1 < (0 : Int32) ∧ (-1 : Int32) < x1 ∧ ¬ x1 < (20 : Int32) ∧ ¬ (24 : Int32) < x1 ∧ ¬ x0 = (0 : Int32) ∧ ¬ x0 = (1 : Int32) ∧ x0 = (2 : Int32) ∧ r = 1) ∨ (¬ x0 < (0 : Int32) ∧ ¬ (5 : Int32) < x0 ∧ ¬ x1 < (0 : Int32) ∧ (-1 : Int32) < x1 ∧ ¬ x1 < (20 : Int32) ∧ ¬ (24 : Int32) < x1 ∧ ¬ x0 = (0 : Int32) ∧ ¬ x0 = (1 : Int32) ∧ ¬ x0 = (2 : Int32) ∧ x0 = (3 : Int32) ∧ r = 1) ∨ (¬ x0 < (0 : Int32) ∧ ¬ (5 : Int32) < x0 ∧ ¬ x1 < (0 : Int32) ∧ (-1 : Int32) < x1 ∧ ¬ x1 < (20 : Int32) ∧ ¬ (24 : Int32) < x1 ∧ ¬ x0 = (0 : Int32) ∧ ¬ x0 = (1 : Int32) ∧ ¬ x0 = (2 : Int32) ∧ ¬ x0 = (3 : Int32) ∧ x0 = (4 : Int32) ∧ r = 1) ∨ (¬ x0 < (0 : Int32) ∧ ¬ (5 : Int32) < x0 ∧ ¬ x1 < (0 : Int32) ∧ (-1 : Int32) < x1 ∧ ¬ x1 < (20 : Int32) ∧ ¬ (24 : Int32) < x1 ∧ ¬ x0 = (0 : Int32) ∧ ¬ x0 = (1 : Int32) ∧ ¬ x0 = (2 : Int32) ∧ ¬ x0 = (3 : Int32) ∧ ¬ x0 = (4 : Int32) ∧ x0 = (5 : Int32) ∧ r = 1)) (fun u t => cB D (va_A [(h0, .inr (12, [.ref h1, .ref h2, .ref h3, .ref h4, .int 0, .int 0, .ref h5, .int 0, .int 0, .int 0, .int 0, .int 0, .int 0, .int 0, .int 0, .int 0, .int 0, .int 0, .int 0, .int 0, .int (-1), .int 0, .int 0, .int 0, .ref h6, .ref h7, .ref h8, .ref h9, .ref h10, .ref h11, .int 0, .int 0, .int 0, .int 0, .ref h12, .ref h13, .ref h14, .int 0, .int 0, .int 0, .int 0, .ref h15, .ref h16, .int 0, .ref h17, .ref h18, .int 0, .ref h19, .int 0, .ref h20, .ref h21, .ref h22, .int 0, .ref h23, .ref h24, .ref h25])), (h21, .inl (a20, 6, .inl (fun _ => 0))), (h20, .inl (a19, 48, .inl (fun _ => 0)))] sz) ((fun (_ : Unit) => ([] : List (ClassId × FieldType))) u) ((fun (_ : Unit) => ([] : va_W)) u) t) (va_A [(h0, .inr (12, [.ref h1, .ref h2, .ref h3, .ref h4, .int 0, .int 0, .ref h5, .int 0, .int 0, .int 0, .int 0, .int 0, .int 0, .int 0, .int 0, .int 0, .int 0, .int 0, .int 0, .int 0, .int (-1), .int 0, .int 0, .int 0, .ref h6, .ref h7, .ref h8, .ref h9, .ref h10, .ref h11, .int 0, .int 0, .int 0, .int 0, .ref h12, .ref h13, .ref h14, .int 0, .int 0, .int 0, .int 0, .ref h15, .ref h16, .int 0, .ref h17, .ref h18, .int 0, .ref h19, .int 0, .ref h20, .ref h21, .ref h22, .int 0, .ref h23, .ref h24, .ref h25])), (h21, .inl (a20, 6, .inl (fun _ => 0))), (h20, .inl (a19, 48, .inl (fun _ => 0)))] sz)) 0 0 (va_A [(h0, .inr (12, [.ref h1, .ref h2, .ref h3, .ref h4, .int 0, .int 0, .ref h5, .int 0, .int 0, .int 0, .int 0, .int 0, .int 0, .int 0, .int 0, .int 0, .int 0, .int 0, .int 0, .int 0, .int (-1), .int 0, .int 0, .int 0, .ref h6, .ref h7, .ref h8, .ref h9, .ref h10, .ref h11, .int 0, .int 0, .int 0, .int 0, .ref h12, .ref h13, .ref h14, .int 0, .int 0, .int 0, .int 0, .ref h15, .ref h16, .int 0, .ref h17, .ref h18, .int 0, .ref h19, .int 0, .ref h20, .ref h21, .ref h22, .int 0, .ref h23, .ref h24, .ref h25])), (h21, .inl (a20, 6, .inl (fun _ => 0))), (h20, .inl (a19, 48, .inl (fun _ => 0)))] sz) := by
  refine Met.ofW (cc := cX12_item) (maxL := 3) (ret := (some .int)) (by decide) rfl ?_
  intro p e s m args below meth c s₁ B hml hv
  obtain ⟨rfl, aks, rfl, Wd⟩ := k_enter hv
  have C : CallFix p m c cX12_item 3 s _ gG RX12 := ⟨B.exec, B.bytes, hml, findClass_of_methodNamed B.named, fun w h => atoms_spec (ws := Cond.code yX12_item cX12_item 3 (some .int) :: gG) B.pre w (List.mem_cons_of_mem _ h)⟩
  have hr := B.returns
  have hlk := B.notSynchronized
  generalize va_A [(h0, .inr (12, [.ref h1, .ref h2, .ref h3, .ref h4, .int 0, .int 0, .ref h5, .int 0, .int 0, .int 0, .int 0, .int 0, .int 0, .int 0, .int 0, .int 0, .int 0, .int 0, .int 0, .int 0, .int (-1), .int 0, .int 0, .int 0, .ref h6, .ref h7, .ref h8, .ref h9, .ref h10, .ref h11, .int 0, .int 0, .int 0, .int 0, .ref h12, .ref h13, .ref h14, .int 0, .int 0, .int 0, .int 0, .ref h15, .ref h16, .int 0, .ref h17, .ref h18, .int 0, .ref h19, .int 0, .ref h20, .ref h21, .ref h22, .int 0, .ref h23, .ref h24, .ref h25])), (h21, .inl (a20, 6, .inl (fun _ => 0))), (h20, .inl (a19, 48, .inl (fun _ => 0)))] s.heap.size = A at Wd ⊢
  refine k_locals (Nat.le_of_ble_eq_true rfl) [(0, .ref h0), (1, .int x0), (2, .int x1)] rfl (fun ls hl => ?_)
  refine lv_iload_n C.1 C.2.1 dX12_item_0 rfl (lv_at hl 1 rfl) ?_
  refine k_pi (k_runS (rest := []) C aks Wd cs_X12_423 (kcX12_isPass l D x0 _ ) [] rfl (by decide) [] rfl rfl rfl ⟨(Nat.le_of_ble_eq_true rfl), (Nat.le_of_ble_eq_true rfl)⟩ hl.1 rfl rfl (Nat.le_of_ble_eq_true rfl) ⟨(Nat.le_of_ble_eq_true rfl), (Nat.le_of_ble_eq_true rfl)⟩ dX12_item_1) (fun r w4869 => ?_)
  rcases w4869 with ⟨c4870, rfl⟩ | ⟨c4871, c4872, rfl⟩ | ⟨c4873, c4874, rfl⟩
  · refine lv_if_eq (tgt := 43) C.1 C.2.1 dX12_item_4 (by decide) (fun _ => ?_) (fun c4875 => absurd c4875 (by decide))
    refine lv_iconst (v := (-1)) C.1 C.2.1 dX12_item_43 (by decide) ?_
    exact k_zret C hr hlk rfl Wd () (Or.inl (⟨c4870, rfl⟩)) [] rfl (by decide) [] rfl (by decide) (by decide) dX12_item_44
  · refine lv_if_eq (tgt := 43) C.1 C.2.1 dX12_item_4 (by decide) (fun _ => ?_) (fun c4876 => absurd c4876 (by decide))
    refine lv_iconst (v := (-1)) C.1 C.2.1 dX12_item_43 (by decide) ?_
    exact k_zret C hr hlk rfl Wd () (Or.inr (Or.inl (⟨c4871, c4872, rfl⟩))) [] rfl (by decide) [] rfl (by decide) (by decide) dX12_item_44
  · refine lv_if_eq (tgt := 43) C.1 C.2.1 dX12_item_4 (by decide) (fun c4877 => absurd c4877 (by decide)) (fun _ => ?_)
    refine lv_iload_n C.1 C.2.1 dX12_item_7 rfl (lv_at hl 2 rfl) ?_
    refine lv_iconst (v := 0) C.1 C.2.1 dX12_item_8 (by decide) ?_
    refine lv_aload_n C.1 C.2.1 dX12_item_9 rfl (lv_at hl 0 rfl) ?_
    refine k_get C Wd KX12 0 23 rfl (by decide) fl_X12_268 rfl dX12_item_10 ?_
    refine lv_iconst (v := 1) C.1 C.2.1 dX12_item_13 (by decide) ?_
    refine k_isub (v := (-1)) C (by decide) dX12_item_14 ?_
    refine k_pi (k_runS (rest := []) C aks Wd cs_X12_90 (kcX12_isIn l D x1 0 (-1) _ ) [] rfl (by decide) [] rfl rfl rfl ⟨(Nat.le_of_ble_eq_true rfl), (Nat.le_of_ble_eq_true rfl)⟩ hl.1 rfl rfl (Nat.le_of_ble_eq_true rfl) ⟨(Nat.le_of_ble_eq_true rfl), (Nat.le_of_ble_eq_true rfl)⟩ dX12_item_15) (fun r w4878 => ?_)
    rcases w4878 with ⟨c4879, rfl⟩ | ⟨c4880, c4881, rfl⟩ | ⟨c4882, c4883, rfl⟩
    · refine lv_if_ne (tgt := 32) C.1 C.2.1 dX12_item_18 (by decide) (fun c4884 => absurd c4884 (by decide)) (fun _ => ?_)
      refine lv_iload_n C.1 C.2.1 dX12_item_21 rfl (lv_at hl 2 rfl) ?_
      refine lv_bipush (v := 20) C.1 C.2.1 dX12_item_22 (by decide) ?_
      refine lv_bipush (v := 24) C.1 C.2.1 dX12_item_24 (by decide) ?_
      refine k_pi (k_runS (rest := []) C aks Wd cs_X12_90 (kcX12_isIn l D x1 20 24 _ ) [] rfl (by decide) [] rfl rfl rfl ⟨(Nat.le_of_ble_eq_true rfl), (Nat.le_of_ble_eq_true rfl)⟩ hl.1 rfl rfl (Nat.le_of_ble_eq_true rfl) ⟨(Nat.le_of_ble_eq_true rfl), (Nat.le_of_ble_eq_true rfl)⟩ dX12_item_26) (fun r w4885 => ?_)
      rcases w4885 with ⟨c4886, rfl⟩ | ⟨c4887, c4888, rfl⟩ | ⟨c4889, c4890, rfl⟩
      · refine lv_if_eq (tgt := 43) C.1 C.2.1 dX12_item_29 (by decide) (fun _ => ?_) (fun c4891 => absurd c4891 (by decide))
        refine lv_iconst (v := (-1)) C.1 C.2.1 dX12_item_43 (by decide) ?_
        exact k_zret C hr hlk rfl Wd () (Or.inr (Or.inr (Or.inl (⟨c4873, c4874, c4879, c4886, rfl⟩)))) [] rfl (by decide) [] rfl (by decide) (by decide) dX12_item_44
      · exact False.elim (by have z0 := kz_lt c4879; have z1 := kz_nlt c4887; have t0 : (0 : Int32).toInt = 0 := (by decide); have t20 : (20 : Int32).toInt = 20 := (by decide); omega)
      · exact False.elim (by have z0 := kz_lt c4879; have z1 := kz_nlt c4889; have t0 : (0 : Int32).toInt = 0 := (by decide); have t20 : (20 : Int32).toInt = 20 := (by decide); omega)
    · refine lv_if_ne (tgt := 32) C.1 C.2.1 dX12_item_18 (by decide) (fun c4892 => absurd c4892 (by decide)) (fun _ => ?_)
      refine lv_iload_n C.1 C.2.1 dX12_item_21 rfl (lv_at hl 2 rfl) ?_
      refine lv_bipush (v := 20) C.1 C.2.1 dX12_item_22 (by decide) ?_
      refine lv_bipush (v := 24) C.1 C.2.1 dX12_item_24 (by decide) ?_
      refine k_pi (k_runS (rest := []) C aks Wd cs_X12_90 (kcX12_isIn l D x1 20 24 _ ) [] rfl (by decide) [] rfl rfl rfl ⟨(Nat.le_of_ble_eq_true rfl), (Nat.le_of_ble_eq_true rfl)⟩ hl.1 rfl rfl (Nat.le_of_ble_eq_true rfl) ⟨(Nat.le_of_ble_eq_true rfl), (Nat.le_of_ble_eq_true rfl)⟩ dX12_item_26) (fun r w4893 => ?_)
      rcases w4893 with ⟨c4894, rfl⟩ | ⟨c4895, c4896, rfl⟩ | ⟨c4897, c4898, rfl⟩
      · refine lv_if_eq (tgt := 43) C.1 C.2.1 dX12_item_29 (by decide) (fun _ => ?_) (fun c4899 => absurd c4899 (by decide))
        refine lv_iconst (v := (-1)) C.1 C.2.1 dX12_item_43 (by decide) ?_
        exact k_zret C hr hlk rfl Wd () (Or.inr (Or.inr (Or.inr (Or.inl (⟨c4873, c4874, c4880, c4881, c4894, rfl⟩))))) [] rfl (by decide) [] rfl (by decide) (by decide) dX12_item_44
      · refine lv_if_eq (tgt := 43) C.1 C.2.1 dX12_item_29 (by decide) (fun _ => ?_) (fun c4900 => absurd c4900 (by decide))
        refine lv_iconst (v := (-1)) C.1 C.2.1 dX12_item_43 (by decide) ?_
        exact k_zret C hr hlk rfl Wd () (Or.inr (Or.inr (Or.inr (Or.inr (Or.inl (⟨c4873, c4874, c4880, c4881, c4895, c4896, rfl⟩)))))) [] rfl (by decide) [] rfl (by decide) (by decide) dX12_item_44
      · refine lv_if_eq (tgt := 43) C.1 C.2.1 dX12_item_29 (by decide) (fun c4901 => absurd c4901 (by decide)) (fun _ => ?_)
        refine lv_aload_n C.1 C.2.1 dX12_item_32 rfl (lv_at hl 0 rfl) ?_
        refine k_get C Wd KX12 0 50 rfl (by decide) fl_X12_75 rfl dX12_item_33 ?_
        refine lv_iload_n C.1 C.2.1 dX12_item_36 rfl (lv_at hl 1 rfl) ?_
        refine k_iald (v := 0) C Wd 1 1 rfl rfl (vp_in_iff.mpr ⟨by have z0 := kz_nlt c4873; have z1 := kz_nlt c4874; have t0 : (0 : Int32).toInt = 0 := (by decide); have t5 : (5 : Int32).toInt = 5 := (by decide); omega, by have z0 := kz_nlt c4873; have z1 := kz_nlt c4874; have t0 : (0 : Int32).toInt = 0 := (by decide); have t5 : (5 : Int32).toInt = 5 := (by decide); omega⟩) rfl dX12_item_37 ?_
        refine lv_bipush (v := 8) C.1 C.2.1 dX12_item_38 (by decide) ?_
        refine lv_icmp_ne (tgt := 45) C.1 C.2.1 dX12_item_40 (by decide) (fun _ => ?_) (fun c4902 => absurd c4902 (by decide))
        refine lv_aload_n C.1 C.2.1 dX12_item_45 rfl (lv_at hl 0 rfl) ?_
        refine k_get C Wd KX12 0 49 rfl (by decide) fl_X12_72 rfl dX12_item_46 ?_
        refine lv_bipush (v := 8) C.1 C.2.1 dX12_item_49 (by decide) ?_
        refine lv_iload_n C.1 C.2.1 dX12_item_51 rfl (lv_at hl 1 rfl) ?_
        refine k_imul (v := (8 * x0)) C rfl dX12_item_52 ?_
        refine lv_aload_n C.1 C.2.1 dX12_item_53 rfl (lv_at hl 0 rfl) ?_
        refine k_get C Wd KX12 0 50 rfl (by decide) fl_X12_75 rfl dX12_item_54 ?_
        refine lv_iload_n C.1 C.2.1 dX12_item_57 rfl (lv_at hl 1 rfl) ?_
        refine k_iald (v := 0) C Wd 1 1 rfl rfl (vp_in_iff.mpr ⟨by have z0 := kz_nlt c4873; have z1 := kz_nlt c4874; have t0 : (0 : Int32).toInt = 0 := (by decide); have t5 : (5 : Int32).toInt = 5 := (by decide); omega, by have z0 := kz_nlt c4873; have z1 := kz_nlt c4874; have t0 : (0 : Int32).toInt = 0 := (by decide); have t5 : (5 : Int32).toInt = 5 := (by decide); omega⟩) rfl dX12_item_58 ?_
        refine k_iadd (v := ((8 * x0) + 0)) C rfl dX12_item_59 ?_
        refine lv_iload_n C.1 C.2.1 dX12_item_60 rfl (lv_at hl 2 rfl) ?_
        by_cases c4903 : x0 = (0 : Int32)
        · subst c4903
          refine k_iast C Wd 2 0 [(h0, .inr (12, [.ref h1, .ref h2, .ref h3, .ref h4, .int 0, .int 0, .ref h5, .int 0, .int 0, .int 0, .int 0, .int 0, .int 0, .int 0, .int 0, .int 0, .int 0, .int 0, .int 0, .int 0, .int (-1), .int 0, .int 0, .int 0, .ref h6, .ref h7, .ref h8, .ref h9, .ref h10, .ref h11, .int 0, .int 0, .int 0, .int 0, .ref h12, .ref h13, .ref h14, .int 0, .int 0, .int 0, .int 0, .ref h15, .ref h16, .int 0, .ref h17, .ref h18, .int 0, .ref h19, .int 0, .ref h20, .ref h21, .ref h22, .int 0, .ref h23, .ref h24, .ref h25])), (h21, .inl (a20, 6, .inl (fun _ => 0))), (h20, .inl (a19, 48, .inl (upd (fun _ => 0) 0 x1)))] rfl rfl (vp_in_iff.mpr (by decide)) rfl rfl dX12_item_61 (fun H locs Wd => ?_)
          refine lv_aload_n C.1 C.2.1 dX12_item_62 rfl (lv_at hl 0 rfl) ?_
          refine k_get C Wd KX12 0 50 rfl (by decide) fl_X12_75 rfl dX12_item_63 ?_
          refine lv_iload_n C.1 C.2.1 dX12_item_66 rfl (lv_at hl 1 rfl) ?_
          refine lv_dup2_11 C.1 C.2.1 dX12_item_67 rfl rfl ?_
          refine k_iald (v := 0) C Wd 1 1 rfl rfl (vp_in_iff.mpr (by decide)) rfl dX12_item_68 ?_
          refine lv_iconst (v := 1) C.1 C.2.1 dX12_item_69 (by decide) ?_
          refine k_iadd (v := 1) C (by decide) dX12_item_70 ?_
          refine k_iast C Wd 1 1 [(h0, .inr (12, [.ref h1, .ref h2, .ref h3, .ref h4, .int 0, .int 0, .ref h5, .int 0, .int 0, .int 0, .int 0, .int 0, .int 0, .int 0, .int 0, .int 0, .int 0, .int 0, .int 0, .int 0, .int (-1), .int 0, .int 0, .int 0, .ref h6, .ref h7, .ref h8, .ref h9, .ref h10, .ref h11, .int 0, .int 0, .int 0, .int 0, .ref h12, .ref h13, .ref h14, .int 0, .int 0, .int 0, .int 0, .ref h15, .ref h16, .int 0, .ref h17, .ref h18, .int 0, .ref h19, .int 0, .ref h20, .ref h21, .ref h22, .int 0, .ref h23, .ref h24, .ref h25])), (h21, .inl (a20, 6, .inl (upd (fun _ => 0) 0 1))), (h20, .inl (a19, 48, .inl (upd (fun _ => 0) 0 x1)))] rfl rfl (vp_in_iff.mpr (by decide)) rfl rfl dX12_item_71 (fun H locs Wd => ?_)
          refine lv_aload_n C.1 C.2.1 dX12_item_72 rfl (lv_at hl 0 rfl) ?_
          refine k_get C Wd KX12 0 50 rfl (by decide) fl_X12_75 rfl dX12_item_73 ?_
          refine lv_iload_n C.1 C.2.1 dX12_item_76 rfl (lv_at hl 1 rfl) ?_
          refine k_iald (v := 1) C Wd 1 1 rfl rfl (vp_in_iff.mpr (by decide)) rfl dX12_item_77 ?_
          exact k_zret C hr hlk rfl Wd () (Or.inr (Or.inr (Or.inr (Or.inr (Or.inr (Or.inl (⟨c4873, c4874, c4880, c4881, c4897, c4898, rfl, rfl⟩))))))) [] rfl (by decide) [] rfl (by decide) (by decide) dX12_item_78
        by_cases c4904 : x0 = (1 : Int32)
        · subst c4904
          refine k_iast C Wd 2 0 [(h0, .inr (12, [.ref h1, .ref h2, .ref h3, .ref h4, .int 0, .int 0, .ref h5, .int 0, .int 0, .int 0, .int 0, .int 0, .int 0, .int 0, .int 0, .int 0, .int 0, .int 0, .int 0, .int 0, .int (-1), .int 0, .int 0, .int 0, .ref h6, .ref h7, .ref h8, .ref h9, .ref h10, .ref h11, .int 0, .int 0, .int 0, .int 0, .ref h12, .ref h13, .ref h14, .int 0, .int 0, .int 0, .int 0, .ref h15, .ref h16, .int 0, .ref h17, .ref h18, .int 0, .ref h19, .int 0, .ref h20, .ref h21, .ref h22, .int 0, .ref h23, .ref h24, .ref h25])), (h21, .inl (a20, 6, .inl (fun _ => 0))), (h20, .inl (a19, 48, .inl (upd (fun _ => 0) 8 x1)))] rfl rfl (vp_in_iff.mpr (by decide)) rfl rfl dX12_item_61 (fun H locs Wd => ?_)
          refine lv_aload_n C.1 C.2.1 dX12_item_62 rfl (lv_at hl 0 rfl) ?_
          refine k_get C Wd KX12 0 50 rfl (by decide) fl_X12_75 rfl dX12_item_63 ?_
          refine lv_iload_n C.1 C.2.1 dX12_item_66 rfl (lv_at hl 1 rfl) ?_
          refine lv_dup2_11 C.1 C.2.1 dX12_item_67 rfl rfl ?_
          refine k_iald (v := 0) C Wd 1 1 rfl rfl (vp_in_iff.mpr (by decide)) rfl dX12_item_68 ?_
          refine lv_iconst (v := 1) C.1 C.2.1 dX12_item_69 (by decide) ?_
          refine k_iadd (v := 1) C (by decide) dX12_item_70 ?_
          refine k_iast C Wd 1 1 [(h0, .inr (12, [.ref h1, .ref h2, .ref h3, .ref h4, .int 0, .int 0, .ref h5, .int 0, .int 0, .int 0, .int 0, .int 0, .int 0, .int 0, .int 0, .int 0, .int 0, .int 0, .int 0, .int 0, .int (-1), .int 0, .int 0, .int 0, .ref h6, .ref h7, .ref h8, .ref h9, .ref h10, .ref h11, .int 0, .int 0, .int 0, .int 0, .ref h12, .ref h13, .ref h14, .int 0, .int 0, .int 0, .int 0, .ref h15, .ref h16, .int 0, .ref h17, .ref h18, .int 0, .ref h19, .int 0, .ref h20, .ref h21, .ref h22, .int 0, .ref h23, .ref h24, .ref h25])), (h21, .inl (a20, 6, .inl (upd (fun _ => 0) 1 1))), (h20, .inl (a19, 48, .inl (upd (fun _ => 0) 8 x1)))] rfl rfl (vp_in_iff.mpr (by decide)) rfl rfl dX12_item_71 (fun H locs Wd => ?_)
          refine lv_aload_n C.1 C.2.1 dX12_item_72 rfl (lv_at hl 0 rfl) ?_
          refine k_get C Wd KX12 0 50 rfl (by decide) fl_X12_75 rfl dX12_item_73 ?_
          refine lv_iload_n C.1 C.2.1 dX12_item_76 rfl (lv_at hl 1 rfl) ?_
          refine k_iald (v := 1) C Wd 1 1 rfl rfl (vp_in_iff.mpr (by decide)) rfl dX12_item_77 ?_
          exact k_zret C hr hlk rfl Wd () (Or.inr (Or.inr (Or.inr (Or.inr (Or.inr (Or.inr (Or.inl (⟨c4873, c4874, c4880, c4881, c4897, c4898, c4903, rfl, rfl⟩)))))))) [] rfl (by decide) [] rfl (by decide) (by decide) dX12_item_78
        by_cases c4905 : x0 = (2 : Int32)
        · subst c4905
          refine k_iast C Wd 2 0 [(h0, .inr (12, [.ref h1, .ref h2, .ref h3, .ref h4, .int 0, .int 0, .ref h5, .int 0, .int 0, .int 0, .int 0, .int 0, .int 0, .int 0, .int 0, .int 0, .int 0, .int 0, .int 0, .int 0, .int (-1), .int 0, .int 0, .int 0, .ref h6, .ref h7, .ref h8, .ref h9, .ref h10, .ref h11, .int 0, .int 0, .int 0, .int 0, .ref h12, .ref h13, .ref h14, .int 0, .int 0, .int 0, .int 0, .ref h15, .ref h16, .int 0, .ref h17, .ref h18, .int 0, .ref h19, .int 0, .ref h20, .ref h21, .ref h22, .int 0, .ref h23, .ref h24, .ref h25])), (h21, .inl (a20, 6, .inl (fun _ => 0))), (h20, .inl (a19, 48, .inl (upd (fun _ => 0) 16 x1)))] rfl rfl (vp_in_iff.mpr (by decide)) rfl rfl dX12_item_61 (fun H locs Wd => ?_)
          refine lv_aload_n C.1 C.2.1 dX12_item_62 rfl (lv_at hl 0 rfl) ?_
          refine k_get C Wd KX12 0 50 rfl (by decide) fl_X12_75 rfl dX12_item_63 ?_
          refine lv_iload_n C.1 C.2.1 dX12_item_66 rfl (lv_at hl 1 rfl) ?_
          refine lv_dup2_11 C.1 C.2.1 dX12_item_67 rfl rfl ?_
          refine k_iald (v := 0) C Wd 1 1 rfl rfl (vp_in_iff.mpr (by decide)) rfl dX12_item_68 ?_
          refine lv_iconst (v := 1) C.1 C.2.1 dX12_item_69 (by decide) ?_
          refine k_iadd (v := 1) C (by decide) dX12_item_70 ?_
          refine k_iast C Wd 1 1 [(h0, .inr (12, [.ref h1, .ref h2, .ref h3, .ref h4, .int 0, .int 0, .ref h5, .int 0, .int 0, .int 0, .int 0, .int 0, .int 0, .int 0, .int 0, .int 0, .int 0, .int 0, .int 0, .int 0, .int (-1), .int 0, .int 0, .int 0, .ref h6, .ref h7, .ref h8, .ref h9, .ref h10, .ref h11, .int 0, .int 0, .int 0, .int 0, .ref h12, .ref h13, .ref h14, .int 0, .int 0, .int 0, .int 0, .ref h15, .ref h16, .int 0, .ref h17, .ref h18, .int 0, .ref h19, .int 0, .ref h20, .ref h21, .ref h22, .int 0, .ref h23, .ref h24, .ref h25])), (h21, .inl (a20, 6, .inl (upd (fun _ => 0) 2 1))), (h20, .inl (a19, 48, .inl (upd (fun _ => 0) 16 x1)))] rfl rfl (vp_in_iff.mpr (by decide)) rfl rfl dX12_item_71 (fun H locs Wd => ?_)
          refine lv_aload_n C.1 C.2.1 dX12_item_72 rfl (lv_at hl 0 rfl) ?_
          refine k_get C Wd KX12 0 50 rfl (by decide) fl_X12_75 rfl dX12_item_73 ?_
          refine lv_iload_n C.1 C.2.1 dX12_item_76 rfl (lv_at hl 1 rfl) ?_
          refine k_iald (v := 1) C Wd 1 1 rfl rfl (vp_in_iff.mpr (by decide)) rfl dX12_item_77 ?_
          exact k_zret C hr hlk rfl Wd () (Or.inr (Or.inr (Or.inr (Or.inr (Or.inr (Or.inr (Or.inr (Or.inl (⟨c4873, c4874, c4880, c4881, c4897, c4898, c4903, c4904, rfl, rfl⟩))))))))) [] rfl (by decide) [] rfl (by decide) (by decide) dX12_item_78
        by_cases c4906 : x0 = (3 : Int32)
        · subst c4906
          refine k_iast C Wd 2 0 [(h0, .inr (12, [.ref h1, .ref h2, .ref h3, .ref h4, .int 0, .int 0, .ref h5, .int 0, .int 0, .int 0, .int 0, .int 0, .int 0, .int 0, .int 0, .int 0, .int 0, .int 0, .int 0, .int 0, .int (-1), .int 0, .int 0, .int 0, .ref h6, .ref h7, .ref h8, .ref h9, .ref h10, .ref h11, .int 0, .int 0, .int 0, .int 0, .ref h12, .ref h13, .ref h14, .int 0, .int 0, .int 0, .int 0, .ref h15, .ref h16, .int 0, .ref h17, .ref h18, .int 0, .ref h19, .int 0, .ref h20, .ref h21, .ref h22, .int 0, .ref h23, .ref h24, .ref h25])), (h21, .inl (a20, 6, .inl (fun _ => 0))), (h20, .inl (a19, 48, .inl (upd (fun _ => 0) 24 x1)))] rfl rfl (vp_in_iff.mpr (by decide)) rfl rfl dX12_item_61 (fun H locs Wd => ?_)
          refine lv_aload_n C.1 C.2.1 dX12_item_62 rfl (lv_at hl 0 rfl) ?_
          refine k_get C Wd KX12 0 50 rfl (by decide) fl_X12_75 rfl dX12_item_63 ?_
          refine lv_iload_n C.1 C.2.1 dX12_item_66 rfl (lv_at hl 1 rfl) ?_
          refine lv_dup2_11 C.1 C.2.1 dX12_item_67 rfl rfl ?_
          refine k_iald (v := 0) C Wd 1 1 rfl rfl (vp_in_iff.mpr (by decide)) rfl dX12_item_68 ?_
          refine lv_iconst (v := 1) C.1 C.2.1 dX12_item_69 (by decide) ?_
          refine k_iadd (v := 1) C (by decide) dX12_item_70 ?_
          refine k_iast C Wd 1 1 [(h0, .inr (12, [.ref h1, .ref h2, .ref h3, .ref h4, .int 0, .int 0, .ref h5, .int 0, .int 0, .int 0, .int 0, .int 0, .int 0, .int 0, .int 0, .int 0, .int 0, .int 0, .int 0, .int 0, .int (-1), .int 0, .int 0, .int 0, .ref h6, .ref h7, .ref h8, .ref h9, .ref h10, .ref h11, .int 0, .int 0, .int 0, .int 0, .ref h12, .ref h13, .ref h14, .int 0, .int 0, .int 0, .int 0, .ref h15, .ref h16, .int 0, .ref h17, .ref h18, .int 0, .ref h19, .int 0, .ref h20, .ref h21, .ref h22, .int 0, .ref h23, .ref h24, .ref h25])), (h21, .inl (a20, 6, .inl (upd (fun _ => 0) 3 1))), (h20, .inl (a19, 48, .inl (upd (fun _ => 0) 24 x1)))] rfl rfl (vp_in_iff.mpr (by decide)) rfl rfl dX12_item_71 (fun H locs Wd => ?_)
          refine lv_aload_n C.1 C.2.1 dX12_item_72 rfl (lv_at hl 0 rfl) ?_
          refine k_get C Wd KX12 0 50 rfl (by decide) fl_X12_75 rfl dX12_item_73 ?_
          refine lv_iload_n C.1 C.2.1 dX12_item_76 rfl (lv_at hl 1 rfl) ?_
          refine k_iald (v := 1) C Wd 1 1 rfl rfl (vp_in_iff.mpr (by decide)) rfl dX12_item_77 ?_
          exact k_zret C hr hlk rfl Wd () (Or.inr (Or.inr (Or.inr (Or.inr (Or.inr (Or.inr (Or.inr (Or.inr (Or.inl (⟨c4873, c4874, c4880, c4881, c4897, c4898, c4903, c4904, c4905, rfl, rfl⟩)))))))))) [] rfl (by decide) [] rfl (by decide) (by decide) dX12_item_78
        by_cases c4907 : x0 = (4 : Int32)
        · subst c4907
          refine k_iast C Wd 2 0 [(h0, .inr (12, [.ref h1, .ref h2, .ref h3, .ref h4, .int 0, .int 0, .ref h5, .int 0, .int 0, .int 0, .int 0, .int 0, .int 0, .int 0, .int 0, .int 0, .int 0, .int 0, .int 0, .int 0, .int (-1), .int 0, .int 0, .int 0, .ref h6, .ref h7, .ref h8, .ref h9, .ref h10, .ref h11, .int 0, .int 0, .int 0, .int 0, .ref h12, .ref h13, .ref h14, .int 0, .int 0, .int 0, .int 0, .ref h15, .ref h16, .int 0, .ref h17, .ref h18, .int 0, .ref h19, .int 0, .ref h20, .ref h21, .ref h22, .int 0, .ref h23, .ref h24, .ref h25])), (h21, .inl (a20, 6, .inl (fun _ => 0))), (h20, .inl (a19, 48, .inl (upd (fun _ => 0) 32 x1)))] rfl rfl (vp_in_iff.mpr (by decide)) rfl rfl dX12_item_61 (fun H locs Wd => ?_)
          refine lv_aload_n C.1 C.2.1 dX12_item_62 rfl (lv_at hl 0 rfl) ?_
          refine k_get C Wd KX12 0 50 rfl (by decide) fl_X12_75 rfl dX12_item_63 ?_
          refine lv_iload_n C.1 C.2.1 dX12_item_66 rfl (lv_at hl 1 rfl) ?_
          refine lv_dup2_11 C.1 C.2.1 dX12_item_67 rfl rfl ?_
          refine k_iald (v := 0) C Wd 1 1 rfl rfl (vp_in_iff.mpr (by decide)) rfl dX12_item_68 ?_
          refine lv_iconst (v := 1) C.1 C.2.1 dX12_item_69 (by decide) ?_
          refine k_iadd (v := 1) C (by decide) dX12_item_70 ?_
          refine k_iast C Wd 1 1 [(h0, .inr (12, [.ref h1, .ref h2, .ref h3, .ref h4, .int 0, .int 0, .ref h5, .int 0, .int 0, .int 0, .int 0, .int 0, .int 0, .int 0, .int 0, .int 0, .int 0, .int 0, .int 0, .int 0, .int (-1), .int 0, .int 0, .int 0, .ref h6, .ref h7, .ref h8, .ref h9, .ref h10, .ref h11, .int 0, .int 0, .int 0, .int 0, .ref h12, .ref h13, .ref h14, .int 0, .int 0, .int 0, .int 0, .ref h15, .ref h16, .int 0, .ref h17, .ref h18, .int 0, .ref h19, .int 0, .ref h20, .ref h21, .ref h22, .int 0, .ref h23, .ref h24, .ref h25])), (h21, .inl (a20, 6, .inl (upd (fun _ => 0) 4 1))), (h20, .inl (a19, 48, .inl (upd (fun _ => 0) 32 x1)))] rfl rfl (vp_in_iff.mpr (by decide)) rfl rfl dX12_item_71 (fun H locs Wd => ?_)
          refine lv_aload_n C.1 C.2.1 dX12_item_72 rfl (lv_at hl 0 rfl) ?_
          refine k_get C Wd KX12 0 50 rfl (by decide) fl_X12_75 rfl dX12_item_73 ?_
          refine lv_iload_n C.1 C.2.1 dX12_item_76 rfl (lv_at hl 1 rfl) ?_
          refine k_iald (v := 1) C Wd 1 1 rfl rfl (vp_in_iff.mpr (by decide)) rfl dX12_item_77 ?_
          exact k_zret C hr hlk rfl Wd () (Or.inr (Or.inr (Or.inr (Or.inr (Or.inr (Or.inr (Or.inr (Or.inr (Or.inr (Or.inl (⟨c4873, c4874, c4880, c4881, c4897, c4898, c4903, c4904, c4905, c4906, rfl, rfl⟩))))))))))) [] rfl (by decide) [] rfl (by decide) (by decide) dX12_item_78
        have c4908 : x0 = (5 : Int32) := kz_inj (by have z0 := kz_nlt c4873; have z1 := kz_nlt c4874; have z2 := kz_ne c4903; have z3 := kz_ne c4904; have z4 := kz_ne c4905; have z5 := kz_ne c4906; have z6 := kz_ne c4907; have t0 : (0 : Int32).toInt = 0 := (by decide); have t5 : (5 : Int32).toInt = 5 := (by decide); have t1 : (1 : Int32).toInt = 1 := (by decide); have t2 : (2 : Int32).toInt = 2 := (by decide); have t3 : (3 : Int32).toInt = 3 := (by decide); have t4 : (4 : Int32).toInt = 4 := (by decide); omega)
        subst c4908
        refine k_iast C Wd 2 0 [(h0, .inr (12, [.ref h1, .ref h2, .ref h3, .ref h4, .int 0, .int 0, .ref h5, .int 0, .int 0, .int 0, .int 0, .int 0, .int 0, .int 0, .int 0, .int 0, .int 0, .int 0, .int 0, .int 0, .int (-1), .int 0, .int 0, .int 0, .ref h6, .ref h7, .ref h8, .ref h9, .ref h10, .ref h11, .int 0, .int 0, .int 0, .int 0, .ref h12, .ref h13, .ref h14, .int 0, .int 0, .int 0, .int 0, .ref h15, .ref h16, .int 0, .ref h17, .ref h18, .int 0, .ref h19, .int 0, .ref h20, .ref h21, .ref h22, .int 0, .ref h23, .ref h24, .ref h25])), (h21, .inl (a20, 6, .inl (fun _ => 0))), (h20, .inl (a19, 48, .inl (upd (fun _ => 0) 40 x1)))] rfl rfl (vp_in_iff.mpr (by decide)) rfl rfl dX12_item_61 (fun H locs Wd => ?_)
        refine lv_aload_n C.1 C.2.1 dX12_item_62 rfl (lv_at hl 0 rfl) ?_
        refine k_get C Wd KX12 0 50 rfl (by decide) fl_X12_75 rfl dX12_item_63 ?_
        refine lv_iload_n C.1 C.2.1 dX12_item_66 rfl (lv_at hl 1 rfl) ?_
        refine lv_dup2_11 C.1 C.2.1 dX12_item_67 rfl rfl ?_
        refine k_iald (v := 0) C Wd 1 1 rfl rfl (vp_in_iff.mpr (by decide)) rfl dX12_item_68 ?_
        refine lv_iconst (v := 1) C.1 C.2.1 dX12_item_69 (by decide) ?_
        refine k_iadd (v := 1) C (by decide) dX12_item_70 ?_
        refine k_iast C Wd 1 1 [(h0, .inr (12, [.ref h1, .ref h2, .ref h3, .ref h4, .int 0, .int 0, .ref h5, .int 0, .int 0, .int 0, .int 0, .int 0, .int 0, .int 0, .int 0, .int 0, .int 0, .int 0, .int 0, .int 0, .int (-1), .int 0, .int 0, .int 0, .ref h6, .ref h7, .ref h8, .ref h9, .ref h10, .ref h11, .int 0, .int 0, .int 0, .int 0, .ref h12, .ref h13, .ref h14, .int 0, .int 0, .int 0, .int 0, .ref h15, .ref h16, .int 0, .ref h17, .ref h18, .int 0, .ref h19, .int 0, .ref h20, .ref h21, .ref h22, .int 0, .ref h23, .ref h24, .ref h25])), (h21, .inl (a20, 6, .inl (upd (fun _ => 0) 5 1))), (h20, .inl (a19, 48, .inl (upd (fun _ => 0) 40 x1)))] rfl rfl (vp_in_iff.mpr (by decide)) rfl rfl dX12_item_71 (fun H locs Wd => ?_)
        refine lv_aload_n C.1 C.2.1 dX12_item_72 rfl (lv_at hl 0 rfl) ?_
        refine k_get C Wd KX12 0 50 rfl (by decide) fl_X12_75 rfl dX12_item_73 ?_
        refine lv_iload_n C.1 C.2.1 dX12_item_76 rfl (lv_at hl 1 rfl) ?_
        refine k_iald (v := 1) C Wd 1 1 rfl rfl (vp_in_iff.mpr (by decide)) rfl dX12_item_77 ?_
        exact k_zret C hr hlk rfl Wd () (Or.inr (Or.inr (Or.inr (Or.inr (Or.inr (Or.inr (Or.inr (Or.inr (Or.inr (Or.inr (⟨c4873, c4874, c4880, c4881, c4897, c4898, c4903, c4904, c4905, c4906, c4907, rfl, rfl⟩))))))))))) [] rfl (by decide) [] rfl (by decide) (by decide) dX12_item_78
    · exact False.elim (by have z0 := kz_nlt c4882; have z1 := kz_nlt c4883; have t0 : (0 : Int32).toInt = 0 := (by decide); have tm1 : (-1 : Int32).toInt = -1 := (by decide); omega)
set_option maxHeartbeats 4000000 in
set_option maxRecDepth 100000 in
theorem kcX12_clear (l : Launch) (D : va_G) (h0 h1 h2 h3 h4 h5 h6 h7 h8 h9 h10 h11 h12 h13 h14 h15 h16 h17 h18 h19 h20 h21 h22 h23 h24 h25 : Nat) (x0 : Int32) (a20 : ClassId) (sz : Nat)  : Met l yX12_clear (Cond.code yX12_clear cX12_clear 2 (some .boolean) :: gG) { frames := 3, cells := 0, slots := 0, locals := 106 } (cPre D [(a20, .int)] [(h0, .inr (12, [.ref h1, .ref h2, .ref h3, .ref h4, .int 0, .int 0, .ref h5, .int 0, .int 0, .int 0, .int 0, .int 0, .int 0, .int 0, .int 0, .int 0, .int 0, .int 0, .int 0, .int 0, .int (-1), .int 0, .int 0, .int 0, .ref h6, .ref h7, .ref h8, .ref h9, .ref h10, .ref h11, .int 0, .int 0, .int 0, .int 0, .ref h12, .ref h13, .ref h14, .int 0, .int 0, .int 0, .int 0, .ref h15, .ref h16, .int 0, .ref h17, .ref h18, .int 0, .ref h19, .int 0, .ref h20, .ref h21, .ref h22, .int 0, .ref h23, .ref h24, .ref h25])), (h21, .inl (a20, 6, .inl (fun _ => 0)))] sz [.ref h0, .int x0]) (va_Qi (fun (r : Int32) (_ : Unit) => (x0 < (0 : Int32) ∧ r = 0) ∨ (¬ x0 < (0 : Int32) ∧ (5 : Int32) < x0 ∧ r = 0) ∨ (¬ x0 < (0 : Int32) ∧ ¬ (5 : Int32) < x0 ∧ r = 1)) (fun u t => cB D (va_A [(h0, .inr (12, [.ref h1, .ref h2, .ref h3, .ref h4, .int 0, .int 0, .ref h5, .int 0, .int 0, .int 0, .int 0, .int 0, .int 0, .int 0, .int 0, .int 0, .int 0, .int 0, .int 0, .int 0, .int (-1), .int 0, .int 0, .int 0, .ref h6, .ref h7, .ref h8, .ref h9, .ref h10, .ref h11, .int 0, .int 0, .int 0, .int 0, .ref h12, .ref h13, .ref h14, .int 0, .int 0, .int 0, .int 0, .ref h15, .ref h16, .int 0, .ref h17, .ref h18, .int 0, .ref h19, .int 0, .ref h20, .ref h21, .ref h22, .int 0, .ref h23, .ref h24, .ref h25])), (h21, .inl (a20, 6, .inl (fun _ => 0)))] sz) ((fun (_ : Unit) => ([] : List (ClassId × FieldType))) u) ((fun (_ : Unit) => ([] : va_W)) u) t) (va_A [(h0, .inr (12, [.ref h1, .ref h2, .ref h3, .ref h4, .int 0, .int 0, .ref h5, .int 0, .int 0, .int 0, .int 0, .int 0, .int 0, .int 0, .int 0, .int 0, .int 0, .int 0, .int 0, .int 0, .int (-1), .int 0, .int 0, .int 0, .ref h6, .ref h7, .ref h8, .ref h9, .ref h10, .ref h11, .int 0, .int 0, .int 0, .int 0, .ref h12, .ref h13, .ref h14, .int 0, .int 0, .int 0, .int 0, .ref h15, .ref h16, .int 0, .ref h17, .ref h18, .int 0, .ref h19, .int 0, .ref h20, .ref h21, .ref h22, .int 0, .ref h23, .ref h24, .ref h25])), (h21, .inl (a20, 6, .inl (fun _ => 0)))] sz)) 0 0 (va_A [(h0, .inr (12, [.ref h1, .ref h2, .ref h3, .ref h4, .int 0, .int 0, .ref h5, .int 0, .int 0, .int 0, .int 0, .int 0, .int 0, .int 0, .int 0, .int 0, .int 0, .int 0, .int 0, .int 0, .int (-1), .int 0, .int 0, .int 0, .ref h6, .ref h7, .ref h8, .ref h9, .ref h10, .ref h11, .int 0, .int 0, .int 0, .int 0, .ref h12, .ref h13, .ref h14, .int 0, .int 0, .int 0, .int 0, .ref h15, .ref h16, .int 0, .ref h17, .ref h18, .int 0, .ref h19, .int 0, .ref h20, .ref h21, .ref h22, .int 0, .ref h23, .ref h24, .ref h25])), (h21, .inl (a20, 6, .inl (fun _ => 0)))] sz) := by
  refine Met.ofW (cc := cX12_clear) (maxL := 2) (ret := (some .boolean)) (by decide) rfl ?_
  intro p e s m args below meth c s₁ B hml hv
  obtain ⟨rfl, aks, rfl, Wd⟩ := k_enter hv
  have C : CallFix p m c cX12_clear 2 s _ gG RX12 := ⟨B.exec, B.bytes, hml, findClass_of_methodNamed B.named, fun w h => atoms_spec (ws := Cond.code yX12_clear cX12_clear 2 (some .boolean) :: gG) B.pre w (List.mem_cons_of_mem _ h)⟩
  have hr := B.returns
  have hlk := B.notSynchronized
  generalize va_A [(h0, .inr (12, [.ref h1, .ref h2, .ref h3, .ref h4, .int 0, .int 0, .ref h5, .int 0, .int 0, .int 0, .int 0, .int 0, .int 0, .int 0, .int 0, .int 0, .int 0, .int 0, .int 0, .int 0, .int (-1), .int 0, .int 0, .int 0, .ref h6, .ref h7, .ref h8, .ref h9, .ref h10, .ref h11, .int 0, .int 0, .int 0, .int 0, .ref h12, .ref h13, .ref h14, .int 0, .int 0, .int 0, .int 0, .ref h15, .ref h16, .int 0, .ref h17, .ref h18, .int 0, .ref h19, .int 0, .ref h20, .ref h21, .ref h22, .int 0, .ref h23, .ref h24, .ref h25])), (h21, .inl (a20, 6, .inl (fun _ => 0)))] s.heap.size = A at Wd ⊢
  refine k_locals (Nat.le_of_ble_eq_true rfl) [(0, .ref h0), (1, .int x0)] rfl (fun ls hl => ?_)
  refine lv_iload_n C.1 C.2.1 dX12_clear_0 rfl (lv_at hl 1 rfl) ?_
  refine k_pi (k_runS (rest := []) C aks Wd cs_X12_423 (kcX12_isPass l D x0 _ ) [] rfl (by decide) [] rfl rfl rfl ⟨(Nat.le_of_ble_eq_true rfl), (Nat.le_of_ble_eq_true rfl)⟩ hl.1 rfl rfl (Nat.le_of_ble_eq_true rfl) ⟨(Nat.le_of_ble_eq_true rfl), (Nat.le_of_ble_eq_true rfl)⟩ dX12_clear_1) (fun r w4918 => ?_)
  rcases w4918 with ⟨c4919, rfl⟩ | ⟨c4920, c4921, rfl⟩ | ⟨c4922, c4923, rfl⟩
  · refine lv_if_ne (tgt := 9) C.1 C.2.1 dX12_clear_4 (by decide) (fun c4924 => absurd c4924 (by decide)) (fun _ => ?_)
    refine lv_iconst (v := 0) C.1 C.2.1 dX12_clear_7 (by decide) ?_
    exact k_zret C hr hlk rfl Wd () (Or.inl (⟨c4919, rfl⟩)) [] rfl (by decide) [] rfl (by decide) (by decide) dX12_clear_8
  · refine lv_if_ne (tgt := 9) C.1 C.2.1 dX12_clear_4 (by decide) (fun c4925 => absurd c4925 (by decide)) (fun _ => ?_)
    refine lv_iconst (v := 0) C.1 C.2.1 dX12_clear_7 (by decide) ?_
    exact k_zret C hr hlk rfl Wd () (Or.inr (Or.inl (⟨c4920, c4921, rfl⟩))) [] rfl (by decide) [] rfl (by decide) (by decide) dX12_clear_8
  · refine lv_if_ne (tgt := 9) C.1 C.2.1 dX12_clear_4 (by decide) (fun _ => ?_) (fun c4926 => absurd c4926 (by decide))
    refine lv_aload_n C.1 C.2.1 dX12_clear_9 rfl (lv_at hl 0 rfl) ?_
    refine k_get C Wd KX12 0 50 rfl (by decide) fl_X12_75 rfl dX12_clear_10 ?_
    refine lv_iload_n C.1 C.2.1 dX12_clear_13 rfl (lv_at hl 1 rfl) ?_
    refine lv_iconst (v := 0) C.1 C.2.1 dX12_clear_14 (by decide) ?_
    refine k_iast C Wd 1 0 [(h0, .inr (12, [.ref h1, .ref h2, .ref h3, .ref h4, .int 0, .int 0, .ref h5, .int 0, .int 0, .int 0, .int 0, .int 0, .int 0, .int 0, .int 0, .int 0, .int 0, .int 0, .int 0, .int 0, .int (-1), .int 0, .int 0, .int 0, .ref h6, .ref h7, .ref h8, .ref h9, .ref h10, .ref h11, .int 0, .int 0, .int 0, .int 0, .ref h12, .ref h13, .ref h14, .int 0, .int 0, .int 0, .int 0, .ref h15, .ref h16, .int 0, .ref h17, .ref h18, .int 0, .ref h19, .int 0, .ref h20, .ref h21, .ref h22, .int 0, .ref h23, .ref h24, .ref h25])), (h21, .inl (a20, 6, .inl (fun _ => 0)))] rfl rfl (vp_in_iff.mpr ⟨by have z0 := kz_nlt c4922; have z1 := kz_nlt c4923; have t0 : (0 : Int32).toInt = 0 := (by decide); have t5 : (5 : Int32).toInt = 5 := (by decide); omega, by have z0 := kz_nlt c4922; have z1 := kz_nlt c4923; have t0 : (0 : Int32).toInt = 0 := (by decide); have t5 : (5 : Int32).toInt = 5 := (by decide); omega⟩) (upd0 _) rfl dX12_clear_15 (fun H locs Wd => ?_)
    refine lv_iconst (v := 1) C.1 C.2.1 dX12_clear_16 (by decide) ?_
    exact k_zret C hr hlk rfl Wd () (Or.inr (Or.inr (⟨c4922, c4923, rfl⟩))) [] rfl (by decide) [] rfl (by decide) (by decide) dX12_clear_17
set_option maxHeartbeats 4000000 in
set_option maxRecDepth 100000 in
theorem kcX12_makes (l : Launch) (D : va_G) (h0 h1 h2 h3 h4 h5 h6 h7 h8 h9 h10 h11 h12 h13 h14 h15 h16 h17 h18 h19 h20 h21 h22 h23 h24 h25 : Nat) (x0 : Int32) (a20 : ClassId) (sz : Nat)  (as0 : ¬ x0 < (0 : Int32)) (as1 : ¬ (5 : Int32) < x0): Met l yX12_makes (Cond.code yX12_makes cX12_makes 4 (some .boolean) :: gG) { frames := 1, cells := 0, slots := 0, locals := 64 } (cPre D [(a20, .int)] [(h0, .inr (12, [.ref h1, .ref h2, .ref h3, .ref h4, .int 0, .int 0, .ref h5, .int 0, .int 0, .int 0, .int 0, .int 0, .int 0, .int 0, .int 0, .int 0, .int 0, .int 0, .int 0, .int 0, .int (-1), .int 0, .int 0, .int 0, .ref h6, .ref h7, .ref h8, .ref h9, .ref h10, .ref h11, .int 0, .int 0, .int 0, .int 0, .ref h12, .ref h13, .ref h14, .int 0, .int 0, .int 0, .int 0, .ref h15, .ref h16, .int 0, .ref h17, .ref h18, .int 0, .ref h19, .int 0, .ref h20, .ref h21, .ref h22, .int 0, .ref h23, .ref h24, .ref h25])), (h21, .inl (a20, 6, .inl (fun _ => 0)))] sz [.ref h0, .int x0]) (vp_Si (fun r => r = 1)) 0 0 (fun _ => False) := by
  refine Met.ofW (cc := cX12_makes) (maxL := 4) (ret := (some .boolean)) (by decide) rfl ?_
  intro p e s m args below meth c s₁ B hml hv
  obtain ⟨rfl, aks, rfl, Wd⟩ := k_enter hv
  have C : CallFix p m c cX12_makes 4 s _ gG RX12 := ⟨B.exec, B.bytes, hml, findClass_of_methodNamed B.named, fun w h => atoms_spec (ws := Cond.code yX12_makes cX12_makes 4 (some .boolean) :: gG) B.pre w (List.mem_cons_of_mem _ h)⟩
  have hr := B.returns
  have hlk := B.notSynchronized
  obtain ⟨A, Wd⟩ : ∃ A, wX D [(a20, .int)] s [(h0, .inr (12, [.ref h1, .ref h2, .ref h3, .ref h4, .int 0, .int 0, .ref h5, .int 0, .int 0, .int 0, .int 0, .int 0, .int 0, .int 0, .int 0, .int 0, .int 0, .int 0, .int 0, .int 0, .int (-1), .int 0, .int 0, .int 0, .ref h6, .ref h7, .ref h8, .ref h9, .ref h10, .ref h11, .int 0, .int 0, .int 0, .int 0, .ref h12, .ref h13, .ref h14, .int 0, .int 0, .int 0, .int 0, .ref h15, .ref h16, .int 0, .ref h17, .ref h18, .int 0, .ref h19, .int 0, .ref h20, .ref h21, .ref h22, .int 0, .ref h23, .ref h24, .ref h25])), (h21, .inl (a20, 6, .inl (fun _ => 0)))] s.heap A s.heap [] := ⟨_, Wd⟩
  refine k_locals (Nat.le_of_ble_eq_true rfl) [(0, .ref h0), (1, .int x0)] rfl (fun ls hl => ?_)
  refine lv_iconst (v := 0) C.1 C.2.1 dX12_makes_0 (by decide) ?_
  refine lv_istore_n (lv' := [(2, .int 0), (0, .ref h0), (1, .int x0)]) C.1 C.2.1 dX12_makes_1 rfl hl (by decide) rfl (fun ls hl => ?_)
  refine lv_iload_n C.1 C.2.1 dX12_makes_2 rfl (lv_at hl 0 rfl) ?_
  refine lv_aload_n C.1 C.2.1 dX12_makes_3 rfl (lv_at hl 1 rfl) ?_
  refine k_get C Wd KX12 0 50 rfl (by decide) fl_X12_75 rfl dX12_makes_4 ?_
  refine lv_iload_n C.1 C.2.1 dX12_makes_7 rfl (lv_at hl 2 rfl) ?_
  refine k_iald (v := 0) C Wd 1 0 rfl rfl (vp_in_iff.mpr ⟨by have z0 := kz_nlt as0; have z1 := kz_nlt as1; have t0 : (0 : Int32).toInt = 0 := (by decide); have t5 : (5 : Int32).toInt = 5 := (by decide); omega, by have z0 := kz_nlt as0; have z1 := kz_nlt as1; have t0 : (0 : Int32).toInt = 0 := (by decide); have t5 : (5 : Int32).toInt = 5 := (by decide); omega⟩) rfl dX12_makes_8 ?_
  refine lv_icmp_ge (tgt := 127) C.1 C.2.1 dX12_makes_9 (by decide) (fun _ => ?_) (fun c4956 => absurd c4956 (by decide))
  refine lv_iconst (v := 1) C.1 C.2.1 dX12_makes_127 (by decide) ?_
  exact k_zretP C hr hlk rfl rfl dX12_makes_128
set_option maxHeartbeats 4000000 in
set_option maxRecDepth 100000 in
theorem kcX12_puts_v1 (l : Launch) (D : va_G) (h0 h1 h2 h3 h4 h5 h6 h7 h8 h9 h10 h11 h12 h13 h14 h15 h16 h17 h18 h19 h20 h21 h22 h23 h24 h25 : Nat) (x0 : Int32) (a1 : ClassId) (sz : Nat)  (as0 : ¬ x0 < (0 : Int32)) (as1 : ¬ (5 : Int32) < x0): Met l yX12_puts (Cond.code yX12_puts cX12_puts 3 none :: gG) { frames := 1, cells := 0, slots := 0, locals := 64 } (cPre D [(a1, .int)] [(h0, .inr (12, [.ref h1, .ref h2, .ref h3, .ref h4, .int 0, .int 0, .ref h5, .int 0, .int 0, .int 0, .int 0, .int 0, .int 0, .int 0, .int 0, .int 0, .int 0, .int 0, .int 0, .int 0, .int (-1), .int 0, .int 0, .int 0, .ref h6, .ref h7, .ref h8, .ref h9, .ref h10, .ref h11, .int 0, .int 0, .int 0, .int 0, .ref h12, .ref h13, .ref h14, .int 0, .int 0, .int 0, .int 0, .ref h15, .ref h16, .int 0, .ref h17, .ref h18, .int 0, .ref h19, .int 0, .ref h20, .ref h21, .ref h22, .int 0, .ref h23, .ref h24, .ref h25])), (h2, .inl (a1, 6, .inl (fun _ => 0)))] sz [.ref h0, .int x0]) (va_Qv (fun (_ : Unit) => True) (fun u t => cB D (va_A [(h0, .inr (12, [.ref h1, .ref h2, .ref h3, .ref h4, .int 0, .int 0, .ref h5, .int 0, .int 0, .int 0, .int 0, .int 0, .int 0, .int 0, .int 0, .int 0, .int 0, .int 0, .int 0, .int 0, .int (-1), .int 0, .int 0, .int 0, .ref h6, .ref h7, .ref h8, .ref h9, .ref h10, .ref h11, .int 0, .int 0, .int 0, .int 0, .ref h12, .ref h13, .ref h14, .int 0, .int 0, .int 0, .int 0, .ref h15, .ref h16, .int 0, .ref h17, .ref h18, .int 0, .ref h19, .int 0, .ref h20, .ref h21, .ref h22, .int 0, .ref h23, .ref h24, .ref h25])), (h2, .inl (a1, 6, .inl (fun _ => 0)))] sz) ((fun (_ : Unit) => ([] : List (ClassId × FieldType))) u) ((fun (_ : Unit) => ([(h0, .inr (12, [.ref h1, .ref h2, .ref h3, .ref h4, .int 0, .int 0, .ref h5, .int 0, .int 0, .int 0, .int 0, .int 0, .int 0, .int 0, .int 0, .int 0, .int 0, .int 0, .int 0, .int 0, .int (-1), .int 0, .int 0, .int 0, .ref h6, .ref h7, .ref h8, .ref h9, .ref h10, .ref h11, .int 0, .int 0, .int 0, .int 0, .ref h12, .ref h13, .ref h14, .int 0, .int 0, .int 0, .int 0, .ref h15, .ref h16, .int 0, .ref h17, .ref h18, .int 0, .ref h19, .int 0, .ref h20, .ref h21, .ref h22, .int 0, .ref h23, .ref h24, .ref h25])), (h2, .inl (a1, 6, .inl (fun _ => 0)))] : va_W)) u) t) (va_A [(h0, .inr (12, [.ref h1, .ref h2, .ref h3, .ref h4, .int 0, .int 0, .ref h5, .int 0, .int 0, .int 0, .int 0, .int 0, .int 0, .int 0, .int 0, .int 0, .int 0, .int 0, .int 0, .int 0, .int (-1), .int 0, .int 0, .int 0, .ref h6, .ref h7, .ref h8, .ref h9, .ref h10, .ref h11, .int 0, .int 0, .int 0, .int 0, .ref h12, .ref h13, .ref h14, .int 0, .int 0, .int 0, .int 0, .ref h15, .ref h16, .int 0, .ref h17, .ref h18, .int 0, .ref h19, .int 0, .ref h20, .ref h21, .ref h22, .int 0, .ref h23, .ref h24, .ref h25])), (h2, .inl (a1, 6, .inl (fun _ => 0)))] sz)) 0 0 (va_A [(h0, .inr (12, [.ref h1, .ref h2, .ref h3, .ref h4, .int 0, .int 0, .ref h5, .int 0, .int 0, .int 0, .int 0, .int 0, .int 0, .int 0, .int 0, .int 0, .int 0, .int 0, .int 0, .int 0, .int (-1), .int 0, .int 0, .int 0, .ref h6, .ref h7, .ref h8, .ref h9, .ref h10, .ref h11, .int 0, .int 0, .int 0, .int 0, .ref h12, .ref h13, .ref h14, .int 0, .int 0, .int 0, .int 0, .ref h15, .ref h16, .int 0, .ref h17, .ref h18, .int 0, .ref h19, .int 0, .ref h20, .ref h21, .ref h22, .int 0, .ref h23, .ref h24, .ref h25])), (h2, .inl (a1, 6, .inl (fun _ => 0)))] sz) := by
  refine Met.ofW (cc := cX12_puts) (maxL := 3) (ret := none) (by decide) rfl ?_
  intro p e s m args below meth c s₁ B hml hv
  obtain ⟨rfl, aks, rfl, Wd⟩ := k_enter hv
  have C : CallFix p m c cX12_puts 3 s _ gG RX12 := ⟨B.exec, B.bytes, hml, findClass_of_methodNamed B.named, fun w h => atoms_spec (ws := Cond.code yX12_puts cX12_puts 3 none :: gG) B.pre w (List.mem_cons_of_mem _ h)⟩
  have hr := B.returns
  have hlk := B.notSynchronized
  generalize va_A [(h0, .inr (12, [.ref h1, .ref h2, .ref h3, .ref h4, .int 0, .int 0, .ref h5, .int 0, .int 0, .int 0, .int 0, .int 0, .int 0, .int 0, .int 0, .int 0, .int 0, .int 0, .int 0, .int 0, .int (-1), .int 0, .int 0, .int 0, .ref h6, .ref h7, .ref h8, .ref h9, .ref h10, .ref h11, .int 0, .int 0, .int 0, .int 0, .ref h12, .ref h13, .ref h14, .int 0, .int 0, .int 0, .int 0, .ref h15, .ref h16, .int 0, .ref h17, .ref h18, .int 0, .ref h19, .int 0, .ref h20, .ref h21, .ref h22, .int 0, .ref h23, .ref h24, .ref h25])), (h2, .inl (a1, 6, .inl (fun _ => 0)))] s.heap.size = A at Wd ⊢
  refine k_locals (Nat.le_of_ble_eq_true rfl) [(0, .ref h0), (1, .int x0)] rfl (fun ls hl => ?_)
  refine lv_aload_n C.1 C.2.1 dX12_puts_0 rfl (lv_at hl 0 rfl) ?_
  refine k_get C Wd KX12 0 1 rfl (by decide) fl_X12_13 rfl dX12_puts_1 ?_
  refine lv_iload_n C.1 C.2.1 dX12_puts_4 rfl (lv_at hl 1 rfl) ?_
  refine lv_aload_n C.1 C.2.1 dX12_puts_5 rfl (lv_at hl 0 rfl) ?_
  refine k_get C Wd KX12 0 4 rfl (by decide) fl_X12_98 rfl dX12_puts_6 ?_
  refine k_iast C Wd 1 0 [(h0, .inr (12, [.ref h1, .ref h2, .ref h3, .ref h4, .int 0, .int 0, .ref h5, .int 0, .int 0, .int 0, .int 0, .int 0, .int 0, .int 0, .int 0, .int 0, .int 0, .int 0, .int 0, .int 0, .int (-1), .int 0, .int 0, .int 0, .ref h6, .ref h7, .ref h8, .ref h9, .ref h10, .ref h11, .int 0, .int 0, .int 0, .int 0, .ref h12, .ref h13, .ref h14, .int 0, .int 0, .int 0, .int 0, .ref h15, .ref h16, .int 0, .ref h17, .ref h18, .int 0, .ref h19, .int 0, .ref h20, .ref h21, .ref h22, .int 0, .ref h23, .ref h24, .ref h25])), (h2, .inl (a1, 6, .inl (fun _ => 0)))] rfl rfl (vp_in_iff.mpr ⟨by have z0 := kz_nlt as0; have z1 := kz_nlt as1; have t0 : (0 : Int32).toInt = 0 := (by decide); have t5 : (5 : Int32).toInt = 5 := (by decide); omega, by have z0 := kz_nlt as0; have z1 := kz_nlt as1; have t0 : (0 : Int32).toInt = 0 := (by decide); have t5 : (5 : Int32).toInt = 5 := (by decide); omega⟩) (upd0 _) rfl dX12_puts_9 (fun H locs Wd => ?_)
  refine lv_iconst (v := 0) C.1 C.2.1 dX12_puts_10 (by decide) ?_
  refine lv_istore_n (lv' := [(2, .int 0), (0, .ref h0), (1, .int x0)]) C.1 C.2.1 dX12_puts_11 rfl hl (by decide) rfl (fun ls hl => ?_)
  refine lv_iload_n C.1 C.2.1 dX12_puts_12 rfl (lv_at hl 0 rfl) ?_
  refine lv_aload_n C.1 C.2.1 dX12_puts_13 rfl (lv_at hl 1 rfl) ?_
  refine k_get C Wd KX12 0 4 rfl (by decide) fl_X12_98 rfl dX12_puts_14 ?_
  refine lv_icmp_ge (tgt := 44) C.1 C.2.1 dX12_puts_17 (by decide) (fun _ => ?_) (fun c4960 => absurd c4960 (by decide))
  exact k_vret C hr hlk Wd () trivial [0, 1] rfl (by decide) [] rfl (by decide) (by decide) dX12_puts_44
set_option maxHeartbeats 4000000 in
set_option maxRecDepth 100000 in
theorem kcX12_make (l : Launch) (D : va_G) (h0 h1 h2 h3 h4 h5 h6 h7 h8 h9 h10 h11 h12 h13 h14 h15 h16 h17 h18 h19 h20 h21 h22 h23 h24 h25 : Nat) (x0 x1 x2 : Int32) (a1 a20 : ClassId) (sz : Nat)  : Met l yX12_make (Cond.code yX12_make cX12_make 4 (some .int) :: gG) { frames := 3, cells := 0, slots := 0, locals := 106 } (cPre D [(a1, .int), (a20, .int)] [(h0, .inr (12, [.ref h1, .ref h2, .ref h3, .ref h4, .int 0, .int 0, .ref h5, .int 0, .int 0, .int 0, .int 0, .int 0, .int 0, .int 0, .int 0, .int 0, .int 0, .int 0, .int 0, .int 0, .int (-1), .int 0, .int 0, .int 0, .ref h6, .ref h7, .ref h8, .ref h9, .ref h10, .ref h11, .int 0, .int 0, .int 0, .int 0, .ref h12, .ref h13, .ref h14, .int 0, .int 0, .int 0, .int 0, .ref h15, .ref h16, .int 0, .ref h17, .ref h18, .int 0, .ref h19, .int 0, .ref h20, .ref h21, .ref h22, .int 0, .ref h23, .ref h24, .ref h25])), (h2, .inl (a1, 6, .inl (fun _ => 0))), (h21, .inl (a20, 6, .inl (fun _ => 0)))] sz [.ref h0, .int x0, .int x1, .int x2]) (va_Qi (fun (r : Int32) (_ : Unit) => (x0 < (0 : Int32) ∧ r = (-1)) ∨ (¬ x0 < (0 : Int32) ∧ (5 : Int32) < x0 ∧ r = (-1)) ∨ (¬ x0 < (0 : Int32) ∧ ¬ (5 : Int32) < x0 ∧ x1 < (0 : Int32) ∧ r = (-1)) ∨ (¬ x0 < (0 : Int32) ∧ ¬ (5 : Int32) < x0 ∧ ¬ x1 < (0 : Int32) ∧ (5 : Int32) < x1 ∧ r = (-1)) ∨ (¬ x0 < (0 : Int32) ∧ ¬ (5 : Int32) < x0 ∧ ¬ x1 < (0 : Int32) ∧ ¬ (5 : Int32) < x1 ∧ x2 < (0 : Int32) ∧ r = (-1)) ∨ (¬ x0 < (0 : Int32) ∧ ¬ (5 : Int32) < x0 ∧ ¬ x1 < (0 : Int32) ∧ ¬ (5 : Int32) < x1 ∧ ¬ x2 < (0 : Int32) ∧ (5 : Int32) < x2 ∧ r = (-1)) ∨ (¬ x0 < (0 : Int32) ∧ ¬ (5 : Int32) < x0 ∧ ¬ x1 < (0 : Int32) ∧ ¬ (5 : Int32) < x1 ∧ ¬ x2 < (0 : Int32) ∧ ¬ (5 : Int32) < x2 ∧ r = 0)) (fun u t => cB D (va_A [(h0, .inr (12, [.ref h1, .ref h2, .ref h3, .ref h4, .int 0, .int 0, .ref h5, .int 0, .int 0, .int 0, .int 0, .int 0, .int 0, .int 0, .int 0, .int 0, .int 0, .int 0, .int 0, .int 0, .int (-1), .int 0, .int 0, .int 0, .ref h6, .ref h7, .ref h8, .ref h9, .ref h10, .ref h11, .int 0, .int 0, .int 0, .int 0, .ref h12, .ref h13, .ref h14, .int 0, .int 0, .int 0, .int 0, .ref h15, .ref h16, .int 0, .ref h17, .ref h18, .int 0, .ref h19, .int 0, .ref h20, .ref h21, .ref h22, .int 0, .ref h23, .ref h24, .ref h25])), (h2, .inl (a1, 6, .inl (fun _ => 0))), (h21, .inl (a20, 6, .inl (fun _ => 0)))] sz) ((fun (_ : Unit) => ([] : List (ClassId × FieldType))) u) ((fun (_ : Unit) => ([] : va_W)) u) t) (va_A [(h0, .inr (12, [.ref h1, .ref h2, .ref h3, .ref h4, .int 0, .int 0, .ref h5, .int 0, .int 0, .int 0, .int 0, .int 0, .int 0, .int 0, .int 0, .int 0, .int 0, .int 0, .int 0, .int 0, .int (-1), .int 0, .int 0, .int 0, .ref h6, .ref h7, .ref h8, .ref h9, .ref h10, .ref h11, .int 0, .int 0, .int 0, .int 0, .ref h12, .ref h13, .ref h14, .int 0, .int 0, .int 0, .int 0, .ref h15, .ref h16, .int 0, .ref h17, .ref h18, .int 0, .ref h19, .int 0, .ref h20, .ref h21, .ref h22, .int 0, .ref h23, .ref h24, .ref h25])), (h2, .inl (a1, 6, .inl (fun _ => 0))), (h21, .inl (a20, 6, .inl (fun _ => 0)))] sz)) 0 0 (va_A [(h0, .inr (12, [.ref h1, .ref h2, .ref h3, .ref h4, .int 0, .int 0, .ref h5, .int 0, .int 0, .int 0, .int 0, .int 0, .int 0, .int 0, .int 0, .int 0, .int 0, .int 0, .int 0, .int 0, .int (-1), .int 0, .int 0, .int 0, .ref h6, .ref h7, .ref h8, .ref h9, .ref h10, .ref h11, .int 0, .int 0, .int 0, .int 0, .ref h12, .ref h13, .ref h14, .int 0, .int 0, .int 0, .int 0, .ref h15, .ref h16, .int 0, .ref h17, .ref h18, .int 0, .ref h19, .int 0, .ref h20, .ref h21, .ref h22, .int 0, .ref h23, .ref h24, .ref h25])), (h2, .inl (a1, 6, .inl (fun _ => 0))), (h21, .inl (a20, 6, .inl (fun _ => 0)))] sz) := by
  refine Met.ofW (cc := cX12_make) (maxL := 4) (ret := (some .int)) (by decide) rfl ?_
  intro p e s m args below meth c s₁ B hml hv
  obtain ⟨rfl, aks, rfl, Wd⟩ := k_enter hv
  have C : CallFix p m c cX12_make 4 s _ gG RX12 := ⟨B.exec, B.bytes, hml, findClass_of_methodNamed B.named, fun w h => atoms_spec (ws := Cond.code yX12_make cX12_make 4 (some .int) :: gG) B.pre w (List.mem_cons_of_mem _ h)⟩
  have hr := B.returns
  have hlk := B.notSynchronized
  generalize va_A [(h0, .inr (12, [.ref h1, .ref h2, .ref h3, .ref h4, .int 0, .int 0, .ref h5, .int 0, .int 0, .int 0, .int 0, .int 0, .int 0, .int 0, .int 0, .int 0, .int 0, .int 0, .int 0, .int 0, .int (-1), .int 0, .int 0, .int 0, .ref h6, .ref h7, .ref h8, .ref h9, .ref h10, .ref h11, .int 0, .int 0, .int 0, .int 0, .ref h12, .ref h13, .ref h14, .int 0, .int 0, .int 0, .int 0, .ref h15, .ref h16, .int 0, .ref h17, .ref h18, .int 0, .ref h19, .int 0, .ref h20, .ref h21, .ref h22, .int 0, .ref h23, .ref h24, .ref h25])), (h2, .inl (a1, 6, .inl (fun _ => 0))), (h21, .inl (a20, 6, .inl (fun _ => 0)))] s.heap.size = A at Wd ⊢
  refine k_locals (Nat.le_of_ble_eq_true rfl) [(0, .ref h0), (1, .int x0), (2, .int x1), (3, .int x2)] rfl (fun ls hl => ?_)
  refine lv_iload_n C.1 C.2.1 dX12_make_0 rfl (lv_at hl 1 rfl) ?_
  refine k_pi (k_runS (rest := []) C aks Wd cs_X12_423 (kcX12_isPass l D x0 _ ) [] rfl (by decide) [] rfl rfl rfl ⟨(Nat.le_of_ble_eq_true rfl), (Nat.le_of_ble_eq_true rfl)⟩ hl.1 rfl rfl (Nat.le_of_ble_eq_true rfl) ⟨(Nat.le_of_ble_eq_true rfl), (Nat.le_of_ble_eq_true rfl)⟩ dX12_make_1) (fun r w4963 => ?_)
  rcases w4963 with ⟨c4964, rfl⟩ | ⟨c4965, c4966, rfl⟩ | ⟨c4967, c4968, rfl⟩
  · refine lv_if_eq (tgt := 21) C.1 C.2.1 dX12_make_4 (by decide) (fun _ => ?_) (fun c4969 => absurd c4969 (by decide))
    refine lv_iconst (v := (-1)) C.1 C.2.1 dX12_make_21 (by decide) ?_
    exact k_zret C hr hlk rfl Wd () (Or.inl (⟨c4964, rfl⟩)) [] rfl (by decide) [] rfl (by decide) (by decide) dX12_make_22
  · refine lv_if_eq (tgt := 21) C.1 C.2.1 dX12_make_4 (by decide) (fun _ => ?_) (fun c4970 => absurd c4970 (by decide))
    refine lv_iconst (v := (-1)) C.1 C.2.1 dX12_make_21 (by decide) ?_
    exact k_zret C hr hlk rfl Wd () (Or.inr (Or.inl (⟨c4965, c4966, rfl⟩))) [] rfl (by decide) [] rfl (by decide) (by decide) dX12_make_22
  · refine lv_if_eq (tgt := 21) C.1 C.2.1 dX12_make_4 (by decide) (fun c4971 => absurd c4971 (by decide)) (fun _ => ?_)
    refine lv_iload_n C.1 C.2.1 dX12_make_7 rfl (lv_at hl 2 rfl) ?_
    refine k_pi (k_runS (rest := []) C aks Wd cs_X12_249 (kcX12_isSlot l D x1 _ ) [] rfl (by decide) [] rfl rfl rfl ⟨(Nat.le_of_ble_eq_true rfl), (Nat.le_of_ble_eq_true rfl)⟩ hl.1 rfl rfl (Nat.le_of_ble_eq_true rfl) ⟨(Nat.le_of_ble_eq_true rfl), (Nat.le_of_ble_eq_true rfl)⟩ dX12_make_8) (fun r w4972 => ?_)
    rcases w4972 with ⟨c4973, rfl⟩ | ⟨c4974, c4975, rfl⟩ | ⟨c4976, c4977, rfl⟩
    · refine lv_if_eq (tgt := 21) C.1 C.2.1 dX12_make_11 (by decide) (fun _ => ?_) (fun c4978 => absurd c4978 (by decide))
      refine lv_iconst (v := (-1)) C.1 C.2.1 dX12_make_21 (by decide) ?_
      exact k_zret C hr hlk rfl Wd () (Or.inr (Or.inr (Or.inl (⟨c4967, c4968, c4973, rfl⟩)))) [] rfl (by decide) [] rfl (by decide) (by decide) dX12_make_22
    · refine lv_if_eq (tgt := 21) C.1 C.2.1 dX12_make_11 (by decide) (fun _ => ?_) (fun c4979 => absurd c4979 (by decide))
      refine lv_iconst (v := (-1)) C.1 C.2.1 dX12_make_21 (by decide) ?_
      exact k_zret C hr hlk rfl Wd () (Or.inr (Or.inr (Or.inr (Or.inl (⟨c4967, c4968, c4974, c4975, rfl⟩))))) [] rfl (by decide) [] rfl (by decide) (by decide) dX12_make_22
    · refine lv_if_eq (tgt := 21) C.1 C.2.1 dX12_make_11 (by decide) (fun c4980 => absurd c4980 (by decide)) (fun _ => ?_)
      refine lv_iload_n C.1 C.2.1 dX12_make_14 rfl (lv_at hl 3 rfl) ?_
      refine k_pi (k_runS (rest := []) C aks Wd cs_X12_249 (kcX12_isSlot l D x2 _ ) [] rfl (by decide) [] rfl rfl rfl ⟨(Nat.le_of_ble_eq_true rfl), (Nat.le_of_ble_eq_true rfl)⟩ hl.1 rfl rfl (Nat.le_of_ble_eq_true rfl) ⟨(Nat.le_of_ble_eq_true rfl), (Nat.le_of_ble_eq_true rfl)⟩ dX12_make_15) (fun r w4981 => ?_)
      rcases w4981 with ⟨c4982, rfl⟩ | ⟨c4983, c4984, rfl⟩ | ⟨c4985, c4986, rfl⟩
      · refine lv_if_ne (tgt := 23) C.1 C.2.1 dX12_make_18 (by decide) (fun c4987 => absurd c4987 (by decide)) (fun _ => ?_)
        refine lv_iconst (v := (-1)) C.1 C.2.1 dX12_make_21 (by decide) ?_
        exact k_zret C hr hlk rfl Wd () (Or.inr (Or.inr (Or.inr (Or.inr (Or.inl (⟨c4967, c4968, c4976, c4977, c4982, rfl⟩)))))) [] rfl (by decide) [] rfl (by decide) (by decide) dX12_make_22
      · refine lv_if_ne (tgt := 23) C.1 C.2.1 dX12_make_18 (by decide) (fun c4988 => absurd c4988 (by decide)) (fun _ => ?_)
        refine lv_iconst (v := (-1)) C.1 C.2.1 dX12_make_21 (by decide) ?_
        exact k_zret C hr hlk rfl Wd () (Or.inr (Or.inr (Or.inr (Or.inr (Or.inr (Or.inl (⟨c4967, c4968, c4976, c4977, c4983, c4984, rfl⟩))))))) [] rfl (by decide) [] rfl (by decide) (by decide) dX12_make_22
      · refine lv_if_ne (tgt := 23) C.1 C.2.1 dX12_make_18 (by decide) (fun _ => ?_) (fun c4989 => absurd c4989 (by decide))
        refine lv_aload_n C.1 C.2.1 dX12_make_23 rfl (lv_at hl 0 rfl) ?_
        refine lv_iload_n C.1 C.2.1 dX12_make_24 rfl (lv_at hl 2 rfl) ?_
        refine k_cv Wd [0, 1] [2] rfl (wr := [(h21, .inl (a20, 6, .inl (fun _ => 0)))]) rfl (by decide) (by decide) (cells' := 0) (slots' := 0) (by decide) (by decide) (k_runV (rest := []) C aks Wd cs_X12_271 (kcX12_takes l D h0 h1 h2 h3 h4 h5 h6 h7 h8 h9 h10 h11 h12 h13 h14 h15 h16 h17 h18 h19 h20 h21 h22 h23 h24 h25 x1 a1 _ c4976 c4977) [0, 1] rfl (by decide) [0] rfl 0 12 rfl rfl rfl rfl rfl ⟨(Nat.le_of_ble_eq_true rfl), (Nat.le_of_ble_eq_true rfl)⟩ hl.1 rfl rfl (Nat.le_of_ble_eq_true rfl) ⟨(Nat.le_of_ble_eq_true rfl), (Nat.le_of_ble_eq_true rfl)⟩ dX12_make_25) (fun _ H locs w4990 Wd => ?_)
        have Wd : wX D [(a1, .int), (a20, .int)] s [(h21, .inl (a20, 6, .inl (fun _ => 0))), (h0, .inr (12, [.ref h1, .ref h2, .ref h3, .ref h4, .int 0, .int 0, .ref h5, .int 0, .int 0, .int 0, .int 0, .int 0, .int 0, .int 0, .int 0, .int 0, .int 0, .int 0, .int 0, .int 0, .int (-1), .int 0, .int 0, .int 0, .ref h6, .ref h7, .ref h8, .ref h9, .ref h10, .ref h11, .int 0, .int 0, .int 0, .int 0, .ref h12, .ref h13, .ref h14, .int 0, .int 0, .int 0, .int 0, .ref h15, .ref h16, .int 0, .ref h17, .ref h18, .int 0, .ref h19, .int 0, .ref h20, .ref h21, .ref h22, .int 0, .ref h23, .ref h24, .ref h25])), (h2, .inl (a1, 6, .inl (fun _ => 0)))] _ A s.heap _ := Wd
        refine lv_aload_n C.1 C.2.1 dX12_make_28 rfl (lv_at hl 0 rfl) ?_
        refine lv_iload_n C.1 C.2.1 dX12_make_29 rfl (lv_at hl 1 rfl) ?_
        refine k_pi (k_runV (rest := []) C aks Wd cs_X12_439 (kcX12_makes l D h0 h1 h2 h3 h4 h5 h6 h7 h8 h9 h10 h11 h12 h13 h14 h15 h16 h17 h18 h19 h20 h21 h22 h23 h24 h25 x0 a20 _ c4967 c4968) [1, 0] rfl (by decide) [1] rfl 1 12 rfl rfl rfl rfl rfl ⟨(Nat.le_of_ble_eq_true rfl), (Nat.le_of_ble_eq_true rfl)⟩ hl.1 rfl rfl (Nat.le_of_ble_eq_true rfl) ⟨(Nat.le_of_ble_eq_true rfl), (Nat.le_of_ble_eq_true rfl)⟩ dX12_make_30) (fun r w4991 => ?_)
        obtain rfl := w4991
        refine lv_if_ne (tgt := 38) C.1 C.2.1 dX12_make_33 (by decide) (fun _ => ?_) (fun c4992 => absurd c4992 (by decide))
        refine lv_aload_n C.1 C.2.1 dX12_make_38 rfl (lv_at hl 0 rfl) ?_
        refine lv_iload_n C.1 C.2.1 dX12_make_39 rfl (lv_at hl 3 rfl) ?_
        refine k_cv Wd [1, 2] [0] rfl (wr := [(h21, .inl (a20, 6, .inl (fun _ => 0)))]) rfl (by decide) (by decide) (cells' := 0) (slots' := 0) (by decide) (by decide) (k_runV (rest := []) C aks Wd cs_X12_262 (kcX12_puts_v1 l D h0 h1 h2 h3 h4 h5 h6 h7 h8 h9 h10 h11 h12 h13 h14 h15 h16 h17 h18 h19 h20 h21 h22 h23 h24 h25 x2 a1 _ c4985 c4986) [1, 2] rfl (by decide) [0] rfl 1 12 rfl rfl rfl rfl rfl ⟨(Nat.le_of_ble_eq_true rfl), (Nat.le_of_ble_eq_true rfl)⟩ hl.1 rfl rfl (Nat.le_of_ble_eq_true rfl) ⟨(Nat.le_of_ble_eq_true rfl), (Nat.le_of_ble_eq_true rfl)⟩ dX12_make_40) (fun _ H locs w4993 Wd => ?_)
        have Wd : wX D [(a1, .int), (a20, .int)] s [(h21, .inl (a20, 6, .inl (fun _ => 0))), (h0, .inr (12, [.ref h1, .ref h2, .ref h3, .ref h4, .int 0, .int 0, .ref h5, .int 0, .int 0, .int 0, .int 0, .int 0, .int 0, .int 0, .int 0, .int 0, .int 0, .int 0, .int 0, .int 0, .int (-1), .int 0, .int 0, .int 0, .ref h6, .ref h7, .ref h8, .ref h9, .ref h10, .ref h11, .int 0, .int 0, .int 0, .int 0, .ref h12, .ref h13, .ref h14, .int 0, .int 0, .int 0, .int 0, .ref h15, .ref h16, .int 0, .ref h17, .ref h18, .int 0, .ref h19, .int 0, .ref h20, .ref h21, .ref h22, .int 0, .ref h23, .ref h24, .ref h25])), (h2, .inl (a1, 6, .inl (fun _ => 0)))] _ A s.heap _ := Wd
        refine lv_aload_n C.1 C.2.1 dX12_make_43 rfl (lv_at hl 0 rfl) ?_
        refine k_pi (k_runV (rest := []) C aks Wd cs_X12_265 (kcX12_statements_v1 l D h0 h1 h2 h3 h4 h5 h6 h7 h8 h9 h10 h11 h12 h13 h14 h15 h16 h17 h18 h19 h20 h21 h22 h23 h24 h25 _ ) [1] rfl (by decide) [] rfl 1 12 rfl rfl rfl rfl rfl ⟨(Nat.le_of_ble_eq_true rfl), (Nat.le_of_ble_eq_true rfl)⟩ hl.1 rfl rfl (Nat.le_of_ble_eq_true rfl) ⟨(Nat.le_of_ble_eq_true rfl), (Nat.le_of_ble_eq_true rfl)⟩ dX12_make_44) (fun r w4994 => ?_)
        obtain rfl := w4994
        exact k_zret C hr hlk rfl Wd () (Or.inr (Or.inr (Or.inr (Or.inr (Or.inr (Or.inr (⟨c4967, c4968, c4976, c4977, c4985, c4986, rfl⟩))))))) [] rfl (by decide) [] rfl (by decide) (by decide) dX12_make_47
