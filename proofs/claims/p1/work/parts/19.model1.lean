set_option maxHeartbeats 4000000 in
set_option maxRecDepth 100000 in
theorem kcX12_takes (l : Launch) (D : va_G) (h0 h1 h2 h3 h4 h5 h6 h7 h8 h9 h10 h11 h12 h13 h14 h15 h16 h17 h18 h19 h20 h21 h22 h23 h24 h25 : Nat) (x0 : Int32) (a1 : ClassId) (sz : Nat)  (as0 : ¬ x0 < (0 : Int32)) (as1 : ¬ (5 : Int32) < x0): Met l yX12_takes (Cond.code yX12_takes cX12_takes 3 none :: gG) { frames := 1, cells := 0, slots := 0, locals := 64 } (cPre D [(a1, .int)] [(h0, .inr (12, [.ref h1, .ref h2, .ref h3, .ref h4, .int 0, .int 0, .ref h5, .int 0, .int 0, .int 0, .int 0, .int 0, .int 0, .int 0, .int 0, .int 0, .int 0, .int 0, .int 0, .int 0, .int (-1), .int 0, .int 0, .int 0, .ref h6, .ref h7, .ref h8, .ref h9, .ref h10, .ref h11, .int 0, .int 0, .int 0, .int 0, .ref h12, .ref h13, .ref h14, .int 0, .int 0, .int 0, .int 0, .ref h15, .ref h16, .int 0, .ref h17, .ref h18, .int 0, .ref h19, .int 0, .ref h20, .ref h21, .ref h22, .int 0, .ref h23, .ref h24, .ref h25])), (h2, .inl (a1, 6, .inl (fun _ => 0)))] sz [.ref h0, .int x0]) (va_Qv (fun (_ : Unit) => True) (fun u t => cB D (va_A [(h0, .inr (12, [.ref h1, .ref h2, .ref h3, .ref h4, .int 0, .int 0, .ref h5, .int 0, .int 0, .int 0, .int 0, .int 0, .int 0, .int 0, .int 0, .int 0, .int 0, .int 0, .int 0, .int 0, .int (-1), .int 0, .int 0, .int 0, .ref h6, .ref h7, .ref h8, .ref h9, .ref h10, .ref h11, .int 0, .int 0, .int 0, .int 0, .ref h12, .ref h13, .ref h14, .int 0, .int 0, .int 0, .int 0, .ref h15, .ref h16, .int 0, .ref h17, .ref h18, .int 0, .ref h19, .int 0, .ref h20, .ref h21, .ref h22, .int 0, .ref h23, .ref h24, .ref h25])), (h2, .inl (a1, 6, .inl (fun _ => 0)))] sz) ((fun (_ : Unit) => ([] : List (ClassId × FieldType))) u) ((fun (_ : Unit) => ([(h0, .inr (12, [.ref h1, .ref h2, .ref h3, .ref h4, .int 0, .int 0, .ref h5, .int 0, .int 0, .int 0, .int 0, .int 0, .int 0, .int 0, .int 0, .int 0, .int 0, .int 0, .int 0, .int 0, .int (-1), .int 0, .int 0, .int 0, .ref h6, .ref h7, .ref h8, .ref h9, .ref h10, .ref h11, .int 0, .int 0, .int 0, .int 0, .ref h12, .ref h13, .ref h14, .int 0, .int 0, .int 0, .int 0, .ref h15, .ref h16, .int 0, .ref h17, .ref h18, .int 0, .ref h19, .int 0, .ref h20, .ref h21, .ref h22, .int 0, .ref h23, .ref h24, .ref h25])), (h2, .inl (a1, 6, .inl (fun _ => 0)))] : va_W)) u) t) (va_A [(h0, .inr (12, [.ref h1, .ref h2, .ref h3, .ref h4, .int 0, .int 0, .ref h5, .int 0, .int 0, .int 0, .int 0, .int 0, .int 0, .int 0, .int 0, .int 0, .int 0, .int 0, .int 0, .int 0, .int (-1), .int 0, .int 0, .int 0, .ref h6, .ref h7, .ref h8, .ref h9, .ref h10, .ref h11, .int 0, .int 0, .int 0, .int 0, .ref h12, .ref h13, .ref h14, .int 0, .int 0, .int 0, .int 0, .ref h15, .ref h16, .int 0, .ref h17, .ref h18, .int 0, .ref h19, .int 0, .ref h20, .ref h21, .ref h22, .int 0, .ref h23, .ref h24, .ref h25])), (h2, .inl (a1, 6, .inl (fun _ => 0)))] sz)) 0 0 (va_A [(h0, .inr (12, [.ref h1, .ref h2, .ref h3, .ref h4, .int 0, .int 0, .ref h5, .int 0, .int 0, .int 0, .int 0, .int 0, .int 0, .int 0, .int 0, .int 0, .int 0, .int 0, .int 0, .int 0, .int (-1), .int 0, .int 0, .int 0, .ref h6, .ref h7, .ref h8, .ref h9, .ref h10, .ref h11, .int 0, .int 0, .int 0, .int 0, .ref h12, .ref h13, .ref h14, .int 0, .int 0, .int 0, .int 0, .ref h15, .ref h16, .int 0, .ref h17, .ref h18, .int 0, .ref h19, .int 0, .ref h20, .ref h21, .ref h22, .int 0, .ref h23, .ref h24, .ref h25])), (h2, .inl (a1, 6, .inl (fun _ => 0)))] sz) := by
  refine Met.ofW (cc := cX12_takes) (maxL := 3) (ret := none) (by decide) rfl ?_
  intro p e s m args below meth c s₁ B hml hv
  obtain ⟨rfl, aks, rfl, Wd⟩ := k_enter hv
  have C : CallFix p m c cX12_takes 3 s _ gG RX12 := ⟨B.exec, B.bytes, hml, findClass_of_methodNamed B.named, fun w h => atoms_spec (ws := Cond.code yX12_takes cX12_takes 3 none :: gG) B.pre w (List.mem_cons_of_mem _ h)⟩
  have hr := B.returns
  have hlk := B.notSynchronized
  generalize va_A [(h0, .inr (12, [.ref h1, .ref h2, .ref h3, .ref h4, .int 0, .int 0, .ref h5, .int 0, .int 0, .int 0, .int 0, .int 0, .int 0, .int 0, .int 0, .int 0, .int 0, .int 0, .int 0, .int 0, .int (-1), .int 0, .int 0, .int 0, .ref h6, .ref h7, .ref h8, .ref h9, .ref h10, .ref h11, .int 0, .int 0, .int 0, .int 0, .ref h12, .ref h13, .ref h14, .int 0, .int 0, .int 0, .int 0, .ref h15, .ref h16, .int 0, .ref h17, .ref h18, .int 0, .ref h19, .int 0, .ref h20, .ref h21, .ref h22, .int 0, .ref h23, .ref h24, .ref h25])), (h2, .inl (a1, 6, .inl (fun _ => 0)))] s.heap.size = A at Wd ⊢
  refine k_locals (Nat.le_of_ble_eq_true rfl) [(0, .ref h0), (1, .int x0)] rfl (fun ls hl => ?_)
  refine lv_aload_n C.1 C.2.1 dX12_takes_0 rfl (lv_at hl 0 rfl) ?_
  refine lv_aload_n C.1 C.2.1 dX12_takes_1 rfl (lv_at hl 0 rfl) ?_
  refine k_get C Wd KX12 0 1 rfl (by decide) fl_X12_13 rfl dX12_takes_2 ?_
  refine lv_iload_n C.1 C.2.1 dX12_takes_5 rfl (lv_at hl 1 rfl) ?_
  refine k_iald (v := 0) C Wd 1 0 rfl rfl (vp_in_iff.mpr ⟨by have z0 := kz_nlt as0; have z1 := kz_nlt as1; have t0 : (0 : Int32).toInt = 0 := (by decide); have t5 : (5 : Int32).toInt = 5 := (by decide); omega, by have z0 := kz_nlt as0; have z1 := kz_nlt as1; have t0 : (0 : Int32).toInt = 0 := (by decide); have t5 : (5 : Int32).toInt = 5 := (by decide); omega⟩) rfl dX12_takes_6 ?_
  refine k_put C Wd KX12 0 4 [(h0, .inr (12, [.ref h1, .ref h2, .ref h3, .ref h4, .int 0, .int 0, .ref h5, .int 0, .int 0, .int 0, .int 0, .int 0, .int 0, .int 0, .int 0, .int 0, .int 0, .int 0, .int 0, .int 0, .int (-1), .int 0, .int 0, .int 0, .ref h6, .ref h7, .ref h8, .ref h9, .ref h10, .ref h11, .int 0, .int 0, .int 0, .int 0, .ref h12, .ref h13, .ref h14, .int 0, .int 0, .int 0, .int 0, .ref h15, .ref h16, .int 0, .ref h17, .ref h18, .int 0, .ref h19, .int 0, .ref h20, .ref h21, .ref h22, .int 0, .ref h23, .ref h24, .ref h25])), (h2, .inl (a1, 6, .inl (fun _ => 0)))] rfl (by decide) fl_X12_98 rfl rfl rfl (Nat.le_of_ble_eq_true rfl) rfl dX12_takes_7 (fun H locs Wd => ?_)
  refine lv_iconst (v := 0) C.1 C.2.1 dX12_takes_10 (by decide) ?_
  refine lv_istore_n (lv' := [(2, .int 0), (0, .ref h0), (1, .int x0)]) C.1 C.2.1 dX12_takes_11 rfl hl (by decide) rfl (fun ls hl => ?_)
  refine lv_iload_n C.1 C.2.1 dX12_takes_12 rfl (lv_at hl 0 rfl) ?_
  refine lv_aload_n C.1 C.2.1 dX12_takes_13 rfl (lv_at hl 1 rfl) ?_
  refine k_get C Wd KX12 0 4 rfl (by decide) fl_X12_98 rfl dX12_takes_14 ?_
  refine lv_icmp_ge (tgt := 44) C.1 C.2.1 dX12_takes_17 (by decide) (fun _ => ?_) (fun c4338 => absurd c4338 (by decide))
  exact k_vret C hr hlk Wd () trivial [0, 1] rfl (by decide) [] rfl (by decide) (by decide) dX12_takes_44
set_option maxHeartbeats 4000000 in
set_option maxRecDepth 100000 in
theorem kcX12_isLast (l : Launch) (D : va_G) (h0 h1 h2 h3 h4 h5 h6 h7 h8 h9 h10 h11 h12 h13 h14 h15 h16 h17 h18 h19 h20 h21 h22 h23 h24 h25 : Nat) (sz : Nat)  : Met l yX12_isLast (Cond.code yX12_isLast cX12_isLast 2 (some .boolean) :: gG) { frames := 1, cells := 0, slots := 0, locals := 64 } (cPre D [] [(h0, .inr (12, [.ref h1, .ref h2, .ref h3, .ref h4, .int 0, .int 0, .ref h5, .int 0, .int 0, .int 0, .int 0, .int 0, .int 0, .int 0, .int 0, .int 0, .int 0, .int 0, .int 0, .int 0, .int (-1), .int 0, .int 0, .int 0, .ref h6, .ref h7, .ref h8, .ref h9, .ref h10, .ref h11, .int 0, .int 0, .int 0, .int 0, .ref h12, .ref h13, .ref h14, .int 0, .int 0, .int 0, .int 0, .ref h15, .ref h16, .int 0, .ref h17, .ref h18, .int 0, .ref h19, .int 0, .ref h20, .ref h21, .ref h22, .int 0, .ref h23, .ref h24, .ref h25]))] sz [.ref h0, .int 0]) (vp_Si (fun r => r = 1)) 0 0 (fun _ => False) := by
  refine Met.ofW (cc := cX12_isLast) (maxL := 2) (ret := (some .boolean)) (by decide) rfl ?_
  intro p e s m args below meth c s₁ B hml hv
  obtain ⟨rfl, aks, rfl, Wd⟩ := k_enter hv
  have C : CallFix p m c cX12_isLast 2 s _ gG RX12 := ⟨B.exec, B.bytes, hml, findClass_of_methodNamed B.named, fun w h => atoms_spec (ws := Cond.code yX12_isLast cX12_isLast 2 (some .boolean) :: gG) B.pre w (List.mem_cons_of_mem _ h)⟩
  have hr := B.returns
  have hlk := B.notSynchronized
  obtain ⟨A, Wd⟩ : ∃ A, wX D [] s [(h0, .inr (12, [.ref h1, .ref h2, .ref h3, .ref h4, .int 0, .int 0, .ref h5, .int 0, .int 0, .int 0, .int 0, .int 0, .int 0, .int 0, .int 0, .int 0, .int 0, .int 0, .int 0, .int 0, .int (-1), .int 0, .int 0, .int 0, .ref h6, .ref h7, .ref h8, .ref h9, .ref h10, .ref h11, .int 0, .int 0, .int 0, .int 0, .ref h12, .ref h13, .ref h14, .int 0, .int 0, .int 0, .int 0, .ref h15, .ref h16, .int 0, .ref h17, .ref h18, .int 0, .ref h19, .int 0, .ref h20, .ref h21, .ref h22, .int 0, .ref h23, .ref h24, .ref h25]))] s.heap A s.heap [] := ⟨_, Wd⟩
  refine k_locals (Nat.le_of_ble_eq_true rfl) [(0, .ref h0), (1, .int 0)] rfl (fun ls hl => ?_)
  refine lv_iload_n C.1 C.2.1 dX12_isLast_0 rfl (lv_at hl 1 rfl) ?_
  refine lv_aload_n C.1 C.2.1 dX12_isLast_1 rfl (lv_at hl 0 rfl) ?_
  refine k_get C Wd KX12 0 4 rfl (by decide) fl_X12_98 rfl dX12_isLast_2 ?_
  refine lv_icmp_eq (tgt := 30) C.1 C.2.1 dX12_isLast_5 (by decide) (fun _ => ?_) (fun c4344 => absurd c4344 (by decide))
  refine lv_iconst (v := 1) C.1 C.2.1 dX12_isLast_30 (by decide) ?_
  refine lv_goto (tgt := 35) C.1 C.2.1 dX12_isLast_31 (by decide) ?_
  exact k_zretP C hr hlk rfl rfl dX12_isLast_35
set_option maxHeartbeats 4000000 in
set_option maxRecDepth 100000 in
theorem kcX12_liveFrom (l : Launch) (D : va_G) (h0 h1 h2 h3 h4 h5 h6 h7 h8 h9 h10 h11 h12 h13 h14 h15 h16 h17 h18 h19 h20 h21 h22 h23 h24 h25 : Nat) (sz : Nat)  : Met l yX12_liveFrom (Cond.code yX12_liveFrom cX12_liveFrom 3 (some .int) :: gG) { frames := 2, cells := 0, slots := 0, locals := 85 } (cPre D [] [(h0, .inr (12, [.ref h1, .ref h2, .ref h3, .ref h4, .int 0, .int 0, .ref h5, .int 0, .int 0, .int 0, .int 0, .int 0, .int 0, .int 0, .int 0, .int 0, .int 0, .int 0, .int 0, .int 0, .int (-1), .int 0, .int 0, .int 0, .ref h6, .ref h7, .ref h8, .ref h9, .ref h10, .ref h11, .int 0, .int 0, .int 0, .int 0, .ref h12, .ref h13, .ref h14, .int 0, .int 0, .int 0, .int 0, .ref h15, .ref h16, .int 0, .ref h17, .ref h18, .int 0, .ref h19, .int 0, .ref h20, .ref h21, .ref h22, .int 0, .ref h23, .ref h24, .ref h25]))] sz [.ref h0, .int 0, .int 0]) (vp_Si (fun r => r = 0)) 0 0 (fun _ => False) := by
  refine Met.ofW (cc := cX12_liveFrom) (maxL := 3) (ret := (some .int)) (by decide) rfl ?_
  intro p e s m args below meth c s₁ B hml hv
  obtain ⟨rfl, aks, rfl, Wd⟩ := k_enter hv
  have C : CallFix p m c cX12_liveFrom 3 s _ gG RX12 := ⟨B.exec, B.bytes, hml, findClass_of_methodNamed B.named, fun w h => atoms_spec (ws := Cond.code yX12_liveFrom cX12_liveFrom 3 (some .int) :: gG) B.pre w (List.mem_cons_of_mem _ h)⟩
  have hr := B.returns
  have hlk := B.notSynchronized
  obtain ⟨A, Wd⟩ : ∃ A, wX D [] s [(h0, .inr (12, [.ref h1, .ref h2, .ref h3, .ref h4, .int 0, .int 0, .ref h5, .int 0, .int 0, .int 0, .int 0, .int 0, .int 0, .int 0, .int 0, .int 0, .int 0, .int 0, .int 0, .int 0, .int (-1), .int 0, .int 0, .int 0, .ref h6, .ref h7, .ref h8, .ref h9, .ref h10, .ref h11, .int 0, .int 0, .int 0, .int 0, .ref h12, .ref h13, .ref h14, .int 0, .int 0, .int 0, .int 0, .ref h15, .ref h16, .int 0, .ref h17, .ref h18, .int 0, .ref h19, .int 0, .ref h20, .ref h21, .ref h22, .int 0, .ref h23, .ref h24, .ref h25]))] s.heap A s.heap [] := ⟨_, Wd⟩
  refine k_locals (Nat.le_of_ble_eq_true rfl) [(0, .ref h0), (1, .int 0), (2, .int 0)] rfl (fun ls hl => ?_)
  refine lv_aload_n C.1 C.2.1 dX12_liveFrom_0 rfl (lv_at hl 0 rfl) ?_
  refine lv_iload_n C.1 C.2.1 dX12_liveFrom_1 rfl (lv_at hl 1 rfl) ?_
  refine k_pi (k_runV (rest := []) C aks Wd cs_X12_107 (kcX12_isLast l D h0 h1 h2 h3 h4 h5 h6 h7 h8 h9 h10 h11 h12 h13 h14 h15 h16 h17 h18 h19 h20 h21 h22 h23 h24 h25 _ ) [0] rfl (by decide) [] rfl 0 12 rfl rfl rfl rfl rfl ⟨(Nat.le_of_ble_eq_true rfl), (Nat.le_of_ble_eq_true rfl)⟩ hl.1 rfl rfl (Nat.le_of_ble_eq_true rfl) ⟨(Nat.le_of_ble_eq_true rfl), (Nat.le_of_ble_eq_true rfl)⟩ dX12_liveFrom_2) (fun r w4347 => ?_)
  obtain rfl := w4347
  refine lv_if_eq (tgt := 12) C.1 C.2.1 dX12_liveFrom_5 (by decide) (fun c4348 => absurd c4348 (by decide)) (fun _ => ?_)
  refine lv_iload_n C.1 C.2.1 dX12_liveFrom_8 rfl (lv_at hl 2 rfl) ?_
  refine lv_goto (tgt := 27) C.1 C.2.1 dX12_liveFrom_9 (by decide) ?_
  exact k_zretP C hr hlk rfl rfl dX12_liveFrom_27
set_option maxHeartbeats 4000000 in
set_option maxRecDepth 100000 in
theorem kcX12_parts (l : Launch) (D : va_G) (h0 h1 h2 h3 h4 h5 h6 h7 h8 h9 h10 h11 h12 h13 h14 h15 h16 h17 h18 h19 h20 h21 h22 h23 h24 h25 : Nat) (sz : Nat)  : Met l yX12_parts (Cond.code yX12_parts cX12_parts 3 (some .int) :: gG) { frames := 1, cells := 0, slots := 0, locals := 64 } (cPre D [] [(h0, .inr (12, [.ref h1, .ref h2, .ref h3, .ref h4, .int 0, .int 0, .ref h5, .int 0, .int 0, .int 0, .int 0, .int 0, .int 0, .int 0, .int 0, .int 0, .int 0, .int 0, .int 0, .int 0, .int (-1), .int 0, .int 0, .int 0, .ref h6, .ref h7, .ref h8, .ref h9, .ref h10, .ref h11, .int 0, .int 0, .int 0, .int 0, .ref h12, .ref h13, .ref h14, .int 0, .int 0, .int 0, .int 0, .ref h15, .ref h16, .int 0, .ref h17, .ref h18, .int 0, .ref h19, .int 0, .ref h20, .ref h21, .ref h22, .int 0, .ref h23, .ref h24, .ref h25]))] sz [.ref h0]) (vp_Si (fun r => r = 0)) 0 0 (fun _ => False) := by
  refine Met.ofW (cc := cX12_parts) (maxL := 3) (ret := (some .int)) (by decide) rfl ?_
  intro p e s m args below meth c s₁ B hml hv
  obtain ⟨rfl, aks, rfl, Wd⟩ := k_enter hv
  have C : CallFix p m c cX12_parts 3 s _ gG RX12 := ⟨B.exec, B.bytes, hml, findClass_of_methodNamed B.named, fun w h => atoms_spec (ws := Cond.code yX12_parts cX12_parts 3 (some .int) :: gG) B.pre w (List.mem_cons_of_mem _ h)⟩
  have hr := B.returns
  have hlk := B.notSynchronized
  obtain ⟨A, Wd⟩ : ∃ A, wX D [] s [(h0, .inr (12, [.ref h1, .ref h2, .ref h3, .ref h4, .int 0, .int 0, .ref h5, .int 0, .int 0, .int 0, .int 0, .int 0, .int 0, .int 0, .int 0, .int 0, .int 0, .int 0, .int 0, .int 0, .int (-1), .int 0, .int 0, .int 0, .ref h6, .ref h7, .ref h8, .ref h9, .ref h10, .ref h11, .int 0, .int 0, .int 0, .int 0, .ref h12, .ref h13, .ref h14, .int 0, .int 0, .int 0, .int 0, .ref h15, .ref h16, .int 0, .ref h17, .ref h18, .int 0, .ref h19, .int 0, .ref h20, .ref h21, .ref h22, .int 0, .ref h23, .ref h24, .ref h25]))] s.heap A s.heap [] := ⟨_, Wd⟩
  refine k_locals (Nat.le_of_ble_eq_true rfl) [(0, .ref h0)] rfl (fun ls hl => ?_)
  refine lv_iconst (v := 0) C.1 C.2.1 dX12_parts_0 (by decide) ?_
  refine lv_istore_n (lv' := [(1, .int 0), (0, .ref h0)]) C.1 C.2.1 dX12_parts_1 rfl hl (by decide) rfl (fun ls hl => ?_)
  refine lv_iconst (v := 0) C.1 C.2.1 dX12_parts_2 (by decide) ?_
  refine lv_istore_n (lv' := [(2, .int 0), (1, .int 0), (0, .ref h0)]) C.1 C.2.1 dX12_parts_3 rfl hl (by decide) rfl (fun ls hl => ?_)
  refine lv_iload_n C.1 C.2.1 dX12_parts_4 rfl (lv_at hl 0 rfl) ?_
  refine lv_aload_n C.1 C.2.1 dX12_parts_5 rfl (lv_at hl 2 rfl) ?_
  refine k_get C Wd KX12 0 4 rfl (by decide) fl_X12_98 rfl dX12_parts_6 ?_
  refine lv_icmp_ge (tgt := 39) C.1 C.2.1 dX12_parts_9 (by decide) (fun _ => ?_) (fun c4351 => absurd c4351 (by decide))
  refine lv_iload_n C.1 C.2.1 dX12_parts_39 rfl (lv_at hl 1 rfl) ?_
  exact k_zretP C hr hlk rfl rfl dX12_parts_40
set_option maxHeartbeats 4000000 in
set_option maxRecDepth 100000 in
theorem kcX12_statements_v1 (l : Launch) (D : va_G) (h0 h1 h2 h3 h4 h5 h6 h7 h8 h9 h10 h11 h12 h13 h14 h15 h16 h17 h18 h19 h20 h21 h22 h23 h24 h25 : Nat) (sz : Nat)  : Met l yX12_statements (Cond.code yX12_statements cX12_statements 3 (some .int) :: gG) { frames := 1, cells := 0, slots := 0, locals := 64 } (cPre D [] [(h0, .inr (12, [.ref h1, .ref h2, .ref h3, .ref h4, .int 0, .int 0, .ref h5, .int 0, .int 0, .int 0, .int 0, .int 0, .int 0, .int 0, .int 0, .int 0, .int 0, .int 0, .int 0, .int 0, .int (-1), .int 0, .int 0, .int 0, .ref h6, .ref h7, .ref h8, .ref h9, .ref h10, .ref h11, .int 0, .int 0, .int 0, .int 0, .ref h12, .ref h13, .ref h14, .int 0, .int 0, .int 0, .int 0, .ref h15, .ref h16, .int 0, .ref h17, .ref h18, .int 0, .ref h19, .int 0, .ref h20, .ref h21, .ref h22, .int 0, .ref h23, .ref h24, .ref h25]))] sz [.ref h0]) (vp_Si (fun r => r = 0)) 0 0 (fun _ => False) := by
  refine Met.ofW (cc := cX12_statements) (maxL := 3) (ret := (some .int)) (by decide) rfl ?_
  intro p e s m args below meth c s₁ B hml hv
  obtain ⟨rfl, aks, rfl, Wd⟩ := k_enter hv
  have C : CallFix p m c cX12_statements 3 s _ gG RX12 := ⟨B.exec, B.bytes, hml, findClass_of_methodNamed B.named, fun w h => atoms_spec (ws := Cond.code yX12_statements cX12_statements 3 (some .int) :: gG) B.pre w (List.mem_cons_of_mem _ h)⟩
  have hr := B.returns
  have hlk := B.notSynchronized
  obtain ⟨A, Wd⟩ : ∃ A, wX D [] s [(h0, .inr (12, [.ref h1, .ref h2, .ref h3, .ref h4, .int 0, .int 0, .ref h5, .int 0, .int 0, .int 0, .int 0, .int 0, .int 0, .int 0, .int 0, .int 0, .int 0, .int 0, .int 0, .int 0, .int (-1), .int 0, .int 0, .int 0, .ref h6, .ref h7, .ref h8, .ref h9, .ref h10, .ref h11, .int 0, .int 0, .int 0, .int 0, .ref h12, .ref h13, .ref h14, .int 0, .int 0, .int 0, .int 0, .ref h15, .ref h16, .int 0, .ref h17, .ref h18, .int 0, .ref h19, .int 0, .ref h20, .ref h21, .ref h22, .int 0, .ref h23, .ref h24, .ref h25]))] s.heap A s.heap [] := ⟨_, Wd⟩
  refine k_locals (Nat.le_of_ble_eq_true rfl) [(0, .ref h0)] rfl (fun ls hl => ?_)
  refine lv_iconst (v := 0) C.1 C.2.1 dX12_statements_0 (by decide) ?_
  refine lv_istore_n (lv' := [(1, .int 0), (0, .ref h0)]) C.1 C.2.1 dX12_statements_1 rfl hl (by decide) rfl (fun ls hl => ?_)
  refine lv_iconst (v := 0) C.1 C.2.1 dX12_statements_2 (by decide) ?_
  refine lv_istore_n (lv' := [(2, .int 0), (1, .int 0), (0, .ref h0)]) C.1 C.2.1 dX12_statements_3 rfl hl (by decide) rfl (fun ls hl => ?_)
  refine lv_iload_n C.1 C.2.1 dX12_statements_4 rfl (lv_at hl 0 rfl) ?_
  refine lv_aload_n C.1 C.2.1 dX12_statements_5 rfl (lv_at hl 2 rfl) ?_
  refine k_get C Wd KX12 0 4 rfl (by decide) fl_X12_98 rfl dX12_statements_6 ?_
  refine lv_icmp_ge (tgt := 38) C.1 C.2.1 dX12_statements_9 (by decide) (fun _ => ?_) (fun c4354 => absurd c4354 (by decide))
  refine lv_iload_n C.1 C.2.1 dX12_statements_38 rfl (lv_at hl 1 rfl) ?_
  exact k_zretP C hr hlk rfl rfl dX12_statements_39
set_option maxHeartbeats 4000000 in
set_option maxRecDepth 100000 in
theorem kcX12_size (l : Launch) (D : va_G) (h0 h1 h2 h3 h4 h5 h6 h7 h8 h9 h10 h11 h12 h13 h14 h15 h16 h17 h18 h19 h20 h21 h22 h23 h24 h25 : Nat) (x0 x1 : Int32) (a1 : ClassId) (sz : Nat)  : Met l yX12_size (Cond.code yX12_size cX12_size 3 (some .int) :: gG) { frames := 3, cells := 0, slots := 0, locals := 107 } (cPre D [(a1, .int)] [(h0, .inr (12, [.ref h1, .ref h2, .ref h3, .ref h4, .int 0, .int 0, .ref h5, .int 0, .int 0, .int 0, .int 0, .int 0, .int 0, .int 0, .int 0, .int 0, .int 0, .int 0, .int 0, .int 0, .int (-1), .int 0, .int 0, .int 0, .ref h6, .ref h7, .ref h8, .ref h9, .ref h10, .ref h11, .int 0, .int 0, .int 0, .int 0, .ref h12, .ref h13, .ref h14, .int 0, .int 0, .int 0, .int 0, .ref h15, .ref h16, .int 0, .ref h17, .ref h18, .int 0, .ref h19, .int 0, .ref h20, .ref h21, .ref h22, .int 0, .ref h23, .ref h24, .ref h25])), (h2, .inl (a1, 6, .inl (fun _ => 0)))] sz [.ref h0, .int x0, .int x1]) (va_Qi (fun (r : Int32) (_ : Unit) => (x0 < (0 : Int32) ∧ r = (-1)) ∨ (¬ x0 < (0 : Int32) ∧ (5 : Int32) < x0 ∧ r = (-1)) ∨ (¬ x0 < (0 : Int32) ∧ ¬ (5 : Int32) < x0 ∧ x1 < (0 : Int32) ∧ r = (-1)) ∨ (¬ x0 < (0 : Int32) ∧ ¬ (5 : Int32) < x0 ∧ ¬ x1 < (0 : Int32) ∧ (3 : Int32) < x1 ∧ r = (-1)) ∨ (¬ x0 < (0 : Int32) ∧ ¬ (5 : Int32) < x0 ∧ ¬ x1 < (0 : Int32) ∧ ¬ (3 : Int32) < x1 ∧ ¬ x1 = (0 : Int32) ∧ ¬ x1 = (1 : Int32) ∧ ¬ x1 = (2 : Int32) ∧ r = 0) ∨ (¬ x0 < (0 : Int32) ∧ ¬ (5 : Int32) < x0 ∧ ¬ x1 < (0 : Int32) ∧ ¬ (3 : Int32) < x1 ∧ ¬ x1 = (0 : Int32) ∧ ¬ x1 = (1 : Int32) ∧ x1 = (2 : Int32) ∧ r = 0) ∨ (¬ x0 < (0 : Int32) ∧ ¬ (5 : Int32) < x0 ∧ ¬ x1 < (0 : Int32) ∧ ¬ (3 : Int32) < x1 ∧ ¬ x1 = (0 : Int32) ∧ x1 = (1 : Int32) ∧ r = 0) ∨ (¬ x0 < (0 : Int32) ∧ ¬ (5 : Int32) < x0 ∧ ¬ x1 < (0 : Int32) ∧ ¬ (3 : Int32) < x1 ∧ x1 = (0 : Int32) ∧ r = 0)) (fun u t => cB D (va_A [(h0, .inr (12, [.ref h1, .ref h2, .ref h3, .ref h4, .int 0, .int 0, .ref h5, .int 0, .int 0, .int 0, .int 0, .int 0, .int 0, .int 0, .int 0, .int 0, .int 0, .int 0, .int 0, .int 0, .int (-1), .int 0, .int 0, .int 0, .ref h6, .ref h7, .ref h8, .ref h9, .ref h10, .ref h11, .int 0, .int 0, .int 0, .int 0, .ref h12, .ref h13, .ref h14, .int 0, .int 0, .int 0, .int 0, .ref h15, .ref h16, .int 0, .ref h17, .ref h18, .int 0, .ref h19, .int 0, .ref h20, .ref h21, .ref h22, .int 0, .ref h23, .ref h24, .ref h25])), (h2, .inl (a1, 6, .inl (fun _ => 0)))] sz) ((fun (_ : Unit) => ([] : List (ClassId × FieldType))) u) ((fun (_ : Unit) => ([] : va_W)) u) t) (va_A [(h0, .inr (12, [.ref h1, .ref h2, .ref h3, .ref h4, .int 0, .int 0, .ref h5, .int 0, .int 0, .int 0, .int 0, .int 0, .int 0, .int 0, .int 0, .int 0, .int 0, .int 0, .int 0, .int 0, .int (-1), .int 0, .int 0, .int 0, .ref h6, .ref h7, .ref h8, .ref h9, .ref h10, .ref h11, .int 0, .int 0, .int 0, .int 0, .ref h12, .ref h13, .ref h14, .int 0, .int 0, .int 0, .int 0, .ref h15, .ref h16, .int 0, .ref h17, .ref h18, .int 0, .ref h19, .int 0, .ref h20, .ref h21, .ref h22, .int 0, .ref h23, .ref h24, .ref h25])), (h2, .inl (a1, 6, .inl (fun _ => 0)))] sz)) 0 0 (va_A [(h0, .inr (12, [.ref h1, .ref h2, .ref h3, .ref h4, .int 0, .int 0, .ref h5, .int 0, .int 0, .int 0, .int 0, .int 0, .int 0, .int 0, .int 0, .int 0, .int 0, .int 0, .int 0, .int 0, .int (-1), .int 0, .int 0, .int 0, .ref h6, .ref h7, .ref h8, .ref h9, .ref h10, .ref h11, .int 0, .int 0, .int 0, .int 0, .ref h12, .ref h13, .ref h14, .int 0, .int 0, .int 0, .int 0, .ref h15, .ref h16, .int 0, .ref h17, .ref h18, .int 0, .ref h19, .int 0, .ref h20, .ref h21, .ref h22, .int 0, .ref h23, .ref h24, .ref h25])), (h2, .inl (a1, 6, .inl (fun _ => 0)))] sz) := by
  refine Met.ofW (cc := cX12_size) (maxL := 3) (ret := (some .int)) (by decide) rfl ?_
  intro p e s m args below meth c s₁ B hml hv
  obtain ⟨rfl, aks, rfl, Wd⟩ := k_enter hv
  have C : CallFix p m c cX12_size 3 s _ gG RX12 := ⟨B.exec, B.bytes, hml, findClass_of_methodNamed B.named, fun w h => atoms_spec (ws := Cond.code yX12_size cX12_size 3 (some .int) :: gG) B.pre w (List.mem_cons_of_mem _ h)⟩
  have hr := B.returns
  have hlk := B.notSynchronized
  generalize va_A [(h0, .inr (12, [.ref h1, .ref h2, .ref h3, .ref h4, .int 0, .int 0, .ref h5, .int 0, .int 0, .int 0, .int 0, .int 0, .int 0, .int 0, .int 0, .int 0, .int 0, .int 0, .int 0, .int 0, .int (-1), .int 0, .int 0, .int 0, .ref h6, .ref h7, .ref h8, .ref h9, .ref h10, .ref h11, .int 0, .int 0, .int 0, .int 0, .ref h12, .ref h13, .ref h14, .int 0, .int 0, .int 0, .int 0, .ref h15, .ref h16, .int 0, .ref h17, .ref h18, .int 0, .ref h19, .int 0, .ref h20, .ref h21, .ref h22, .int 0, .ref h23, .ref h24, .ref h25])), (h2, .inl (a1, 6, .inl (fun _ => 0)))] s.heap.size = A at Wd ⊢
  refine k_locals (Nat.le_of_ble_eq_true rfl) [(0, .ref h0), (1, .int x0), (2, .int x1)] rfl (fun ls hl => ?_)
  refine lv_iload_n C.1 C.2.1 dX12_size_0 rfl (lv_at hl 1 rfl) ?_
  refine k_pi (k_runS (rest := []) C aks Wd cs_X12_249 (kcX12_isSlot l D x0 _ ) [] rfl (by decide) [] rfl rfl rfl ⟨(Nat.le_of_ble_eq_true rfl), (Nat.le_of_ble_eq_true rfl)⟩ hl.1 rfl rfl (Nat.le_of_ble_eq_true rfl) ⟨(Nat.le_of_ble_eq_true rfl), (Nat.le_of_ble_eq_true rfl)⟩ dX12_size_1) (fun r w4356 => ?_)
  rcases w4356 with ⟨c4357, rfl⟩ | ⟨c4358, c4359, rfl⟩ | ⟨c4360, c4361, rfl⟩
  · refine lv_if_eq (tgt := 16) C.1 C.2.1 dX12_size_4 (by decide) (fun _ => ?_) (fun c4362 => absurd c4362 (by decide))
    refine lv_iconst (v := (-1)) C.1 C.2.1 dX12_size_16 (by decide) ?_
    exact k_zret C hr hlk rfl Wd () (Or.inl (⟨c4357, rfl⟩)) [] rfl (by decide) [] rfl (by decide) (by decide) dX12_size_17
  · refine lv_if_eq (tgt := 16) C.1 C.2.1 dX12_size_4 (by decide) (fun _ => ?_) (fun c4363 => absurd c4363 (by decide))
    refine lv_iconst (v := (-1)) C.1 C.2.1 dX12_size_16 (by decide) ?_
    exact k_zret C hr hlk rfl Wd () (Or.inr (Or.inl (⟨c4358, c4359, rfl⟩))) [] rfl (by decide) [] rfl (by decide) (by decide) dX12_size_17
  · refine lv_if_eq (tgt := 16) C.1 C.2.1 dX12_size_4 (by decide) (fun c4364 => absurd c4364 (by decide)) (fun _ => ?_)
    refine lv_iload_n C.1 C.2.1 dX12_size_7 rfl (lv_at hl 2 rfl) ?_
    refine lv_iconst (v := 0) C.1 C.2.1 dX12_size_8 (by decide) ?_
    refine lv_iconst (v := 3) C.1 C.2.1 dX12_size_9 (by decide) ?_
    refine k_pi (k_runS (rest := []) C aks Wd cs_X12_90 (kcX12_isIn l D x1 0 3 _ ) [] rfl (by decide) [] rfl rfl rfl ⟨(Nat.le_of_ble_eq_true rfl), (Nat.le_of_ble_eq_true rfl)⟩ hl.1 rfl rfl (Nat.le_of_ble_eq_true rfl) ⟨(Nat.le_of_ble_eq_true rfl), (Nat.le_of_ble_eq_true rfl)⟩ dX12_size_10) (fun r w4365 => ?_)
    rcases w4365 with ⟨c4366, rfl⟩ | ⟨c4367, c4368, rfl⟩ | ⟨c4369, c4370, rfl⟩
    · refine lv_if_ne (tgt := 18) C.1 C.2.1 dX12_size_13 (by decide) (fun c4371 => absurd c4371 (by decide)) (fun _ => ?_)
      refine lv_iconst (v := (-1)) C.1 C.2.1 dX12_size_16 (by decide) ?_
      exact k_zret C hr hlk rfl Wd () (Or.inr (Or.inr (Or.inl (⟨c4360, c4361, c4366, rfl⟩)))) [] rfl (by decide) [] rfl (by decide) (by decide) dX12_size_17
    · refine lv_if_ne (tgt := 18) C.1 C.2.1 dX12_size_13 (by decide) (fun c4372 => absurd c4372 (by decide)) (fun _ => ?_)
      refine lv_iconst (v := (-1)) C.1 C.2.1 dX12_size_16 (by decide) ?_
      exact k_zret C hr hlk rfl Wd () (Or.inr (Or.inr (Or.inr (Or.inl (⟨c4360, c4361, c4367, c4368, rfl⟩))))) [] rfl (by decide) [] rfl (by decide) (by decide) dX12_size_17
    · refine lv_if_ne (tgt := 18) C.1 C.2.1 dX12_size_13 (by decide) (fun _ => ?_) (fun c4373 => absurd c4373 (by decide))
      refine lv_aload_n C.1 C.2.1 dX12_size_18 rfl (lv_at hl 0 rfl) ?_
      refine lv_iload_n C.1 C.2.1 dX12_size_19 rfl (lv_at hl 1 rfl) ?_
      refine k_cv Wd [0, 1] [] rfl (wr := []) rfl (by decide) (by decide) (cells' := 0) (slots' := 0) (by decide) (by decide) (k_runV (rest := []) C aks Wd cs_X12_271 (kcX12_takes l D h0 h1 h2 h3 h4 h5 h6 h7 h8 h9 h10 h11 h12 h13 h14 h15 h16 h17 h18 h19 h20 h21 h22 h23 h24 h25 x0 a1 _ c4360 c4361) [0, 1] rfl (by decide) [0] rfl 0 12 rfl rfl rfl rfl rfl ⟨(Nat.le_of_ble_eq_true rfl), (Nat.le_of_ble_eq_true rfl)⟩ hl.1 rfl rfl (Nat.le_of_ble_eq_true rfl) ⟨(Nat.le_of_ble_eq_true rfl), (Nat.le_of_ble_eq_true rfl)⟩ dX12_size_20) (fun _ H locs w4374 Wd => ?_)
      have Wd : wX D [(a1, .int)] s [(h0, .inr (12, [.ref h1, .ref h2, .ref h3, .ref h4, .int 0, .int 0, .ref h5, .int 0, .int 0, .int 0, .int 0, .int 0, .int 0, .int 0, .int 0, .int 0, .int 0, .int 0, .int 0, .int 0, .int (-1), .int 0, .int 0, .int 0, .ref h6, .ref h7, .ref h8, .ref h9, .ref h10, .ref h11, .int 0, .int 0, .int 0, .int 0, .ref h12, .ref h13, .ref h14, .int 0, .int 0, .int 0, .int 0, .ref h15, .ref h16, .int 0, .ref h17, .ref h18, .int 0, .ref h19, .int 0, .ref h20, .ref h21, .ref h22, .int 0, .ref h23, .ref h24, .ref h25])), (h2, .inl (a1, 6, .inl (fun _ => 0)))] _ A s.heap _ := Wd
      refine lv_iload_n C.1 C.2.1 dX12_size_23 rfl (lv_at hl 2 rfl) ?_
      refine lv_if_ne (tgt := 34) C.1 C.2.1 dX12_size_24 (by decide) (fun c4375 => ?_) (fun c4375 => ?_)
      · refine lv_iload_n C.1 C.2.1 dX12_size_34 rfl (lv_at hl 2 rfl) ?_
        refine lv_iconst (v := 1) C.1 C.2.1 dX12_size_35 (by decide) ?_
        refine lv_icmp_ne (tgt := 46) C.1 C.2.1 dX12_size_36 (by decide) (fun c4376 => ?_) (fun c4376 => ?_)
        · refine lv_iload_n C.1 C.2.1 dX12_size_46 rfl (lv_at hl 2 rfl) ?_
          refine lv_iconst (v := 2) C.1 C.2.1 dX12_size_47 (by decide) ?_
          refine lv_icmp_ne (tgt := 58) C.1 C.2.1 dX12_size_48 (by decide) (fun c4377 => ?_) (fun c4377 => ?_)
          · refine lv_aload_n C.1 C.2.1 dX12_size_58 rfl (lv_at hl 0 rfl) ?_
            refine lv_iconst (v := 0) C.1 C.2.1 dX12_size_59 (by decide) ?_
            refine lv_iconst (v := 0) C.1 C.2.1 dX12_size_60 (by decide) ?_
            refine k_pi (k_runV (rest := []) C aks Wd cs_X12_277 (kcX12_liveFrom l D h0 h1 h2 h3 h4 h5 h6 h7 h8 h9 h10 h11 h12 h13 h14 h15 h16 h17 h18 h19 h20 h21 h22 h23 h24 h25 _ ) [0] rfl (by decide) [] rfl 0 12 rfl rfl rfl rfl rfl ⟨(Nat.le_of_ble_eq_true rfl), (Nat.le_of_ble_eq_true rfl)⟩ hl.1 rfl rfl (Nat.le_of_ble_eq_true rfl) ⟨(Nat.le_of_ble_eq_true rfl), (Nat.le_of_ble_eq_true rfl)⟩ dX12_size_61) (fun r w4378 => ?_)
            obtain rfl := w4378
            exact k_zret C hr hlk rfl Wd () (Or.inr (Or.inr (Or.inr (Or.inr (Or.inl (⟨c4360, c4361, c4369, c4370, c4375, c4376, c4377, rfl⟩)))))) [] rfl (by decide) [] rfl (by decide) (by decide) dX12_size_64
          · subst c4377
            refine lv_aload_n C.1 C.2.1 dX12_size_51 rfl (lv_at hl 0 rfl) ?_
            refine k_get C Wd KX12 0 4 rfl (by decide) fl_X12_98 rfl dX12_size_52 ?_
            refine lv_goto (tgt := 64) C.1 C.2.1 dX12_size_55 (by decide) ?_
            exact k_zret C hr hlk rfl Wd () (Or.inr (Or.inr (Or.inr (Or.inr (Or.inr (Or.inl (⟨c4360, c4361, c4369, c4370, c4375, c4376, rfl, rfl⟩))))))) [] rfl (by decide) [] rfl (by decide) (by decide) dX12_size_64
        · subst c4376
          refine lv_aload_n C.1 C.2.1 dX12_size_39 rfl (lv_at hl 0 rfl) ?_
          refine k_pi (k_runV (rest := []) C aks Wd cs_X12_274 (kcX12_parts l D h0 h1 h2 h3 h4 h5 h6 h7 h8 h9 h10 h11 h12 h13 h14 h15 h16 h17 h18 h19 h20 h21 h22 h23 h24 h25 _ ) [0] rfl (by decide) [] rfl 0 12 rfl rfl rfl rfl rfl ⟨(Nat.le_of_ble_eq_true rfl), (Nat.le_of_ble_eq_true rfl)⟩ hl.1 rfl rfl (Nat.le_of_ble_eq_true rfl) ⟨(Nat.le_of_ble_eq_true rfl), (Nat.le_of_ble_eq_true rfl)⟩ dX12_size_40) (fun r w4379 => ?_)
          obtain rfl := w4379
          refine lv_goto (tgt := 64) C.1 C.2.1 dX12_size_43 (by decide) ?_
          exact k_zret C hr hlk rfl Wd () (Or.inr (Or.inr (Or.inr (Or.inr (Or.inr (Or.inr (Or.inl (⟨c4360, c4361, c4369, c4370, c4375, rfl, rfl⟩)))))))) [] rfl (by decide) [] rfl (by decide) (by decide) dX12_size_64
      · subst c4375
        refine lv_aload_n C.1 C.2.1 dX12_size_27 rfl (lv_at hl 0 rfl) ?_
        refine k_pi (k_runV (rest := []) C aks Wd cs_X12_265 (kcX12_statements_v1 l D h0 h1 h2 h3 h4 h5 h6 h7 h8 h9 h10 h11 h12 h13 h14 h15 h16 h17 h18 h19 h20 h21 h22 h23 h24 h25 _ ) [0] rfl (by decide) [] rfl 0 12 rfl rfl rfl rfl rfl ⟨(Nat.le_of_ble_eq_true rfl), (Nat.le_of_ble_eq_true rfl)⟩ hl.1 rfl rfl (Nat.le_of_ble_eq_true rfl) ⟨(Nat.le_of_ble_eq_true rfl), (Nat.le_of_ble_eq_true rfl)⟩ dX12_size_28) (fun r w4380 => ?_)
        obtain rfl := w4380
        refine lv_goto (tgt := 64) C.1 C.2.1 dX12_size_31 (by decide) ?_
        exact k_zret C hr hlk rfl Wd () (Or.inr (Or.inr (Or.inr (Or.inr (Or.inr (Or.inr (Or.inr (⟨c4360, c4361, c4369, c4370, rfl, rfl⟩)))))))) [] rfl (by decide) [] rfl (by decide) (by decide) dX12_size_64
set_option maxHeartbeats 4000000 in
set_option maxRecDepth 100000 in
theorem kcX12_does (l : Launch) (D : va_G) (h0 h1 h2 h3 h4 h5 h6 h7 h8 h9 h10 h11 h12 h13 h14 h15 h16 h17 h18 h19 h20 h21 h22 h23 h24 h25 : Nat) (sz : Nat)  : Met l yX12_does (Cond.code yX12_does cX12_does 3 (some .boolean) :: gG) { frames := 2, cells := 0, slots := 0, locals := 85 } (cPre D [] [(h0, .inr (12, [.ref h1, .ref h2, .ref h3, .ref h4, .int 0, .int 0, .ref h5, .int 0, .int 0, .int 0, .int 0, .int 0, .int 0, .int 0, .int 0, .int 0, .int 0, .int 0, .int 0, .int 0, .int (-1), .int 0, .int 0, .int 0, .ref h6, .ref h7, .ref h8, .ref h9, .ref h10, .ref h11, .int 0, .int 0, .int 0, .int 0, .ref h12, .ref h13, .ref h14, .int 0, .int 0, .int 0, .int 0, .ref h15, .ref h16, .int 0, .ref h17, .ref h18, .int 0, .ref h19, .int 0, .ref h20, .ref h21, .ref h22, .int 0, .ref h23, .ref h24, .ref h25]))] sz [.ref h0, .int 0]) (vp_Si (fun r => r = 1)) 0 0 (fun _ => False) := by
  refine Met.ofW (cc := cX12_does) (maxL := 3) (ret := (some .boolean)) (by decide) rfl ?_
  intro p e s m args below meth c s₁ B hml hv
  obtain ⟨rfl, aks, rfl, Wd⟩ := k_enter hv
  have C : CallFix p m c cX12_does 3 s _ gG RX12 := ⟨B.exec, B.bytes, hml, findClass_of_methodNamed B.named, fun w h => atoms_spec (ws := Cond.code yX12_does cX12_does 3 (some .boolean) :: gG) B.pre w (List.mem_cons_of_mem _ h)⟩
  have hr := B.returns
  have hlk := B.notSynchronized
  obtain ⟨A, Wd⟩ : ∃ A, wX D [] s [(h0, .inr (12, [.ref h1, .ref h2, .ref h3, .ref h4, .int 0, .int 0, .ref h5, .int 0, .int 0, .int 0, .int 0, .int 0, .int 0, .int 0, .int 0, .int 0, .int 0, .int 0, .int 0, .int 0, .int (-1), .int 0, .int 0, .int 0, .ref h6, .ref h7, .ref h8, .ref h9, .ref h10, .ref h11, .int 0, .int 0, .int 0, .int 0, .ref h12, .ref h13, .ref h14, .int 0, .int 0, .int 0, .int 0, .ref h15, .ref h16, .int 0, .ref h17, .ref h18, .int 0, .ref h19, .int 0, .ref h20, .ref h21, .ref h22, .int 0, .ref h23, .ref h24, .ref h25]))] s.heap A s.heap [] := ⟨_, Wd⟩
  refine k_locals (Nat.le_of_ble_eq_true rfl) [(0, .ref h0), (1, .int 0)] rfl (fun ls hl => ?_)
  refine lv_iload_n C.1 C.2.1 dX12_does_0 rfl (lv_at hl 1 rfl) ?_
  refine lv_istore_n (lv' := [(2, .int 0), (0, .ref h0), (1, .int 0)]) C.1 C.2.1 dX12_does_1 rfl hl (by decide) rfl (fun ls hl => ?_)
  refine lv_aload_n C.1 C.2.1 dX12_does_2 rfl (lv_at hl 1 rfl) ?_
  refine lv_iload_n C.1 C.2.1 dX12_does_3 rfl (lv_at hl 0 rfl) ?_
  refine k_pi (k_runV (rest := []) C aks Wd cs_X12_107 (kcX12_isLast l D h0 h1 h2 h3 h4 h5 h6 h7 h8 h9 h10 h11 h12 h13 h14 h15 h16 h17 h18 h19 h20 h21 h22 h23 h24 h25 _ ) [0] rfl (by decide) [] rfl 0 12 rfl rfl rfl rfl rfl ⟨(Nat.le_of_ble_eq_true rfl), (Nat.le_of_ble_eq_true rfl)⟩ hl.1 rfl rfl (Nat.le_of_ble_eq_true rfl) ⟨(Nat.le_of_ble_eq_true rfl), (Nat.le_of_ble_eq_true rfl)⟩ dX12_does_4) (fun r w4429 => ?_)
  obtain rfl := w4429
  refine lv_if_ne (tgt := 29) C.1 C.2.1 dX12_does_7 (by decide) (fun _ => ?_) (fun c4430 => absurd c4430 (by decide))
  refine lv_iconst (v := 1) C.1 C.2.1 dX12_does_29 (by decide) ?_
  exact k_zretP C hr hlk rfl rfl dX12_does_30
set_option maxHeartbeats 4000000 in
set_option maxRecDepth 100000 in
theorem kcX12_runs (l : Launch) (D : va_G) (h0 h1 h2 h3 h4 h5 h6 h7 h8 h9 h10 h11 h12 h13 h14 h15 h16 h17 h18 h19 h20 h21 h22 h23 h24 h25 : Nat) (x0 x1 : Int32) (a9 : ClassId) (sz : Nat)  : Met l yX12_runs (Cond.code yX12_runs cX12_runs 4 none :: gG) { frames := 3, cells := 0, slots := 0, locals := 107 } (cPre D [(a9, .int)] [(h0, .inr (12, [.ref h1, .ref h2, .ref h3, .ref h4, .int 0, .int 0, .ref h5, .int 0, .int 0, .int 0, .int 0, .int 0, .int 0, .int 0, .int 0, .int 0, .int 0, .int 0, .int 0, .int 0, .int (-1), .int 0, .int 0, .int 0, .ref h6, .ref h7, .ref h8, .ref h9, .ref h10, .ref h11, .int 0, .int 0, .int 0, .int 0, .ref h12, .ref h13, .ref h14, .int 0, .int 0, .int 0, .int 0, .ref h15, .ref h16, .int 0, .ref h17, .ref h18, .int 0, .ref h19, .int 0, .ref h20, .ref h21, .ref h22, .int 0, .ref h23, .ref h24, .ref h25])), (h10, .inl (a9, 6, .inl (fun _ => 0)))] sz [.ref h0, .int x0, .int x1]) (va_Qv (fun (_ : Unit) => True) (fun u t => cB D (va_A [(h0, .inr (12, [.ref h1, .ref h2, .ref h3, .ref h4, .int 0, .int 0, .ref h5, .int 0, .int 0, .int 0, .int 0, .int 0, .int 0, .int 0, .int 0, .int 0, .int 0, .int 0, .int 0, .int 0, .int (-1), .int 0, .int 0, .int 0, .ref h6, .ref h7, .ref h8, .ref h9, .ref h10, .ref h11, .int 0, .int 0, .int 0, .int 0, .ref h12, .ref h13, .ref h14, .int 0, .int 0, .int 0, .int 0, .ref h15, .ref h16, .int 0, .ref h17, .ref h18, .int 0, .ref h19, .int 0, .ref h20, .ref h21, .ref h22, .int 0, .ref h23, .ref h24, .ref h25])), (h10, .inl (a9, 6, .inl (fun _ => 0)))] sz) ((fun (_ : Unit) => ([] : List (ClassId × FieldType))) u) ((fun (_ : Unit) => ([(h0, .inr (12, [.ref h1, .ref h2, .ref h3, .ref h4, .int 0, .int 0, .ref h5, .int 0, .int 0, .int 0, .int 0, .int 0, .int 0, .int 0, .int 0, .int 0, .int 0, .int 0, .int 0, .int 0, .int (-1), .int 0, .int 0, .int 0, .ref h6, .ref h7, .ref h8, .ref h9, .ref h10, .ref h11, .int 0, .int 0, .int 0, .int 0, .ref h12, .ref h13, .ref h14, .int 0, .int 0, .int 0, .int 0, .ref h15, .ref h16, .int 0, .ref h17, .ref h18, .int 0, .ref h19, .int 0, .ref h20, .ref h21, .ref h22, .int 0, .ref h23, .ref h24, .ref h25])), (h10, .inl (a9, 6, .inl (upd (upd (upd (upd (upd (upd (fun _ => 0) 0 x0) 1 x1) 2 0) 3 0) 4 0) 5 0)))] : va_W)) u) t) (va_A [(h0, .inr (12, [.ref h1, .ref h2, .ref h3, .ref h4, .int 0, .int 0, .ref h5, .int 0, .int 0, .int 0, .int 0, .int 0, .int 0, .int 0, .int 0, .int 0, .int 0, .int 0, .int 0, .int 0, .int (-1), .int 0, .int 0, .int 0, .ref h6, .ref h7, .ref h8, .ref h9, .ref h10, .ref h11, .int 0, .int 0, .int 0, .int 0, .ref h12, .ref h13, .ref h14, .int 0, .int 0, .int 0, .int 0, .ref h15, .ref h16, .int 0, .ref h17, .ref h18, .int 0, .ref h19, .int 0, .ref h20, .ref h21, .ref h22, .int 0, .ref h23, .ref h24, .ref h25])), (h10, .inl (a9, 6, .inl (fun _ => 0)))] sz)) 0 0 (va_A [(h0, .inr (12, [.ref h1, .ref h2, .ref h3, .ref h4, .int 0, .int 0, .ref h5, .int 0, .int 0, .int 0, .int 0, .int 0, .int 0, .int 0, .int 0, .int 0, .int 0, .int 0, .int 0, .int 0, .int (-1), .int 0, .int 0, .int 0, .ref h6, .ref h7, .ref h8, .ref h9, .ref h10, .ref h11, .int 0, .int 0, .int 0, .int 0, .ref h12, .ref h13, .ref h14, .int 0, .int 0, .int 0, .int 0, .ref h15, .ref h16, .int 0, .ref h17, .ref h18, .int 0, .ref h19, .int 0, .ref h20, .ref h21, .ref h22, .int 0, .ref h23, .ref h24, .ref h25])), (h10, .inl (a9, 6, .inl (fun _ => 0)))] sz) := by
  refine Met.ofW (cc := cX12_runs) (maxL := 4) (ret := none) (by decide) rfl ?_
  intro p e s m args below meth c s₁ B hml hv
  obtain ⟨rfl, aks, rfl, Wd⟩ := k_enter hv
  have C : CallFix p m c cX12_runs 4 s _ gG RX12 := ⟨B.exec, B.bytes, hml, findClass_of_methodNamed B.named, fun w h => atoms_spec (ws := Cond.code yX12_runs cX12_runs 4 none :: gG) B.pre w (List.mem_cons_of_mem _ h)⟩
  have hr := B.returns
  have hlk := B.notSynchronized
  generalize va_A [(h0, .inr (12, [.ref h1, .ref h2, .ref h3, .ref h4, .int 0, .int 0, .ref h5, .int 0, .int 0, .int 0, .int 0, .int 0, .int 0, .int 0, .int 0, .int 0, .int 0, .int 0, .int 0, .int 0, .int (-1), .int 0, .int 0, .int 0, .ref h6, .ref h7, .ref h8, .ref h9, .ref h10, .ref h11, .int 0, .int 0, .int 0, .int 0, .ref h12, .ref h13, .ref h14, .int 0, .int 0, .int 0, .int 0, .ref h15, .ref h16, .int 0, .ref h17, .ref h18, .int 0, .ref h19, .int 0, .ref h20, .ref h21, .ref h22, .int 0, .ref h23, .ref h24, .ref h25])), (h10, .inl (a9, 6, .inl (fun _ => 0)))] s.heap.size = A at Wd ⊢
  refine k_locals (Nat.le_of_ble_eq_true rfl) [(0, .ref h0), (1, .int x0), (2, .int x1)] rfl (fun ls hl => ?_)
  refine lv_iconst (v := 0) C.1 C.2.1 dX12_runs_0 (by decide) ?_
  refine lv_istore_n (lv' := [(3, .int 0), (0, .ref h0), (1, .int x0), (2, .int x1)]) C.1 C.2.1 dX12_runs_1 rfl hl (by decide) rfl (fun ls hl => ?_)
  refine lv_iload_n C.1 C.2.1 dX12_runs_2 rfl (lv_at hl 0 rfl) ?_
  refine lv_bipush (v := 6) C.1 C.2.1 dX12_runs_3 (by decide) ?_
  refine lv_icmp_ge (tgt := 38) C.1 C.2.1 dX12_runs_5 (by decide) (fun c4432 => absurd c4432 (by decide)) (fun _ => ?_)
  refine lv_aload_n C.1 C.2.1 dX12_runs_8 rfl (lv_at hl 1 rfl) ?_
  refine k_get C Wd KX12 0 28 rfl (by decide) fl_X12_41 rfl dX12_runs_9 ?_
  refine lv_iload_n C.1 C.2.1 dX12_runs_12 rfl (lv_at hl 0 rfl) ?_
  refine lv_iload_n C.1 C.2.1 dX12_runs_13 rfl (lv_at hl 0 rfl) ?_
  refine lv_if_ne (tgt := 21) C.1 C.2.1 dX12_runs_14 (by decide) (fun c4433 => absurd c4433 (by decide)) (fun _ => ?_)
  refine lv_iload_n C.1 C.2.1 dX12_runs_17 rfl (lv_at hl 2 rfl) ?_
  refine lv_goto (tgt := 31) C.1 C.2.1 dX12_runs_18 (by decide) ?_
  refine k_iast C Wd 1 0 [(h0, .inr (12, [.ref h1, .ref h2, .ref h3, .ref h4, .int 0, .int 0, .ref h5, .int 0, .int 0, .int 0, .int 0, .int 0, .int 0, .int 0, .int 0, .int 0, .int 0, .int 0, .int 0, .int 0, .int (-1), .int 0, .int 0, .int 0, .ref h6, .ref h7, .ref h8, .ref h9, .ref h10, .ref h11, .int 0, .int 0, .int 0, .int 0, .ref h12, .ref h13, .ref h14, .int 0, .int 0, .int 0, .int 0, .ref h15, .ref h16, .int 0, .ref h17, .ref h18, .int 0, .ref h19, .int 0, .ref h20, .ref h21, .ref h22, .int 0, .ref h23, .ref h24, .ref h25])), (h10, .inl (a9, 6, .inl (upd (fun _ => 0) 0 x0)))] rfl rfl (vp_in_iff.mpr (by decide)) rfl rfl dX12_runs_31 (fun H locs Wd => ?_)
  refine lv_iinc (v := 1) (lv' := [(3, .int 1), (0, .ref h0), (1, .int x0), (2, .int x1)]) C.1 C.2.1 dX12_runs_32 hl (k := 0) rfl (by decide) (by decide) rfl (fun ls hl => ?_)
  refine lv_goto (tgt := 2) C.1 C.2.1 dX12_runs_35 (by decide) ?_
  refine lv_iload_n C.1 C.2.1 dX12_runs_2 rfl (lv_at hl 0 rfl) ?_
  refine lv_bipush (v := 6) C.1 C.2.1 dX12_runs_3 (by decide) ?_
  refine lv_icmp_ge (tgt := 38) C.1 C.2.1 dX12_runs_5 (by decide) (fun c4434 => absurd c4434 (by decide)) (fun _ => ?_)
  refine lv_aload_n C.1 C.2.1 dX12_runs_8 rfl (lv_at hl 1 rfl) ?_
  refine k_get C Wd KX12 0 28 rfl (by decide) fl_X12_41 rfl dX12_runs_9 ?_
  refine lv_iload_n C.1 C.2.1 dX12_runs_12 rfl (lv_at hl 0 rfl) ?_
  refine lv_iload_n C.1 C.2.1 dX12_runs_13 rfl (lv_at hl 0 rfl) ?_
  refine lv_if_ne (tgt := 21) C.1 C.2.1 dX12_runs_14 (by decide) (fun _ => ?_) (fun c4435 => absurd c4435 (by decide))
  refine lv_iload_n C.1 C.2.1 dX12_runs_21 rfl (lv_at hl 0 rfl) ?_
  refine lv_iconst (v := 1) C.1 C.2.1 dX12_runs_22 (by decide) ?_
  refine lv_icmp_ne (tgt := 30) C.1 C.2.1 dX12_runs_23 (by decide) (fun c4436 => absurd c4436 (by decide)) (fun _ => ?_)
  refine lv_iload_n C.1 C.2.1 dX12_runs_26 rfl (lv_at hl 3 rfl) ?_
  refine lv_goto (tgt := 31) C.1 C.2.1 dX12_runs_27 (by decide) ?_
  refine k_iast C Wd 1 0 [(h0, .inr (12, [.ref h1, .ref h2, .ref h3, .ref h4, .int 0, .int 0, .ref h5, .int 0, .int 0, .int 0, .int 0, .int 0, .int 0, .int 0, .int 0, .int 0, .int 0, .int 0, .int 0, .int 0, .int (-1), .int 0, .int 0, .int 0, .ref h6, .ref h7, .ref h8, .ref h9, .ref h10, .ref h11, .int 0, .int 0, .int 0, .int 0, .ref h12, .ref h13, .ref h14, .int 0, .int 0, .int 0, .int 0, .ref h15, .ref h16, .int 0, .ref h17, .ref h18, .int 0, .ref h19, .int 0, .ref h20, .ref h21, .ref h22, .int 0, .ref h23, .ref h24, .ref h25])), (h10, .inl (a9, 6, .inl (upd (upd (fun _ => 0) 0 x0) 1 x1)))] rfl rfl (vp_in_iff.mpr (by decide)) rfl rfl dX12_runs_31 (fun H locs Wd => ?_)
  refine lv_iinc (v := 2) (lv' := [(3, .int 2), (0, .ref h0), (1, .int x0), (2, .int x1)]) C.1 C.2.1 dX12_runs_32 hl (k := 0) rfl (by decide) (by decide) rfl (fun ls hl => ?_)
  refine lv_goto (tgt := 2) C.1 C.2.1 dX12_runs_35 (by decide) ?_
  refine lv_iload_n C.1 C.2.1 dX12_runs_2 rfl (lv_at hl 0 rfl) ?_
  refine lv_bipush (v := 6) C.1 C.2.1 dX12_runs_3 (by decide) ?_
  refine lv_icmp_ge (tgt := 38) C.1 C.2.1 dX12_runs_5 (by decide) (fun c4437 => absurd c4437 (by decide)) (fun _ => ?_)
  refine lv_aload_n C.1 C.2.1 dX12_runs_8 rfl (lv_at hl 1 rfl) ?_
  refine k_get C Wd KX12 0 28 rfl (by decide) fl_X12_41 rfl dX12_runs_9 ?_
  refine lv_iload_n C.1 C.2.1 dX12_runs_12 rfl (lv_at hl 0 rfl) ?_
  refine lv_iload_n C.1 C.2.1 dX12_runs_13 rfl (lv_at hl 0 rfl) ?_
  refine lv_if_ne (tgt := 21) C.1 C.2.1 dX12_runs_14 (by decide) (fun _ => ?_) (fun c4438 => absurd c4438 (by decide))
  refine lv_iload_n C.1 C.2.1 dX12_runs_21 rfl (lv_at hl 0 rfl) ?_
  refine lv_iconst (v := 1) C.1 C.2.1 dX12_runs_22 (by decide) ?_
  refine lv_icmp_ne (tgt := 30) C.1 C.2.1 dX12_runs_23 (by decide) (fun _ => ?_) (fun c4439 => absurd c4439 (by decide))
  refine lv_iconst (v := 0) C.1 C.2.1 dX12_runs_30 (by decide) ?_
  refine k_iast C Wd 1 0 [(h0, .inr (12, [.ref h1, .ref h2, .ref h3, .ref h4, .int 0, .int 0, .ref h5, .int 0, .int 0, .int 0, .int 0, .int 0, .int 0, .int 0, .int 0, .int 0, .int 0, .int 0, .int 0, .int 0, .int (-1), .int 0, .int 0, .int 0, .ref h6, .ref h7, .ref h8, .ref h9, .ref h10, .ref h11, .int 0, .int 0, .int 0, .int 0, .ref h12, .ref h13, .ref h14, .int 0, .int 0, .int 0, .int 0, .ref h15, .ref h16, .int 0, .ref h17, .ref h18, .int 0, .ref h19, .int 0, .ref h20, .ref h21, .ref h22, .int 0, .ref h23, .ref h24, .ref h25])), (h10, .inl (a9, 6, .inl (upd (upd (upd (fun _ => 0) 0 x0) 1 x1) 2 0)))] rfl rfl (vp_in_iff.mpr (by decide)) rfl rfl dX12_runs_31 (fun H locs Wd => ?_)
  refine lv_iinc (v := 3) (lv' := [(3, .int 3), (0, .ref h0), (1, .int x0), (2, .int x1)]) C.1 C.2.1 dX12_runs_32 hl (k := 0) rfl (by decide) (by decide) rfl (fun ls hl => ?_)
  refine lv_goto (tgt := 2) C.1 C.2.1 dX12_runs_35 (by decide) ?_
  refine lv_iload_n C.1 C.2.1 dX12_runs_2 rfl (lv_at hl 0 rfl) ?_
  refine lv_bipush (v := 6) C.1 C.2.1 dX12_runs_3 (by decide) ?_
  refine lv_icmp_ge (tgt := 38) C.1 C.2.1 dX12_runs_5 (by decide) (fun c4440 => absurd c4440 (by decide)) (fun _ => ?_)
  refine lv_aload_n C.1 C.2.1 dX12_runs_8 rfl (lv_at hl 1 rfl) ?_
  refine k_get C Wd KX12 0 28 rfl (by decide) fl_X12_41 rfl dX12_runs_9 ?_
  refine lv_iload_n C.1 C.2.1 dX12_runs_12 rfl (lv_at hl 0 rfl) ?_
  refine lv_iload_n C.1 C.2.1 dX12_runs_13 rfl (lv_at hl 0 rfl) ?_
  refine lv_if_ne (tgt := 21) C.1 C.2.1 dX12_runs_14 (by decide) (fun _ => ?_) (fun c4441 => absurd c4441 (by decide))
  refine lv_iload_n C.1 C.2.1 dX12_runs_21 rfl (lv_at hl 0 rfl) ?_
  refine lv_iconst (v := 1) C.1 C.2.1 dX12_runs_22 (by decide) ?_
  refine lv_icmp_ne (tgt := 30) C.1 C.2.1 dX12_runs_23 (by decide) (fun _ => ?_) (fun c4442 => absurd c4442 (by decide))
  refine lv_iconst (v := 0) C.1 C.2.1 dX12_runs_30 (by decide) ?_
  refine k_iast C Wd 1 0 [(h0, .inr (12, [.ref h1, .ref h2, .ref h3, .ref h4, .int 0, .int 0, .ref h5, .int 0, .int 0, .int 0, .int 0, .int 0, .int 0, .int 0, .int 0, .int 0, .int 0, .int 0, .int 0, .int 0, .int (-1), .int 0, .int 0, .int 0, .ref h6, .ref h7, .ref h8, .ref h9, .ref h10, .ref h11, .int 0, .int 0, .int 0, .int 0, .ref h12, .ref h13, .ref h14, .int 0, .int 0, .int 0, .int 0, .ref h15, .ref h16, .int 0, .ref h17, .ref h18, .int 0, .ref h19, .int 0, .ref h20, .ref h21, .ref h22, .int 0, .ref h23, .ref h24, .ref h25])), (h10, .inl (a9, 6, .inl (upd (upd (upd (upd (fun _ => 0) 0 x0) 1 x1) 2 0) 3 0)))] rfl rfl (vp_in_iff.mpr (by decide)) rfl rfl dX12_runs_31 (fun H locs Wd => ?_)
  refine lv_iinc (v := 4) (lv' := [(3, .int 4), (0, .ref h0), (1, .int x0), (2, .int x1)]) C.1 C.2.1 dX12_runs_32 hl (k := 0) rfl (by decide) (by decide) rfl (fun ls hl => ?_)
  refine lv_goto (tgt := 2) C.1 C.2.1 dX12_runs_35 (by decide) ?_
  refine lv_iload_n C.1 C.2.1 dX12_runs_2 rfl (lv_at hl 0 rfl) ?_
  refine lv_bipush (v := 6) C.1 C.2.1 dX12_runs_3 (by decide) ?_
  refine lv_icmp_ge (tgt := 38) C.1 C.2.1 dX12_runs_5 (by decide) (fun c4443 => absurd c4443 (by decide)) (fun _ => ?_)
  refine lv_aload_n C.1 C.2.1 dX12_runs_8 rfl (lv_at hl 1 rfl) ?_
  refine k_get C Wd KX12 0 28 rfl (by decide) fl_X12_41 rfl dX12_runs_9 ?_
  refine lv_iload_n C.1 C.2.1 dX12_runs_12 rfl (lv_at hl 0 rfl) ?_
  refine lv_iload_n C.1 C.2.1 dX12_runs_13 rfl (lv_at hl 0 rfl) ?_
  refine lv_if_ne (tgt := 21) C.1 C.2.1 dX12_runs_14 (by decide) (fun _ => ?_) (fun c4444 => absurd c4444 (by decide))
  refine lv_iload_n C.1 C.2.1 dX12_runs_21 rfl (lv_at hl 0 rfl) ?_
  refine lv_iconst (v := 1) C.1 C.2.1 dX12_runs_22 (by decide) ?_
  refine lv_icmp_ne (tgt := 30) C.1 C.2.1 dX12_runs_23 (by decide) (fun _ => ?_) (fun c4445 => absurd c4445 (by decide))
  refine lv_iconst (v := 0) C.1 C.2.1 dX12_runs_30 (by decide) ?_
  refine k_iast C Wd 1 0 [(h0, .inr (12, [.ref h1, .ref h2, .ref h3, .ref h4, .int 0, .int 0, .ref h5, .int 0, .int 0, .int 0, .int 0, .int 0, .int 0, .int 0, .int 0, .int 0, .int 0, .int 0, .int 0, .int 0, .int (-1), .int 0, .int 0, .int 0, .ref h6, .ref h7, .ref h8, .ref h9, .ref h10, .ref h11, .int 0, .int 0, .int 0, .int 0, .ref h12, .ref h13, .ref h14, .int 0, .int 0, .int 0, .int 0, .ref h15, .ref h16, .int 0, .ref h17, .ref h18, .int 0, .ref h19, .int 0, .ref h20, .ref h21, .ref h22, .int 0, .ref h23, .ref h24, .ref h25])), (h10, .inl (a9, 6, .inl (upd (upd (upd (upd (upd (fun _ => 0) 0 x0) 1 x1) 2 0) 3 0) 4 0)))] rfl rfl (vp_in_iff.mpr (by decide)) rfl rfl dX12_runs_31 (fun H locs Wd => ?_)
  refine lv_iinc (v := 5) (lv' := [(3, .int 5), (0, .ref h0), (1, .int x0), (2, .int x1)]) C.1 C.2.1 dX12_runs_32 hl (k := 0) rfl (by decide) (by decide) rfl (fun ls hl => ?_)
  refine lv_goto (tgt := 2) C.1 C.2.1 dX12_runs_35 (by decide) ?_
  refine lv_iload_n C.1 C.2.1 dX12_runs_2 rfl (lv_at hl 0 rfl) ?_
  refine lv_bipush (v := 6) C.1 C.2.1 dX12_runs_3 (by decide) ?_
  refine lv_icmp_ge (tgt := 38) C.1 C.2.1 dX12_runs_5 (by decide) (fun c4446 => absurd c4446 (by decide)) (fun _ => ?_)
  refine lv_aload_n C.1 C.2.1 dX12_runs_8 rfl (lv_at hl 1 rfl) ?_
  refine k_get C Wd KX12 0 28 rfl (by decide) fl_X12_41 rfl dX12_runs_9 ?_
  refine lv_iload_n C.1 C.2.1 dX12_runs_12 rfl (lv_at hl 0 rfl) ?_
  refine lv_iload_n C.1 C.2.1 dX12_runs_13 rfl (lv_at hl 0 rfl) ?_
  refine lv_if_ne (tgt := 21) C.1 C.2.1 dX12_runs_14 (by decide) (fun _ => ?_) (fun c4447 => absurd c4447 (by decide))
  refine lv_iload_n C.1 C.2.1 dX12_runs_21 rfl (lv_at hl 0 rfl) ?_
  refine lv_iconst (v := 1) C.1 C.2.1 dX12_runs_22 (by decide) ?_
  refine lv_icmp_ne (tgt := 30) C.1 C.2.1 dX12_runs_23 (by decide) (fun _ => ?_) (fun c4448 => absurd c4448 (by decide))
  refine lv_iconst (v := 0) C.1 C.2.1 dX12_runs_30 (by decide) ?_
  refine k_iast C Wd 1 0 [(h0, .inr (12, [.ref h1, .ref h2, .ref h3, .ref h4, .int 0, .int 0, .ref h5, .int 0, .int 0, .int 0, .int 0, .int 0, .int 0, .int 0, .int 0, .int 0, .int 0, .int 0, .int 0, .int 0, .int (-1), .int 0, .int 0, .int 0, .ref h6, .ref h7, .ref h8, .ref h9, .ref h10, .ref h11, .int 0, .int 0, .int 0, .int 0, .ref h12, .ref h13, .ref h14, .int 0, .int 0, .int 0, .int 0, .ref h15, .ref h16, .int 0, .ref h17, .ref h18, .int 0, .ref h19, .int 0, .ref h20, .ref h21, .ref h22, .int 0, .ref h23, .ref h24, .ref h25])), (h10, .inl (a9, 6, .inl (upd (upd (upd (upd (upd (upd (fun _ => 0) 0 x0) 1 x1) 2 0) 3 0) 4 0) 5 0)))] rfl rfl (vp_in_iff.mpr (by decide)) rfl rfl dX12_runs_31 (fun H locs Wd => ?_)
  refine lv_iinc (v := 6) (lv' := [(3, .int 6), (0, .ref h0), (1, .int x0), (2, .int x1)]) C.1 C.2.1 dX12_runs_32 hl (k := 0) rfl (by decide) (by decide) rfl (fun ls hl => ?_)
  refine lv_goto (tgt := 2) C.1 C.2.1 dX12_runs_35 (by decide) ?_
  refine lv_iload_n C.1 C.2.1 dX12_runs_2 rfl (lv_at hl 0 rfl) ?_
  refine lv_bipush (v := 6) C.1 C.2.1 dX12_runs_3 (by decide) ?_
  refine lv_icmp_ge (tgt := 38) C.1 C.2.1 dX12_runs_5 (by decide) (fun _ => ?_) (fun c4449 => absurd c4449 (by decide))
  refine lv_aload_n C.1 C.2.1 dX12_runs_38 rfl (lv_at hl 1 rfl) ?_
  refine lv_iconst (v := 0) C.1 C.2.1 dX12_runs_39 (by decide) ?_
  refine k_put C Wd KX12 0 30 [(h0, .inr (12, [.ref h1, .ref h2, .ref h3, .ref h4, .int 0, .int 0, .ref h5, .int 0, .int 0, .int 0, .int 0, .int 0, .int 0, .int 0, .int 0, .int 0, .int 0, .int 0, .int 0, .int 0, .int (-1), .int 0, .int 0, .int 0, .ref h6, .ref h7, .ref h8, .ref h9, .ref h10, .ref h11, .int 0, .int 0, .int 0, .int 0, .ref h12, .ref h13, .ref h14, .int 0, .int 0, .int 0, .int 0, .ref h15, .ref h16, .int 0, .ref h17, .ref h18, .int 0, .ref h19, .int 0, .ref h20, .ref h21, .ref h22, .int 0, .ref h23, .ref h24, .ref h25])), (h10, .inl (a9, 6, .inl (upd (upd (upd (upd (upd (upd (fun _ => 0) 0 x0) 1 x1) 2 0) 3 0) 4 0) 5 0)))] rfl (by decide) fl_X12_291 rfl rfl rfl (Nat.le_of_ble_eq_true rfl) rfl dX12_runs_40 (fun H locs Wd => ?_)
  refine lv_aload_n C.1 C.2.1 dX12_runs_43 rfl (lv_at hl 1 rfl) ?_
  refine lv_iconst (v := 0) C.1 C.2.1 dX12_runs_44 (by decide) ?_
  refine k_put C Wd KX12 0 31 [(h0, .inr (12, [.ref h1, .ref h2, .ref h3, .ref h4, .int 0, .int 0, .ref h5, .int 0, .int 0, .int 0, .int 0, .int 0, .int 0, .int 0, .int 0, .int 0, .int 0, .int 0, .int 0, .int 0, .int (-1), .int 0, .int 0, .int 0, .ref h6, .ref h7, .ref h8, .ref h9, .ref h10, .ref h11, .int 0, .int 0, .int 0, .int 0, .ref h12, .ref h13, .ref h14, .int 0, .int 0, .int 0, .int 0, .ref h15, .ref h16, .int 0, .ref h17, .ref h18, .int 0, .ref h19, .int 0, .ref h20, .ref h21, .ref h22, .int 0, .ref h23, .ref h24, .ref h25])), (h10, .inl (a9, 6, .inl (upd (upd (upd (upd (upd (upd (fun _ => 0) 0 x0) 1 x1) 2 0) 3 0) 4 0) 5 0)))] rfl (by decide) fl_X12_294 rfl rfl rfl (Nat.le_of_ble_eq_true rfl) rfl dX12_runs_45 (fun H locs Wd => ?_)
  refine lv_aload_n C.1 C.2.1 dX12_runs_48 rfl (lv_at hl 1 rfl) ?_
  refine lv_iconst (v := 0) C.1 C.2.1 dX12_runs_49 (by decide) ?_
  refine k_put C Wd KX12 0 32 [(h0, .inr (12, [.ref h1, .ref h2, .ref h3, .ref h4, .int 0, .int 0, .ref h5, .int 0, .int 0, .int 0, .int 0, .int 0, .int 0, .int 0, .int 0, .int 0, .int 0, .int 0, .int 0, .int 0, .int (-1), .int 0, .int 0, .int 0, .ref h6, .ref h7, .ref h8, .ref h9, .ref h10, .ref h11, .int 0, .int 0, .int 0, .int 0, .ref h12, .ref h13, .ref h14, .int 0, .int 0, .int 0, .int 0, .ref h15, .ref h16, .int 0, .ref h17, .ref h18, .int 0, .ref h19, .int 0, .ref h20, .ref h21, .ref h22, .int 0, .ref h23, .ref h24, .ref h25])), (h10, .inl (a9, 6, .inl (upd (upd (upd (upd (upd (upd (fun _ => 0) 0 x0) 1 x1) 2 0) 3 0) 4 0) 5 0)))] rfl (by decide) fl_X12_312 rfl rfl rfl (Nat.le_of_ble_eq_true rfl) rfl dX12_runs_50 (fun H locs Wd => ?_)
  refine lv_aload_n C.1 C.2.1 dX12_runs_53 rfl (lv_at hl 1 rfl) ?_
  refine lv_iconst (v := 0) C.1 C.2.1 dX12_runs_54 (by decide) ?_
  refine k_pi (k_runV (rest := []) C aks Wd cs_X12_306 (kcX12_does l D h0 h1 h2 h3 h4 h5 h6 h7 h8 h9 h10 h11 h12 h13 h14 h15 h16 h17 h18 h19 h20 h21 h22 h23 h24 h25 _ ) [0] rfl (by decide) [] rfl 0 12 rfl rfl rfl rfl rfl ⟨(Nat.le_of_ble_eq_true rfl), (Nat.le_of_ble_eq_true rfl)⟩ hl.1 rfl rfl (Nat.le_of_ble_eq_true rfl) ⟨(Nat.le_of_ble_eq_true rfl), (Nat.le_of_ble_eq_true rfl)⟩ dX12_runs_55) (fun r w4450 => ?_)
  obtain rfl := w4450
  refine lv_pop C.1 C.2.1 dX12_runs_58 rfl ?_
  exact k_vret C hr hlk Wd () trivial [0, 1] rfl (by decide) [] rfl (by decide) (by decide) dX12_runs_59
set_option maxHeartbeats 4000000 in
set_option maxRecDepth 100000 in
theorem kcX12_run (l : Launch) (D : va_G) (h0 h1 h2 h3 h4 h5 h6 h7 h8 h9 h10 h11 h12 h13 h14 h15 h16 h17 h18 h19 h20 h21 h22 h23 h24 h25 : Nat) (x0 x1 x2 x3 : Int32) (a1 a9 : ClassId) (sz : Nat)  : Met l yX12_run (Cond.code yX12_run cX12_run 5 (some .int) :: gG) { frames := 4, cells := 0, slots := 0, locals := 130 } (cPre D [(a1, .int), (a9, .int)] [(h0, .inr (12, [.ref h1, .ref h2, .ref h3, .ref h4, .int 0, .int 0, .ref h5, .int 0, .int 0, .int 0, .int 0, .int 0, .int 0, .int 0, .int 0, .int 0, .int 0, .int 0, .int 0, .int 0, .int (-1), .int 0, .int 0, .int 0, .ref h6, .ref h7, .ref h8, .ref h9, .ref h10, .ref h11, .int 0, .int 0, .int 0, .int 0, .ref h12, .ref h13, .ref h14, .int 0, .int 0, .int 0, .int 0, .ref h15, .ref h16, .int 0, .ref h17, .ref h18, .int 0, .ref h19, .int 0, .ref h20, .ref h21, .ref h22, .int 0, .ref h23, .ref h24, .ref h25])), (h2, .inl (a1, 6, .inl (fun _ => 0))), (h10, .inl (a9, 6, .inl (fun _ => 0)))] sz [.ref h0, .int x0, .int x1, .int x2, .int x3]) (va_Qi (fun (r : Int32) (_ : Unit) => (x0 < (0 : Int32) ∧ r = (-1)) ∨ (¬ x0 < (0 : Int32) ∧ (5 : Int32) < x0 ∧ r = (-1)) ∨ (¬ x0 < (0 : Int32) ∧ ¬ (5 : Int32) < x0 ∧ x1 < (0 : Int32) ∧ r = (-1)) ∨ (¬ x0 < (0 : Int32) ∧ ¬ (5 : Int32) < x0 ∧ ¬ x1 < (0 : Int32) ∧ (15 : Int32) < x1 ∧ r = (-1)) ∨ (¬ x0 < (0 : Int32) ∧ ¬ (5 : Int32) < x0 ∧ ¬ x1 < (0 : Int32) ∧ ¬ (15 : Int32) < x1 ∧ x2 < (0 : Int32) ∧ r = (-1)) ∨ (¬ x0 < (0 : Int32) ∧ ¬ (5 : Int32) < x0 ∧ ¬ x1 < (0 : Int32) ∧ ¬ (15 : Int32) < x1 ∧ ¬ x2 < (0 : Int32) ∧ (15 : Int32) < x2 ∧ r = (-1)) ∨ (¬ x0 < (0 : Int32) ∧ ¬ (5 : Int32) < x0 ∧ ¬ x1 < (0 : Int32) ∧ ¬ (15 : Int32) < x1 ∧ ¬ x2 < (0 : Int32) ∧ ¬ (15 : Int32) < x2 ∧ x3 < (10 : Int32) ∧ x3 < (100 : Int32) ∧ ¬ x3 = (0 : Int32) ∧ ¬ x3 = (1 : Int32) ∧ ¬ x3 = (2 : Int32) ∧ r = (-1)) ∨ (¬ x0 < (0 : Int32) ∧ ¬ (5 : Int32) < x0 ∧ ¬ x1 < (0 : Int32) ∧ ¬ (15 : Int32) < x1 ∧ ¬ x2 < (0 : Int32) ∧ ¬ (15 : Int32) < x2 ∧ x3 < (10 : Int32) ∧ x3 < (100 : Int32) ∧ ¬ x3 = (0 : Int32) ∧ ¬ x3 = (1 : Int32) ∧ x3 = (2 : Int32) ∧ r = 0) ∨ (¬ x0 < (0 : Int32) ∧ ¬ (5 : Int32) < x0 ∧ ¬ x1 < (0 : Int32) ∧ ¬ (15 : Int32) < x1 ∧ ¬ x2 < (0 : Int32) ∧ ¬ (15 : Int32) < x2 ∧ x3 < (10 : Int32) ∧ x3 < (100 : Int32) ∧ ¬ x3 = (0 : Int32) ∧ x3 = (1 : Int32) ∧ r = 0) ∨ (¬ x0 < (0 : Int32) ∧ ¬ (5 : Int32) < x0 ∧ ¬ x1 < (0 : Int32) ∧ ¬ (15 : Int32) < x1 ∧ ¬ x2 < (0 : Int32) ∧ ¬ (15 : Int32) < x2 ∧ x3 < (10 : Int32) ∧ x3 < (100 : Int32) ∧ x3 = (0 : Int32) ∧ r = 0) ∨ (¬ x0 < (0 : Int32) ∧ ¬ (5 : Int32) < x0 ∧ ¬ x1 < (0 : Int32) ∧ ¬ (15 : Int32) < x1 ∧ ¬ x2 < (0 : Int32) ∧ ¬ (15 : Int32) < x2 ∧ ¬ x3 < (10 : Int32) ∧ (15 : Int32) < x3 ∧ x3 < (100 : Int32) ∧ r = (-1)) ∨ (¬ x0 < (0 : Int32) ∧ ¬ (5 : Int32) < x0 ∧ ¬ x1 < (0 : Int32) ∧ ¬ (15 : Int32) < x1 ∧ ¬ x2 < (0 : Int32) ∧ ¬ (15 : Int32) < x2 ∧ ¬ x3 < (10 : Int32) ∧ (15 : Int32) < x3 ∧ ¬ x3 < (100 : Int32) ∧ (99 : Int32) < x3 ∧ r = (-1)) ∨ (¬ x0 < (0 : Int32) ∧ ¬ (5 : Int32) < x0 ∧ ¬ x1 < (0 : Int32) ∧ ¬ (15 : Int32) < x1 ∧ ¬ x2 < (0 : Int32) ∧ ¬ (15 : Int32) < x2 ∧ ¬ x3 < (10 : Int32) ∧ ¬ (15 : Int32) < x3 ∧ r = ((upd (upd (upd (upd (upd (upd (fun _ => 0) 0 x1) 1 x2) 2 0) 3 0) 4 0) 5 0) (x3 - 10).toNatClampNeg))) (fun u t => cB D (va_A [(h0, .inr (12, [.ref h1, .ref h2, .ref h3, .ref h4, .int 0, .int 0, .ref h5, .int 0, .int 0, .int 0, .int 0, .int 0, .int 0, .int 0, .int 0, .int 0, .int 0, .int 0, .int 0, .int 0, .int (-1), .int 0, .int 0, .int 0, .ref h6, .ref h7, .ref h8, .ref h9, .ref h10, .ref h11, .int 0, .int 0, .int 0, .int 0, .ref h12, .ref h13, .ref h14, .int 0, .int 0, .int 0, .int 0, .ref h15, .ref h16, .int 0, .ref h17, .ref h18, .int 0, .ref h19, .int 0, .ref h20, .ref h21, .ref h22, .int 0, .ref h23, .ref h24, .ref h25])), (h2, .inl (a1, 6, .inl (fun _ => 0))), (h10, .inl (a9, 6, .inl (fun _ => 0)))] sz) ((fun (_ : Unit) => ([] : List (ClassId × FieldType))) u) ((fun (_ : Unit) => ([] : va_W)) u) t) (va_A [(h0, .inr (12, [.ref h1, .ref h2, .ref h3, .ref h4, .int 0, .int 0, .ref h5, .int 0, .int 0, .int 0, .int 0, .int 0, .int 0, .int 0, .int 0, .int 0, .int 0, .int 0, .int 0, .int 0, .int (-1), .int 0, .int 0, .int 0, .ref h6, .ref h7, .ref h8, .ref h9, .ref h10, .ref h11, .int 0, .int 0, .int 0, .int 0, .ref h12, .ref h13, .ref h14, .int 0, .int 0, .int 0, .int 0, .ref h15, .ref h16, .int 0, .ref h17, .ref h18, .int 0, .ref h19, .int 0, .ref h20, .ref h21, .ref h22, .int 0, .ref h23, .ref h24, .ref h25])), (h2, .inl (a1, 6, .inl (fun _ => 0))), (h10, .inl (a9, 6, .inl (fun _ => 0)))] sz)) 0 0 (va_A [(h0, .inr (12, [.ref h1, .ref h2, .ref h3, .ref h4, .int 0, .int 0, .ref h5, .int 0, .int 0, .int 0, .int 0, .int 0, .int 0, .int 0, .int 0, .int 0, .int 0, .int 0, .int 0, .int 0, .int (-1), .int 0, .int 0, .int 0, .ref h6, .ref h7, .ref h8, .ref h9, .ref h10, .ref h11, .int 0, .int 0, .int 0, .int 0, .ref h12, .ref h13, .ref h14, .int 0, .int 0, .int 0, .int 0, .ref h15, .ref h16, .int 0, .ref h17, .ref h18, .int 0, .ref h19, .int 0, .ref h20, .ref h21, .ref h22, .int 0, .ref h23, .ref h24, .ref h25])), (h2, .inl (a1, 6, .inl (fun _ => 0))), (h10, .inl (a9, 6, .inl (fun _ => 0)))] sz) := by
  refine Met.ofW (cc := cX12_run) (maxL := 5) (ret := (some .int)) (by decide) rfl ?_
  intro p e s m args below meth c s₁ B hml hv
  obtain ⟨rfl, aks, rfl, Wd⟩ := k_enter hv
  have C : CallFix p m c cX12_run 5 s _ gG RX12 := ⟨B.exec, B.bytes, hml, findClass_of_methodNamed B.named, fun w h => atoms_spec (ws := Cond.code yX12_run cX12_run 5 (some .int) :: gG) B.pre w (List.mem_cons_of_mem _ h)⟩
  have hr := B.returns
  have hlk := B.notSynchronized
  generalize va_A [(h0, .inr (12, [.ref h1, .ref h2, .ref h3, .ref h4, .int 0, .int 0, .ref h5, .int 0, .int 0, .int 0, .int 0, .int 0, .int 0, .int 0, .int 0, .int 0, .int 0, .int 0, .int 0, .int 0, .int (-1), .int 0, .int 0, .int 0, .ref h6, .ref h7, .ref h8, .ref h9, .ref h10, .ref h11, .int 0, .int 0, .int 0, .int 0, .ref h12, .ref h13, .ref h14, .int 0, .int 0, .int 0, .int 0, .ref h15, .ref h16, .int 0, .ref h17, .ref h18, .int 0, .ref h19, .int 0, .ref h20, .ref h21, .ref h22, .int 0, .ref h23, .ref h24, .ref h25])), (h2, .inl (a1, 6, .inl (fun _ => 0))), (h10, .inl (a9, 6, .inl (fun _ => 0)))] s.heap.size = A at Wd ⊢
  refine k_locals (Nat.le_of_ble_eq_true rfl) [(0, .ref h0), (1, .int x0), (2, .int x1), (3, .int x2), (4, .int x3)] rfl (fun ls hl => ?_)
  refine lv_iload_n C.1 C.2.1 dX12_run_0 rfl (lv_at hl 1 rfl) ?_
  refine k_pi (k_runS (rest := []) C aks Wd cs_X12_249 (kcX12_isSlot l D x0 _ ) [] rfl (by decide) [] rfl rfl rfl ⟨(Nat.le_of_ble_eq_true rfl), (Nat.le_of_ble_eq_true rfl)⟩ hl.1 rfl rfl (Nat.le_of_ble_eq_true rfl) ⟨(Nat.le_of_ble_eq_true rfl), (Nat.le_of_ble_eq_true rfl)⟩ dX12_run_1) (fun r w4485 => ?_)
  rcases w4485 with ⟨c4486, rfl⟩ | ⟨c4487, c4488, rfl⟩ | ⟨c4489, c4490, rfl⟩
  · refine lv_if_eq (tgt := 27) C.1 C.2.1 dX12_run_4 (by decide) (fun _ => ?_) (fun c4491 => absurd c4491 (by decide))
    refine lv_iconst (v := (-1)) C.1 C.2.1 dX12_run_27 (by decide) ?_
    exact k_zret C hr hlk rfl Wd () (Or.inl (⟨c4486, rfl⟩)) [] rfl (by decide) [] rfl (by decide) (by decide) dX12_run_28
  · refine lv_if_eq (tgt := 27) C.1 C.2.1 dX12_run_4 (by decide) (fun _ => ?_) (fun c4492 => absurd c4492 (by decide))
    refine lv_iconst (v := (-1)) C.1 C.2.1 dX12_run_27 (by decide) ?_
    exact k_zret C hr hlk rfl Wd () (Or.inr (Or.inl (⟨c4487, c4488, rfl⟩))) [] rfl (by decide) [] rfl (by decide) (by decide) dX12_run_28
  · refine lv_if_eq (tgt := 27) C.1 C.2.1 dX12_run_4 (by decide) (fun c4493 => absurd c4493 (by decide)) (fun _ => ?_)
    refine lv_iload_n C.1 C.2.1 dX12_run_7 rfl (lv_at hl 2 rfl) ?_
    refine lv_iconst (v := 0) C.1 C.2.1 dX12_run_8 (by decide) ?_
    refine lv_bipush (v := 15) C.1 C.2.1 dX12_run_9 (by decide) ?_
    refine k_pi (k_runS (rest := []) C aks Wd cs_X12_90 (kcX12_isIn l D x1 0 15 _ ) [] rfl (by decide) [] rfl rfl rfl ⟨(Nat.le_of_ble_eq_true rfl), (Nat.le_of_ble_eq_true rfl)⟩ hl.1 rfl rfl (Nat.le_of_ble_eq_true rfl) ⟨(Nat.le_of_ble_eq_true rfl), (Nat.le_of_ble_eq_true rfl)⟩ dX12_run_11) (fun r w4494 => ?_)
    rcases w4494 with ⟨c4495, rfl⟩ | ⟨c4496, c4497, rfl⟩ | ⟨c4498, c4499, rfl⟩
    · refine lv_if_eq (tgt := 27) C.1 C.2.1 dX12_run_14 (by decide) (fun _ => ?_) (fun c4500 => absurd c4500 (by decide))
      refine lv_iconst (v := (-1)) C.1 C.2.1 dX12_run_27 (by decide) ?_
      exact k_zret C hr hlk rfl Wd () (Or.inr (Or.inr (Or.inl (⟨c4489, c4490, c4495, rfl⟩)))) [] rfl (by decide) [] rfl (by decide) (by decide) dX12_run_28
    · refine lv_if_eq (tgt := 27) C.1 C.2.1 dX12_run_14 (by decide) (fun _ => ?_) (fun c4501 => absurd c4501 (by decide))
      refine lv_iconst (v := (-1)) C.1 C.2.1 dX12_run_27 (by decide) ?_
      exact k_zret C hr hlk rfl Wd () (Or.inr (Or.inr (Or.inr (Or.inl (⟨c4489, c4490, c4496, c4497, rfl⟩))))) [] rfl (by decide) [] rfl (by decide) (by decide) dX12_run_28
    · refine lv_if_eq (tgt := 27) C.1 C.2.1 dX12_run_14 (by decide) (fun c4502 => absurd c4502 (by decide)) (fun _ => ?_)
      refine lv_iload_n C.1 C.2.1 dX12_run_17 rfl (lv_at hl 3 rfl) ?_
      refine lv_iconst (v := 0) C.1 C.2.1 dX12_run_18 (by decide) ?_
      refine lv_bipush (v := 15) C.1 C.2.1 dX12_run_19 (by decide) ?_
      refine k_pi (k_runS (rest := []) C aks Wd cs_X12_90 (kcX12_isIn l D x2 0 15 _ ) [] rfl (by decide) [] rfl rfl rfl ⟨(Nat.le_of_ble_eq_true rfl), (Nat.le_of_ble_eq_true rfl)⟩ hl.1 rfl rfl (Nat.le_of_ble_eq_true rfl) ⟨(Nat.le_of_ble_eq_true rfl), (Nat.le_of_ble_eq_true rfl)⟩ dX12_run_21) (fun r w4503 => ?_)
      rcases w4503 with ⟨c4504, rfl⟩ | ⟨c4505, c4506, rfl⟩ | ⟨c4507, c4508, rfl⟩
      · refine lv_if_ne (tgt := 29) C.1 C.2.1 dX12_run_24 (by decide) (fun c4509 => absurd c4509 (by decide)) (fun _ => ?_)
        refine lv_iconst (v := (-1)) C.1 C.2.1 dX12_run_27 (by decide) ?_
        exact k_zret C hr hlk rfl Wd () (Or.inr (Or.inr (Or.inr (Or.inr (Or.inl (⟨c4489, c4490, c4498, c4499, c4504, rfl⟩)))))) [] rfl (by decide) [] rfl (by decide) (by decide) dX12_run_28
      · refine lv_if_ne (tgt := 29) C.1 C.2.1 dX12_run_24 (by decide) (fun c4510 => absurd c4510 (by decide)) (fun _ => ?_)
        refine lv_iconst (v := (-1)) C.1 C.2.1 dX12_run_27 (by decide) ?_
        exact k_zret C hr hlk rfl Wd () (Or.inr (Or.inr (Or.inr (Or.inr (Or.inr (Or.inl (⟨c4489, c4490, c4498, c4499, c4505, c4506, rfl⟩))))))) [] rfl (by decide) [] rfl (by decide) (by decide) dX12_run_28
      · refine lv_if_ne (tgt := 29) C.1 C.2.1 dX12_run_24 (by decide) (fun _ => ?_) (fun c4511 => absurd c4511 (by decide))
        refine lv_aload_n C.1 C.2.1 dX12_run_29 rfl (lv_at hl 0 rfl) ?_
        refine lv_iload_n C.1 C.2.1 dX12_run_30 rfl (lv_at hl 1 rfl) ?_
        refine k_cv Wd [0, 1] [2] rfl (wr := [(h10, .inl (a9, 6, .inl (fun _ => 0)))]) rfl (by decide) (by decide) (cells' := 0) (slots' := 0) (by decide) (by decide) (k_runV (rest := []) C aks Wd cs_X12_271 (kcX12_takes l D h0 h1 h2 h3 h4 h5 h6 h7 h8 h9 h10 h11 h12 h13 h14 h15 h16 h17 h18 h19 h20 h21 h22 h23 h24 h25 x0 a1 _ c4489 c4490) [0, 1] rfl (by decide) [0] rfl 0 12 rfl rfl rfl rfl rfl ⟨(Nat.le_of_ble_eq_true rfl), (Nat.le_of_ble_eq_true rfl)⟩ hl.1 rfl rfl (Nat.le_of_ble_eq_true rfl) ⟨(Nat.le_of_ble_eq_true rfl), (Nat.le_of_ble_eq_true rfl)⟩ dX12_run_31) (fun _ H locs w4512 Wd => ?_)
        have Wd : wX D [(a1, .int), (a9, .int)] s [(h10, .inl (a9, 6, .inl (fun _ => 0))), (h0, .inr (12, [.ref h1, .ref h2, .ref h3, .ref h4, .int 0, .int 0, .ref h5, .int 0, .int 0, .int 0, .int 0, .int 0, .int 0, .int 0, .int 0, .int 0, .int 0, .int 0, .int 0, .int 0, .int (-1), .int 0, .int 0, .int 0, .ref h6, .ref h7, .ref h8, .ref h9, .ref h10, .ref h11, .int 0, .int 0, .int 0, .int 0, .ref h12, .ref h13, .ref h14, .int 0, .int 0, .int 0, .int 0, .ref h15, .ref h16, .int 0, .ref h17, .ref h18, .int 0, .ref h19, .int 0, .ref h20, .ref h21, .ref h22, .int 0, .ref h23, .ref h24, .ref h25])), (h2, .inl (a1, 6, .inl (fun _ => 0)))] _ A s.heap _ := Wd
        refine lv_aload_n C.1 C.2.1 dX12_run_34 rfl (lv_at hl 0 rfl) ?_
        refine lv_iload_n C.1 C.2.1 dX12_run_35 rfl (lv_at hl 2 rfl) ?_
        refine lv_iload_n C.1 C.2.1 dX12_run_36 rfl (lv_at hl 3 rfl) ?_
        refine k_cv Wd [1, 0] [2] rfl (wr := [(h2, .inl (a1, 6, .inl (fun _ => 0)))]) rfl (by decide) (by decide) (cells' := 0) (slots' := 0) (by decide) (by decide) (k_runV (rest := []) C aks Wd cs_X12_315 (kcX12_runs l D h0 h1 h2 h3 h4 h5 h6 h7 h8 h9 h10 h11 h12 h13 h14 h15 h16 h17 h18 h19 h20 h21 h22 h23 h24 h25 x1 x2 a9 _ ) [1, 0] rfl (by decide) [1] rfl 1 12 rfl rfl rfl rfl rfl ⟨(Nat.le_of_ble_eq_true rfl), (Nat.le_of_ble_eq_true rfl)⟩ hl.1 rfl rfl (Nat.le_of_ble_eq_true rfl) ⟨(Nat.le_of_ble_eq_true rfl), (Nat.le_of_ble_eq_true rfl)⟩ dX12_run_37) (fun _ H locs w4513 Wd => ?_)
        have Wd : wX D [(a1, .int), (a9, .int)] s [(h2, .inl (a1, 6, .inl (fun _ => 0))), (h0, .inr (12, [.ref h1, .ref h2, .ref h3, .ref h4, .int 0, .int 0, .ref h5, .int 0, .int 0, .int 0, .int 0, .int 0, .int 0, .int 0, .int 0, .int 0, .int 0, .int 0, .int 0, .int 0, .int (-1), .int 0, .int 0, .int 0, .ref h6, .ref h7, .ref h8, .ref h9, .ref h10, .ref h11, .int 0, .int 0, .int 0, .int 0, .ref h12, .ref h13, .ref h14, .int 0, .int 0, .int 0, .int 0, .ref h15, .ref h16, .int 0, .ref h17, .ref h18, .int 0, .ref h19, .int 0, .ref h20, .ref h21, .ref h22, .int 0, .ref h23, .ref h24, .ref h25])), (h10, .inl (a9, 6, .inl (upd (upd (upd (upd (upd (upd (fun _ => 0) 0 x1) 1 x2) 2 0) 3 0) 4 0) 5 0)))] _ A s.heap _ := Wd
        refine lv_iload C.1 C.2.1 dX12_run_40 (lv_at hl 4 rfl) ?_
        refine lv_bipush (v := 10) C.1 C.2.1 dX12_run_42 (by decide) ?_
        refine lv_bipush (v := 15) C.1 C.2.1 dX12_run_44 (by decide) ?_
        refine k_pi (k_runS (rest := []) C aks Wd cs_X12_90 (kcX12_isIn l D x3 10 15 _ ) [] rfl (by decide) [] rfl rfl rfl ⟨(Nat.le_of_ble_eq_true rfl), (Nat.le_of_ble_eq_true rfl)⟩ hl.1 rfl rfl (Nat.le_of_ble_eq_true rfl) ⟨(Nat.le_of_ble_eq_true rfl), (Nat.le_of_ble_eq_true rfl)⟩ dX12_run_46) (fun r w4514 => ?_)
        rcases w4514 with ⟨c4515, rfl⟩ | ⟨c4516, c4517, rfl⟩ | ⟨c4518, c4519, rfl⟩
        · refine lv_if_eq (tgt := 63) C.1 C.2.1 dX12_run_49 (by decide) (fun _ => ?_) (fun c4520 => absurd c4520 (by decide))
          refine lv_iload C.1 C.2.1 dX12_run_63 (lv_at hl 4 rfl) ?_
          refine lv_bipush (v := 100) C.1 C.2.1 dX12_run_65 (by decide) ?_
          refine lv_bipush (v := 99) C.1 C.2.1 dX12_run_67 (by decide) ?_
          refine lv_aload_n C.1 C.2.1 dX12_run_69 rfl (lv_at hl 0 rfl) ?_
          refine k_get C Wd KX12 1 32 rfl (by decide) fl_X12_312 rfl dX12_run_70 ?_
          refine k_iadd (v := 99) C (by decide) dX12_run_73 ?_
          refine k_pi (k_runS (rest := []) C aks Wd cs_X12_90 (kcX12_isIn l D x3 100 99 _ ) [] rfl (by decide) [] rfl rfl rfl ⟨(Nat.le_of_ble_eq_true rfl), (Nat.le_of_ble_eq_true rfl)⟩ hl.1 rfl rfl (Nat.le_of_ble_eq_true rfl) ⟨(Nat.le_of_ble_eq_true rfl), (Nat.le_of_ble_eq_true rfl)⟩ dX12_run_74) (fun r w4521 => ?_)
          rcases w4521 with ⟨c4522, rfl⟩ | ⟨c4523, c4524, rfl⟩ | ⟨c4525, c4526, rfl⟩
          · refine lv_if_eq (tgt := 91) C.1 C.2.1 dX12_run_77 (by decide) (fun _ => ?_) (fun c4527 => absurd c4527 (by decide))
            refine lv_iload C.1 C.2.1 dX12_run_91 (lv_at hl 4 rfl) ?_
            refine lv_if_ne (tgt := 103) C.1 C.2.1 dX12_run_93 (by decide) (fun c4528 => ?_) (fun c4528 => ?_)
            · refine lv_iload C.1 C.2.1 dX12_run_103 (lv_at hl 4 rfl) ?_
              refine lv_iconst (v := 1) C.1 C.2.1 dX12_run_105 (by decide) ?_
              refine lv_icmp_ne (tgt := 116) C.1 C.2.1 dX12_run_106 (by decide) (fun c4529 => ?_) (fun c4529 => ?_)
              · refine lv_iload C.1 C.2.1 dX12_run_116 (lv_at hl 4 rfl) ?_
                refine lv_iconst (v := 2) C.1 C.2.1 dX12_run_118 (by decide) ?_
                refine lv_icmp_ne (tgt := 129) C.1 C.2.1 dX12_run_119 (by decide) (fun c4530 => ?_) (fun c4530 => ?_)
                · refine lv_iconst (v := (-1)) C.1 C.2.1 dX12_run_129 (by decide) ?_
                  exact k_zret C hr hlk rfl Wd () (Or.inr (Or.inr (Or.inr (Or.inr (Or.inr (Or.inr (Or.inl (⟨c4489, c4490, c4498, c4499, c4507, c4508, c4515, c4522, c4528, c4529, c4530, rfl⟩)))))))) [] rfl (by decide) [] rfl (by decide) (by decide) dX12_run_130
                · subst c4530
                  refine lv_aload_n C.1 C.2.1 dX12_run_122 rfl (lv_at hl 0 rfl) ?_
                  refine k_get C Wd KX12 1 32 rfl (by decide) fl_X12_312 rfl dX12_run_123 ?_
                  refine lv_goto (tgt := 130) C.1 C.2.1 dX12_run_126 (by decide) ?_
                  exact k_zret C hr hlk rfl Wd () (Or.inr (Or.inr (Or.inr (Or.inr (Or.inr (Or.inr (Or.inr (Or.inl (⟨c4489, c4490, c4498, c4499, c4507, c4508, c4515, c4522, c4528, c4529, rfl, rfl⟩))))))))) [] rfl (by decide) [] rfl (by decide) (by decide) dX12_run_130
              · subst c4529
                refine lv_aload_n C.1 C.2.1 dX12_run_109 rfl (lv_at hl 0 rfl) ?_
                refine k_get C Wd KX12 1 30 rfl (by decide) fl_X12_291 rfl dX12_run_110 ?_
                refine lv_goto (tgt := 130) C.1 C.2.1 dX12_run_113 (by decide) ?_
                exact k_zret C hr hlk rfl Wd () (Or.inr (Or.inr (Or.inr (Or.inr (Or.inr (Or.inr (Or.inr (Or.inr (Or.inl (⟨c4489, c4490, c4498, c4499, c4507, c4508, c4515, c4522, c4528, rfl, rfl⟩)))))))))) [] rfl (by decide) [] rfl (by decide) (by decide) dX12_run_130
            · subst c4528
              refine lv_aload_n C.1 C.2.1 dX12_run_96 rfl (lv_at hl 0 rfl) ?_
              refine k_get C Wd KX12 1 31 rfl (by decide) fl_X12_294 rfl dX12_run_97 ?_
              refine lv_goto (tgt := 130) C.1 C.2.1 dX12_run_100 (by decide) ?_
              exact k_zret C hr hlk rfl Wd () (Or.inr (Or.inr (Or.inr (Or.inr (Or.inr (Or.inr (Or.inr (Or.inr (Or.inr (Or.inl (⟨c4489, c4490, c4498, c4499, c4507, c4508, c4515, c4522, rfl, rfl⟩))))))))))) [] rfl (by decide) [] rfl (by decide) (by decide) dX12_run_130
          · exact False.elim (by have z0 := kz_lt c4515; have z1 := kz_nlt c4523; have t10 : (10 : Int32).toInt = 10 := (by decide); have t100 : (100 : Int32).toInt = 100 := (by decide); omega)
          · exact False.elim (by have z0 := kz_lt c4515; have z1 := kz_nlt c4525; have t10 : (10 : Int32).toInt = 10 := (by decide); have t100 : (100 : Int32).toInt = 100 := (by decide); omega)
        · refine lv_if_eq (tgt := 63) C.1 C.2.1 dX12_run_49 (by decide) (fun _ => ?_) (fun c4531 => absurd c4531 (by decide))
          refine lv_iload C.1 C.2.1 dX12_run_63 (lv_at hl 4 rfl) ?_
          refine lv_bipush (v := 100) C.1 C.2.1 dX12_run_65 (by decide) ?_
          refine lv_bipush (v := 99) C.1 C.2.1 dX12_run_67 (by decide) ?_
          refine lv_aload_n C.1 C.2.1 dX12_run_69 rfl (lv_at hl 0 rfl) ?_
          refine k_get C Wd KX12 1 32 rfl (by decide) fl_X12_312 rfl dX12_run_70 ?_
          refine k_iadd (v := 99) C (by decide) dX12_run_73 ?_
          refine k_pi (k_runS (rest := []) C aks Wd cs_X12_90 (kcX12_isIn l D x3 100 99 _ ) [] rfl (by decide) [] rfl rfl rfl ⟨(Nat.le_of_ble_eq_true rfl), (Nat.le_of_ble_eq_true rfl)⟩ hl.1 rfl rfl (Nat.le_of_ble_eq_true rfl) ⟨(Nat.le_of_ble_eq_true rfl), (Nat.le_of_ble_eq_true rfl)⟩ dX12_run_74) (fun r w4532 => ?_)
          rcases w4532 with ⟨c4533, rfl⟩ | ⟨c4534, c4535, rfl⟩ | ⟨c4536, c4537, rfl⟩
          · refine lv_if_eq (tgt := 91) C.1 C.2.1 dX12_run_77 (by decide) (fun _ => ?_) (fun c4538 => absurd c4538 (by decide))
            refine lv_iload C.1 C.2.1 dX12_run_91 (lv_at hl 4 rfl) ?_
            refine lv_if_ne (tgt := 103) C.1 C.2.1 dX12_run_93 (by decide) (fun _ => ?_) (fun c4539 => False.elim (by have z0 := kz_nlt c4516; have z1 := kz_lt c4517; have z2 := kz_lt c4533; have z3 := kz_eq c4539; have t10 : (10 : Int32).toInt = 10 := (by decide); have t15 : (15 : Int32).toInt = 15 := (by decide); have t100 : (100 : Int32).toInt = 100 := (by decide); have t0 : (0 : Int32).toInt = 0 := (by decide); omega))
            refine lv_iload C.1 C.2.1 dX12_run_103 (lv_at hl 4 rfl) ?_
            refine lv_iconst (v := 1) C.1 C.2.1 dX12_run_105 (by decide) ?_
            refine lv_icmp_ne (tgt := 116) C.1 C.2.1 dX12_run_106 (by decide) (fun _ => ?_) (fun c4540 => False.elim (by have z0 := kz_nlt c4516; have z1 := kz_lt c4517; have z2 := kz_lt c4533; have z3 := kz_eq c4540; have t10 : (10 : Int32).toInt = 10 := (by decide); have t15 : (15 : Int32).toInt = 15 := (by decide); have t100 : (100 : Int32).toInt = 100 := (by decide); have t1 : (1 : Int32).toInt = 1 := (by decide); omega))
            refine lv_iload C.1 C.2.1 dX12_run_116 (lv_at hl 4 rfl) ?_
            refine lv_iconst (v := 2) C.1 C.2.1 dX12_run_118 (by decide) ?_
            refine lv_icmp_ne (tgt := 129) C.1 C.2.1 dX12_run_119 (by decide) (fun _ => ?_) (fun c4541 => False.elim (by have z0 := kz_nlt c4516; have z1 := kz_lt c4517; have z2 := kz_lt c4533; have z3 := kz_eq c4541; have t10 : (10 : Int32).toInt = 10 := (by decide); have t15 : (15 : Int32).toInt = 15 := (by decide); have t100 : (100 : Int32).toInt = 100 := (by decide); have t2 : (2 : Int32).toInt = 2 := (by decide); omega))
            refine lv_iconst (v := (-1)) C.1 C.2.1 dX12_run_129 (by decide) ?_
            exact k_zret C hr hlk rfl Wd () (Or.inr (Or.inr (Or.inr (Or.inr (Or.inr (Or.inr (Or.inr (Or.inr (Or.inr (Or.inr (Or.inl (⟨c4489, c4490, c4498, c4499, c4507, c4508, c4516, c4517, c4533, rfl⟩)))))))))))) [] rfl (by decide) [] rfl (by decide) (by decide) dX12_run_130
          · refine lv_if_eq (tgt := 91) C.1 C.2.1 dX12_run_77 (by decide) (fun _ => ?_) (fun c4542 => absurd c4542 (by decide))
            refine lv_iload C.1 C.2.1 dX12_run_91 (lv_at hl 4 rfl) ?_
            refine lv_if_ne (tgt := 103) C.1 C.2.1 dX12_run_93 (by decide) (fun _ => ?_) (fun c4543 => False.elim (by have z0 := kz_nlt c4516; have z1 := kz_lt c4517; have z2 := kz_nlt c4534; have z3 := kz_lt c4535; have z4 := kz_eq c4543; have t10 : (10 : Int32).toInt = 10 := (by decide); have t15 : (15 : Int32).toInt = 15 := (by decide); have t100 : (100 : Int32).toInt = 100 := (by decide); have t99 : (99 : Int32).toInt = 99 := (by decide); have t0 : (0 : Int32).toInt = 0 := (by decide); omega))
            refine lv_iload C.1 C.2.1 dX12_run_103 (lv_at hl 4 rfl) ?_
            refine lv_iconst (v := 1) C.1 C.2.1 dX12_run_105 (by decide) ?_
            refine lv_icmp_ne (tgt := 116) C.1 C.2.1 dX12_run_106 (by decide) (fun _ => ?_) (fun c4544 => False.elim (by have z0 := kz_nlt c4516; have z1 := kz_lt c4517; have z2 := kz_nlt c4534; have z3 := kz_lt c4535; have z4 := kz_eq c4544; have t10 : (10 : Int32).toInt = 10 := (by decide); have t15 : (15 : Int32).toInt = 15 := (by decide); have t100 : (100 : Int32).toInt = 100 := (by decide); have t99 : (99 : Int32).toInt = 99 := (by decide); have t1 : (1 : Int32).toInt = 1 := (by decide); omega))
            refine lv_iload C.1 C.2.1 dX12_run_116 (lv_at hl 4 rfl) ?_
            refine lv_iconst (v := 2) C.1 C.2.1 dX12_run_118 (by decide) ?_
            refine lv_icmp_ne (tgt := 129) C.1 C.2.1 dX12_run_119 (by decide) (fun _ => ?_) (fun c4545 => False.elim (by have z0 := kz_nlt c4516; have z1 := kz_lt c4517; have z2 := kz_nlt c4534; have z3 := kz_lt c4535; have z4 := kz_eq c4545; have t10 : (10 : Int32).toInt = 10 := (by decide); have t15 : (15 : Int32).toInt = 15 := (by decide); have t100 : (100 : Int32).toInt = 100 := (by decide); have t99 : (99 : Int32).toInt = 99 := (by decide); have t2 : (2 : Int32).toInt = 2 := (by decide); omega))
            refine lv_iconst (v := (-1)) C.1 C.2.1 dX12_run_129 (by decide) ?_
            exact k_zret C hr hlk rfl Wd () (Or.inr (Or.inr (Or.inr (Or.inr (Or.inr (Or.inr (Or.inr (Or.inr (Or.inr (Or.inr (Or.inr (Or.inl (⟨c4489, c4490, c4498, c4499, c4507, c4508, c4516, c4517, c4534, c4535, rfl⟩))))))))))))) [] rfl (by decide) [] rfl (by decide) (by decide) dX12_run_130
          · exact False.elim (by have z0 := kz_nlt c4516; have z1 := kz_lt c4517; have z2 := kz_nlt c4536; have z3 := kz_nlt c4537; have t10 : (10 : Int32).toInt = 10 := (by decide); have t15 : (15 : Int32).toInt = 15 := (by decide); have t100 : (100 : Int32).toInt = 100 := (by decide); have t99 : (99 : Int32).toInt = 99 := (by decide); omega)
        · refine lv_if_eq (tgt := 63) C.1 C.2.1 dX12_run_49 (by decide) (fun c4546 => absurd c4546 (by decide)) (fun _ => ?_)
          refine lv_aload_n C.1 C.2.1 dX12_run_52 rfl (lv_at hl 0 rfl) ?_
          refine k_get C Wd KX12 1 28 rfl (by decide) fl_X12_41 rfl dX12_run_53 ?_
          refine lv_iload C.1 C.2.1 dX12_run_56 (lv_at hl 4 rfl) ?_
          refine lv_bipush (v := 10) C.1 C.2.1 dX12_run_58 (by decide) ?_
          refine k_isub (v := (x3 - 10)) C rfl dX12_run_60 ?_
          refine k_iald (v := ((upd (upd (upd (upd (upd (upd (fun _ => 0) 0 x1) 1 x2) 2 0) 3 0) 4 0) 5 0) (x3 - 10).toNatClampNeg)) C Wd 2 1 rfl rfl (vp_in_iff.mpr ⟨by have z0 := kz_nlt c4518; have z1 := kz_nlt c4519; have zr := kz_rng x3; have z2 := kz_subI (a := x3) (b := 10); have t10 : (10 : Int32).toInt = 10 := (by decide); have t15 : (15 : Int32).toInt = 15 := (by decide); omega, by have z0 := kz_nlt c4518; have z1 := kz_nlt c4519; have zr := kz_rng x3; have z2 := kz_subI (a := x3) (b := 10); have t10 : (10 : Int32).toInt = 10 := (by decide); have t15 : (15 : Int32).toInt = 15 := (by decide); omega⟩) rfl dX12_run_61 ?_
          exact k_zret C hr hlk rfl Wd () (Or.inr (Or.inr (Or.inr (Or.inr (Or.inr (Or.inr (Or.inr (Or.inr (Or.inr (Or.inr (Or.inr (Or.inr (⟨c4489, c4490, c4498, c4499, c4507, c4508, c4518, c4519, rfl⟩))))))))))))) [] rfl (by decide) [] rfl (by decide) (by decide) dX12_run_62
set_option maxHeartbeats 4000000 in
set_option maxRecDepth 100000 in
theorem kcX12_runs_v1 (l : Launch) (D : va_G) (h0 h1 h2 h3 h4 h5 h6 h7 h8 h9 h10 h11 h12 h13 h14 h15 h16 h17 h18 h19 h20 h21 h22 h23 h24 h25 : Nat) (x0 x1 : Int32) (f0 : Nat → Int32) (a9 : ClassId) (sz : Nat)  : Met l yX12_runs (Cond.code yX12_runs cX12_runs 4 none :: gG) { frames := 3, cells := 0, slots := 0, locals := 107 } (cPre D [(a9, .int)] [(h0, .inr (12, [.ref h1, .ref h2, .ref h3, .ref h4, .int 0, .int 0, .ref h5, .int 0, .int 0, .int 0, .int 0, .int 0, .int 0, .int 0, .int 0, .int 0, .int 0, .int 0, .int 0, .int 0, .int (-1), .int 0, .int 0, .int 0, .ref h6, .ref h7, .ref h8, .ref h9, .ref h10, .ref h11, .int 0, .int 0, .int 0, .int 0, .ref h12, .ref h13, .ref h14, .int 0, .int 0, .int 0, .int 0, .ref h15, .ref h16, .int 0, .ref h17, .ref h18, .int 0, .ref h19, .int 0, .ref h20, .ref h21, .ref h22, .int 0, .ref h23, .ref h24, .ref h25])), (h10, .inl (a9, 6, .inl f0))] sz [.ref h0, .int x0, .int x1]) (va_Qv (fun (_ : Unit) => True) (fun u t => cB D (va_A [(h0, .inr (12, [.ref h1, .ref h2, .ref h3, .ref h4, .int 0, .int 0, .ref h5, .int 0, .int 0, .int 0, .int 0, .int 0, .int 0, .int 0, .int 0, .int 0, .int 0, .int 0, .int 0, .int 0, .int (-1), .int 0, .int 0, .int 0, .ref h6, .ref h7, .ref h8, .ref h9, .ref h10, .ref h11, .int 0, .int 0, .int 0, .int 0, .ref h12, .ref h13, .ref h14, .int 0, .int 0, .int 0, .int 0, .ref h15, .ref h16, .int 0, .ref h17, .ref h18, .int 0, .ref h19, .int 0, .ref h20, .ref h21, .ref h22, .int 0, .ref h23, .ref h24, .ref h25])), (h10, .inl (a9, 6, .inl f0))] sz) ((fun (_ : Unit) => ([] : List (ClassId × FieldType))) u) ((fun (_ : Unit) => ([(h0, .inr (12, [.ref h1, .ref h2, .ref h3, .ref h4, .int 0, .int 0, .ref h5, .int 0, .int 0, .int 0, .int 0, .int 0, .int 0, .int 0, .int 0, .int 0, .int 0, .int 0, .int 0, .int 0, .int (-1), .int 0, .int 0, .int 0, .ref h6, .ref h7, .ref h8, .ref h9, .ref h10, .ref h11, .int 0, .int 0, .int 0, .int 0, .ref h12, .ref h13, .ref h14, .int 0, .int 0, .int 0, .int 0, .ref h15, .ref h16, .int 0, .ref h17, .ref h18, .int 0, .ref h19, .int 0, .ref h20, .ref h21, .ref h22, .int 0, .ref h23, .ref h24, .ref h25])), (h10, .inl (a9, 6, .inl (upd (upd (upd (upd (upd (upd f0 0 x0) 1 x1) 2 0) 3 0) 4 0) 5 0)))] : va_W)) u) t) (va_A [(h0, .inr (12, [.ref h1, .ref h2, .ref h3, .ref h4, .int 0, .int 0, .ref h5, .int 0, .int 0, .int 0, .int 0, .int 0, .int 0, .int 0, .int 0, .int 0, .int 0, .int 0, .int 0, .int 0, .int (-1), .int 0, .int 0, .int 0, .ref h6, .ref h7, .ref h8, .ref h9, .ref h10, .ref h11, .int 0, .int 0, .int 0, .int 0, .ref h12, .ref h13, .ref h14, .int 0, .int 0, .int 0, .int 0, .ref h15, .ref h16, .int 0, .ref h17, .ref h18, .int 0, .ref h19, .int 0, .ref h20, .ref h21, .ref h22, .int 0, .ref h23, .ref h24, .ref h25])), (h10, .inl (a9, 6, .inl f0))] sz)) 0 0 (va_A [(h0, .inr (12, [.ref h1, .ref h2, .ref h3, .ref h4, .int 0, .int 0, .ref h5, .int 0, .int 0, .int 0, .int 0, .int 0, .int 0, .int 0, .int 0, .int 0, .int 0, .int 0, .int 0, .int 0, .int (-1), .int 0, .int 0, .int 0, .ref h6, .ref h7, .ref h8, .ref h9, .ref h10, .ref h11, .int 0, .int 0, .int 0, .int 0, .ref h12, .ref h13, .ref h14, .int 0, .int 0, .int 0, .int 0, .ref h15, .ref h16, .int 0, .ref h17, .ref h18, .int 0, .ref h19, .int 0, .ref h20, .ref h21, .ref h22, .int 0, .ref h23, .ref h24, .ref h25])), (h10, .inl (a9, 6, .inl f0))] sz) := by
  refine Met.ofW (cc := cX12_runs) (maxL := 4) (ret := none) (by decide) rfl ?_
  intro p e s m args below meth c s₁ B hml hv
  obtain ⟨rfl, aks, rfl, Wd⟩ := k_enter hv
  have C : CallFix p m c cX12_runs 4 s _ gG RX12 := ⟨B.exec, B.bytes, hml, findClass_of_methodNamed B.named, fun w h => atoms_spec (ws := Cond.code yX12_runs cX12_runs 4 none :: gG) B.pre w (List.mem_cons_of_mem _ h)⟩
  have hr := B.returns
  have hlk := B.notSynchronized
  generalize va_A [(h0, .inr (12, [.ref h1, .ref h2, .ref h3, .ref h4, .int 0, .int 0, .ref h5, .int 0, .int 0, .int 0, .int 0, .int 0, .int 0, .int 0, .int 0, .int 0, .int 0, .int 0, .int 0, .int 0, .int (-1), .int 0, .int 0, .int 0, .ref h6, .ref h7, .ref h8, .ref h9, .ref h10, .ref h11, .int 0, .int 0, .int 0, .int 0, .ref h12, .ref h13, .ref h14, .int 0, .int 0, .int 0, .int 0, .ref h15, .ref h16, .int 0, .ref h17, .ref h18, .int 0, .ref h19, .int 0, .ref h20, .ref h21, .ref h22, .int 0, .ref h23, .ref h24, .ref h25])), (h10, .inl (a9, 6, .inl f0))] s.heap.size = A at Wd ⊢
  refine k_locals (Nat.le_of_ble_eq_true rfl) [(0, .ref h0), (1, .int x0), (2, .int x1)] rfl (fun ls hl => ?_)
  refine lv_iconst (v := 0) C.1 C.2.1 dX12_runs_0 (by decide) ?_
  refine lv_istore_n (lv' := [(3, .int 0), (0, .ref h0), (1, .int x0), (2, .int x1)]) C.1 C.2.1 dX12_runs_1 rfl hl (by decide) rfl (fun ls hl => ?_)
  refine lv_iload_n C.1 C.2.1 dX12_runs_2 rfl (lv_at hl 0 rfl) ?_
  refine lv_bipush (v := 6) C.1 C.2.1 dX12_runs_3 (by decide) ?_
  refine lv_icmp_ge (tgt := 38) C.1 C.2.1 dX12_runs_5 (by decide) (fun c4600 => absurd c4600 (by decide)) (fun _ => ?_)
  refine lv_aload_n C.1 C.2.1 dX12_runs_8 rfl (lv_at hl 1 rfl) ?_
  refine k_get C Wd KX12 0 28 rfl (by decide) fl_X12_41 rfl dX12_runs_9 ?_
  refine lv_iload_n C.1 C.2.1 dX12_runs_12 rfl (lv_at hl 0 rfl) ?_
  refine lv_iload_n C.1 C.2.1 dX12_runs_13 rfl (lv_at hl 0 rfl) ?_
  refine lv_if_ne (tgt := 21) C.1 C.2.1 dX12_runs_14 (by decide) (fun c4601 => absurd c4601 (by decide)) (fun _ => ?_)
  refine lv_iload_n C.1 C.2.1 dX12_runs_17 rfl (lv_at hl 2 rfl) ?_
  refine lv_goto (tgt := 31) C.1 C.2.1 dX12_runs_18 (by decide) ?_
  refine k_iast C Wd 1 0 [(h0, .inr (12, [.ref h1, .ref h2, .ref h3, .ref h4, .int 0, .int 0, .ref h5, .int 0, .int 0, .int 0, .int 0, .int 0, .int 0, .int 0, .int 0, .int 0, .int 0, .int 0, .int 0, .int 0, .int (-1), .int 0, .int 0, .int 0, .ref h6, .ref h7, .ref h8, .ref h9, .ref h10, .ref h11, .int 0, .int 0, .int 0, .int 0, .ref h12, .ref h13, .ref h14, .int 0, .int 0, .int 0, .int 0, .ref h15, .ref h16, .int 0, .ref h17, .ref h18, .int 0, .ref h19, .int 0, .ref h20, .ref h21, .ref h22, .int 0, .ref h23, .ref h24, .ref h25])), (h10, .inl (a9, 6, .inl (upd f0 0 x0)))] rfl rfl (vp_in_iff.mpr (by decide)) rfl rfl dX12_runs_31 (fun H locs Wd => ?_)
  refine lv_iinc (v := 1) (lv' := [(3, .int 1), (0, .ref h0), (1, .int x0), (2, .int x1)]) C.1 C.2.1 dX12_runs_32 hl (k := 0) rfl (by decide) (by decide) rfl (fun ls hl => ?_)
  refine lv_goto (tgt := 2) C.1 C.2.1 dX12_runs_35 (by decide) ?_
  refine lv_iload_n C.1 C.2.1 dX12_runs_2 rfl (lv_at hl 0 rfl) ?_
  refine lv_bipush (v := 6) C.1 C.2.1 dX12_runs_3 (by decide) ?_
  refine lv_icmp_ge (tgt := 38) C.1 C.2.1 dX12_runs_5 (by decide) (fun c4602 => absurd c4602 (by decide)) (fun _ => ?_)
  refine lv_aload_n C.1 C.2.1 dX12_runs_8 rfl (lv_at hl 1 rfl) ?_
  refine k_get C Wd KX12 0 28 rfl (by decide) fl_X12_41 rfl dX12_runs_9 ?_
  refine lv_iload_n C.1 C.2.1 dX12_runs_12 rfl (lv_at hl 0 rfl) ?_
  refine lv_iload_n C.1 C.2.1 dX12_runs_13 rfl (lv_at hl 0 rfl) ?_
  refine lv_if_ne (tgt := 21) C.1 C.2.1 dX12_runs_14 (by decide) (fun _ => ?_) (fun c4603 => absurd c4603 (by decide))
  refine lv_iload_n C.1 C.2.1 dX12_runs_21 rfl (lv_at hl 0 rfl) ?_
  refine lv_iconst (v := 1) C.1 C.2.1 dX12_runs_22 (by decide) ?_
  refine lv_icmp_ne (tgt := 30) C.1 C.2.1 dX12_runs_23 (by decide) (fun c4604 => absurd c4604 (by decide)) (fun _ => ?_)
  refine lv_iload_n C.1 C.2.1 dX12_runs_26 rfl (lv_at hl 3 rfl) ?_
  refine lv_goto (tgt := 31) C.1 C.2.1 dX12_runs_27 (by decide) ?_
  refine k_iast C Wd 1 0 [(h0, .inr (12, [.ref h1, .ref h2, .ref h3, .ref h4, .int 0, .int 0, .ref h5, .int 0, .int 0, .int 0, .int 0, .int 0, .int 0, .int 0, .int 0, .int 0, .int 0, .int 0, .int 0, .int 0, .int (-1), .int 0, .int 0, .int 0, .ref h6, .ref h7, .ref h8, .ref h9, .ref h10, .ref h11, .int 0, .int 0, .int 0, .int 0, .ref h12, .ref h13, .ref h14, .int 0, .int 0, .int 0, .int 0, .ref h15, .ref h16, .int 0, .ref h17, .ref h18, .int 0, .ref h19, .int 0, .ref h20, .ref h21, .ref h22, .int 0, .ref h23, .ref h24, .ref h25])), (h10, .inl (a9, 6, .inl (upd (upd f0 0 x0) 1 x1)))] rfl rfl (vp_in_iff.mpr (by decide)) rfl rfl dX12_runs_31 (fun H locs Wd => ?_)
  refine lv_iinc (v := 2) (lv' := [(3, .int 2), (0, .ref h0), (1, .int x0), (2, .int x1)]) C.1 C.2.1 dX12_runs_32 hl (k := 0) rfl (by decide) (by decide) rfl (fun ls hl => ?_)
  refine lv_goto (tgt := 2) C.1 C.2.1 dX12_runs_35 (by decide) ?_
  refine lv_iload_n C.1 C.2.1 dX12_runs_2 rfl (lv_at hl 0 rfl) ?_
  refine lv_bipush (v := 6) C.1 C.2.1 dX12_runs_3 (by decide) ?_
  refine lv_icmp_ge (tgt := 38) C.1 C.2.1 dX12_runs_5 (by decide) (fun c4605 => absurd c4605 (by decide)) (fun _ => ?_)
  refine lv_aload_n C.1 C.2.1 dX12_runs_8 rfl (lv_at hl 1 rfl) ?_
  refine k_get C Wd KX12 0 28 rfl (by decide) fl_X12_41 rfl dX12_runs_9 ?_
  refine lv_iload_n C.1 C.2.1 dX12_runs_12 rfl (lv_at hl 0 rfl) ?_
  refine lv_iload_n C.1 C.2.1 dX12_runs_13 rfl (lv_at hl 0 rfl) ?_
  refine lv_if_ne (tgt := 21) C.1 C.2.1 dX12_runs_14 (by decide) (fun _ => ?_) (fun c4606 => absurd c4606 (by decide))
  refine lv_iload_n C.1 C.2.1 dX12_runs_21 rfl (lv_at hl 0 rfl) ?_
  refine lv_iconst (v := 1) C.1 C.2.1 dX12_runs_22 (by decide) ?_
  refine lv_icmp_ne (tgt := 30) C.1 C.2.1 dX12_runs_23 (by decide) (fun _ => ?_) (fun c4607 => absurd c4607 (by decide))
  refine lv_iconst (v := 0) C.1 C.2.1 dX12_runs_30 (by decide) ?_
  refine k_iast C Wd 1 0 [(h0, .inr (12, [.ref h1, .ref h2, .ref h3, .ref h4, .int 0, .int 0, .ref h5, .int 0, .int 0, .int 0, .int 0, .int 0, .int 0, .int 0, .int 0, .int 0, .int 0, .int 0, .int 0, .int 0, .int (-1), .int 0, .int 0, .int 0, .ref h6, .ref h7, .ref h8, .ref h9, .ref h10, .ref h11, .int 0, .int 0, .int 0, .int 0, .ref h12, .ref h13, .ref h14, .int 0, .int 0, .int 0, .int 0, .ref h15, .ref h16, .int 0, .ref h17, .ref h18, .int 0, .ref h19, .int 0, .ref h20, .ref h21, .ref h22, .int 0, .ref h23, .ref h24, .ref h25])), (h10, .inl (a9, 6, .inl (upd (upd (upd f0 0 x0) 1 x1) 2 0)))] rfl rfl (vp_in_iff.mpr (by decide)) rfl rfl dX12_runs_31 (fun H locs Wd => ?_)
  refine lv_iinc (v := 3) (lv' := [(3, .int 3), (0, .ref h0), (1, .int x0), (2, .int x1)]) C.1 C.2.1 dX12_runs_32 hl (k := 0) rfl (by decide) (by decide) rfl (fun ls hl => ?_)
  refine lv_goto (tgt := 2) C.1 C.2.1 dX12_runs_35 (by decide) ?_
  refine lv_iload_n C.1 C.2.1 dX12_runs_2 rfl (lv_at hl 0 rfl) ?_
  refine lv_bipush (v := 6) C.1 C.2.1 dX12_runs_3 (by decide) ?_
  refine lv_icmp_ge (tgt := 38) C.1 C.2.1 dX12_runs_5 (by decide) (fun c4608 => absurd c4608 (by decide)) (fun _ => ?_)
  refine lv_aload_n C.1 C.2.1 dX12_runs_8 rfl (lv_at hl 1 rfl) ?_
  refine k_get C Wd KX12 0 28 rfl (by decide) fl_X12_41 rfl dX12_runs_9 ?_
  refine lv_iload_n C.1 C.2.1 dX12_runs_12 rfl (lv_at hl 0 rfl) ?_
  refine lv_iload_n C.1 C.2.1 dX12_runs_13 rfl (lv_at hl 0 rfl) ?_
  refine lv_if_ne (tgt := 21) C.1 C.2.1 dX12_runs_14 (by decide) (fun _ => ?_) (fun c4609 => absurd c4609 (by decide))
  refine lv_iload_n C.1 C.2.1 dX12_runs_21 rfl (lv_at hl 0 rfl) ?_
  refine lv_iconst (v := 1) C.1 C.2.1 dX12_runs_22 (by decide) ?_
  refine lv_icmp_ne (tgt := 30) C.1 C.2.1 dX12_runs_23 (by decide) (fun _ => ?_) (fun c4610 => absurd c4610 (by decide))
  refine lv_iconst (v := 0) C.1 C.2.1 dX12_runs_30 (by decide) ?_
  refine k_iast C Wd 1 0 [(h0, .inr (12, [.ref h1, .ref h2, .ref h3, .ref h4, .int 0, .int 0, .ref h5, .int 0, .int 0, .int 0, .int 0, .int 0, .int 0, .int 0, .int 0, .int 0, .int 0, .int 0, .int 0, .int 0, .int (-1), .int 0, .int 0, .int 0, .ref h6, .ref h7, .ref h8, .ref h9, .ref h10, .ref h11, .int 0, .int 0, .int 0, .int 0, .ref h12, .ref h13, .ref h14, .int 0, .int 0, .int 0, .int 0, .ref h15, .ref h16, .int 0, .ref h17, .ref h18, .int 0, .ref h19, .int 0, .ref h20, .ref h21, .ref h22, .int 0, .ref h23, .ref h24, .ref h25])), (h10, .inl (a9, 6, .inl (upd (upd (upd (upd f0 0 x0) 1 x1) 2 0) 3 0)))] rfl rfl (vp_in_iff.mpr (by decide)) rfl rfl dX12_runs_31 (fun H locs Wd => ?_)
  refine lv_iinc (v := 4) (lv' := [(3, .int 4), (0, .ref h0), (1, .int x0), (2, .int x1)]) C.1 C.2.1 dX12_runs_32 hl (k := 0) rfl (by decide) (by decide) rfl (fun ls hl => ?_)
  refine lv_goto (tgt := 2) C.1 C.2.1 dX12_runs_35 (by decide) ?_
  refine lv_iload_n C.1 C.2.1 dX12_runs_2 rfl (lv_at hl 0 rfl) ?_
  refine lv_bipush (v := 6) C.1 C.2.1 dX12_runs_3 (by decide) ?_
  refine lv_icmp_ge (tgt := 38) C.1 C.2.1 dX12_runs_5 (by decide) (fun c4611 => absurd c4611 (by decide)) (fun _ => ?_)
  refine lv_aload_n C.1 C.2.1 dX12_runs_8 rfl (lv_at hl 1 rfl) ?_
  refine k_get C Wd KX12 0 28 rfl (by decide) fl_X12_41 rfl dX12_runs_9 ?_
  refine lv_iload_n C.1 C.2.1 dX12_runs_12 rfl (lv_at hl 0 rfl) ?_
  refine lv_iload_n C.1 C.2.1 dX12_runs_13 rfl (lv_at hl 0 rfl) ?_
  refine lv_if_ne (tgt := 21) C.1 C.2.1 dX12_runs_14 (by decide) (fun _ => ?_) (fun c4612 => absurd c4612 (by decide))
  refine lv_iload_n C.1 C.2.1 dX12_runs_21 rfl (lv_at hl 0 rfl) ?_
  refine lv_iconst (v := 1) C.1 C.2.1 dX12_runs_22 (by decide) ?_
  refine lv_icmp_ne (tgt := 30) C.1 C.2.1 dX12_runs_23 (by decide) (fun _ => ?_) (fun c4613 => absurd c4613 (by decide))
  refine lv_iconst (v := 0) C.1 C.2.1 dX12_runs_30 (by decide) ?_
  refine k_iast C Wd 1 0 [(h0, .inr (12, [.ref h1, .ref h2, .ref h3, .ref h4, .int 0, .int 0, .ref h5, .int 0, .int 0, .int 0, .int 0, .int 0, .int 0, .int 0, .int 0, .int 0, .int 0, .int 0, .int 0, .int 0, .int (-1), .int 0, .int 0, .int 0, .ref h6, .ref h7, .ref h8, .ref h9, .ref h10, .ref h11, .int 0, .int 0, .int 0, .int 0, .ref h12, .ref h13, .ref h14, .int 0, .int 0, .int 0, .int 0, .ref h15, .ref h16, .int 0, .ref h17, .ref h18, .int 0, .ref h19, .int 0, .ref h20, .ref h21, .ref h22, .int 0, .ref h23, .ref h24, .ref h25])), (h10, .inl (a9, 6, .inl (upd (upd (upd (upd (upd f0 0 x0) 1 x1) 2 0) 3 0) 4 0)))] rfl rfl (vp_in_iff.mpr (by decide)) rfl rfl dX12_runs_31 (fun H locs Wd => ?_)
  refine lv_iinc (v := 5) (lv' := [(3, .int 5), (0, .ref h0), (1, .int x0), (2, .int x1)]) C.1 C.2.1 dX12_runs_32 hl (k := 0) rfl (by decide) (by decide) rfl (fun ls hl => ?_)
  refine lv_goto (tgt := 2) C.1 C.2.1 dX12_runs_35 (by decide) ?_
  refine lv_iload_n C.1 C.2.1 dX12_runs_2 rfl (lv_at hl 0 rfl) ?_
  refine lv_bipush (v := 6) C.1 C.2.1 dX12_runs_3 (by decide) ?_
  refine lv_icmp_ge (tgt := 38) C.1 C.2.1 dX12_runs_5 (by decide) (fun c4614 => absurd c4614 (by decide)) (fun _ => ?_)
  refine lv_aload_n C.1 C.2.1 dX12_runs_8 rfl (lv_at hl 1 rfl) ?_
  refine k_get C Wd KX12 0 28 rfl (by decide) fl_X12_41 rfl dX12_runs_9 ?_
  refine lv_iload_n C.1 C.2.1 dX12_runs_12 rfl (lv_at hl 0 rfl) ?_
  refine lv_iload_n C.1 C.2.1 dX12_runs_13 rfl (lv_at hl 0 rfl) ?_
  refine lv_if_ne (tgt := 21) C.1 C.2.1 dX12_runs_14 (by decide) (fun _ => ?_) (fun c4615 => absurd c4615 (by decide))
  refine lv_iload_n C.1 C.2.1 dX12_runs_21 rfl (lv_at hl 0 rfl) ?_
  refine lv_iconst (v := 1) C.1 C.2.1 dX12_runs_22 (by decide) ?_
  refine lv_icmp_ne (tgt := 30) C.1 C.2.1 dX12_runs_23 (by decide) (fun _ => ?_) (fun c4616 => absurd c4616 (by decide))
  refine lv_iconst (v := 0) C.1 C.2.1 dX12_runs_30 (by decide) ?_
  refine k_iast C Wd 1 0 [(h0, .inr (12, [.ref h1, .ref h2, .ref h3, .ref h4, .int 0, .int 0, .ref h5, .int 0, .int 0, .int 0, .int 0, .int 0, .int 0, .int 0, .int 0, .int 0, .int 0, .int 0, .int 0, .int 0, .int (-1), .int 0, .int 0, .int 0, .ref h6, .ref h7, .ref h8, .ref h9, .ref h10, .ref h11, .int 0, .int 0, .int 0, .int 0, .ref h12, .ref h13, .ref h14, .int 0, .int 0, .int 0, .int 0, .ref h15, .ref h16, .int 0, .ref h17, .ref h18, .int 0, .ref h19, .int 0, .ref h20, .ref h21, .ref h22, .int 0, .ref h23, .ref h24, .ref h25])), (h10, .inl (a9, 6, .inl (upd (upd (upd (upd (upd (upd f0 0 x0) 1 x1) 2 0) 3 0) 4 0) 5 0)))] rfl rfl (vp_in_iff.mpr (by decide)) rfl rfl dX12_runs_31 (fun H locs Wd => ?_)
  refine lv_iinc (v := 6) (lv' := [(3, .int 6), (0, .ref h0), (1, .int x0), (2, .int x1)]) C.1 C.2.1 dX12_runs_32 hl (k := 0) rfl (by decide) (by decide) rfl (fun ls hl => ?_)
  refine lv_goto (tgt := 2) C.1 C.2.1 dX12_runs_35 (by decide) ?_
  refine lv_iload_n C.1 C.2.1 dX12_runs_2 rfl (lv_at hl 0 rfl) ?_
  refine lv_bipush (v := 6) C.1 C.2.1 dX12_runs_3 (by decide) ?_
  refine lv_icmp_ge (tgt := 38) C.1 C.2.1 dX12_runs_5 (by decide) (fun _ => ?_) (fun c4617 => absurd c4617 (by decide))
  refine lv_aload_n C.1 C.2.1 dX12_runs_38 rfl (lv_at hl 1 rfl) ?_
  refine lv_iconst (v := 0) C.1 C.2.1 dX12_runs_39 (by decide) ?_
  refine k_put C Wd KX12 0 30 [(h0, .inr (12, [.ref h1, .ref h2, .ref h3, .ref h4, .int 0, .int 0, .ref h5, .int 0, .int 0, .int 0, .int 0, .int 0, .int 0, .int 0, .int 0, .int 0, .int 0, .int 0, .int 0, .int 0, .int (-1), .int 0, .int 0, .int 0, .ref h6, .ref h7, .ref h8, .ref h9, .ref h10, .ref h11, .int 0, .int 0, .int 0, .int 0, .ref h12, .ref h13, .ref h14, .int 0, .int 0, .int 0, .int 0, .ref h15, .ref h16, .int 0, .ref h17, .ref h18, .int 0, .ref h19, .int 0, .ref h20, .ref h21, .ref h22, .int 0, .ref h23, .ref h24, .ref h25])), (h10, .inl (a9, 6, .inl (upd (upd (upd (upd (upd (upd f0 0 x0) 1 x1) 2 0) 3 0) 4 0) 5 0)))] rfl (by decide) fl_X12_291 rfl rfl rfl (Nat.le_of_ble_eq_true rfl) rfl dX12_runs_40 (fun H locs Wd => ?_)
  refine lv_aload_n C.1 C.2.1 dX12_runs_43 rfl (lv_at hl 1 rfl) ?_
  refine lv_iconst (v := 0) C.1 C.2.1 dX12_runs_44 (by decide) ?_
  refine k_put C Wd KX12 0 31 [(h0, .inr (12, [.ref h1, .ref h2, .ref h3, .ref h4, .int 0, .int 0, .ref h5, .int 0, .int 0, .int 0, .int 0, .int 0, .int 0, .int 0, .int 0, .int 0, .int 0, .int 0, .int 0, .int 0, .int (-1), .int 0, .int 0, .int 0, .ref h6, .ref h7, .ref h8, .ref h9, .ref h10, .ref h11, .int 0, .int 0, .int 0, .int 0, .ref h12, .ref h13, .ref h14, .int 0, .int 0, .int 0, .int 0, .ref h15, .ref h16, .int 0, .ref h17, .ref h18, .int 0, .ref h19, .int 0, .ref h20, .ref h21, .ref h22, .int 0, .ref h23, .ref h24, .ref h25])), (h10, .inl (a9, 6, .inl (upd (upd (upd (upd (upd (upd f0 0 x0) 1 x1) 2 0) 3 0) 4 0) 5 0)))] rfl (by decide) fl_X12_294 rfl rfl rfl (Nat.le_of_ble_eq_true rfl) rfl dX12_runs_45 (fun H locs Wd => ?_)
  refine lv_aload_n C.1 C.2.1 dX12_runs_48 rfl (lv_at hl 1 rfl) ?_
  refine lv_iconst (v := 0) C.1 C.2.1 dX12_runs_49 (by decide) ?_
  refine k_put C Wd KX12 0 32 [(h0, .inr (12, [.ref h1, .ref h2, .ref h3, .ref h4, .int 0, .int 0, .ref h5, .int 0, .int 0, .int 0, .int 0, .int 0, .int 0, .int 0, .int 0, .int 0, .int 0, .int 0, .int 0, .int 0, .int (-1), .int 0, .int 0, .int 0, .ref h6, .ref h7, .ref h8, .ref h9, .ref h10, .ref h11, .int 0, .int 0, .int 0, .int 0, .ref h12, .ref h13, .ref h14, .int 0, .int 0, .int 0, .int 0, .ref h15, .ref h16, .int 0, .ref h17, .ref h18, .int 0, .ref h19, .int 0, .ref h20, .ref h21, .ref h22, .int 0, .ref h23, .ref h24, .ref h25])), (h10, .inl (a9, 6, .inl (upd (upd (upd (upd (upd (upd f0 0 x0) 1 x1) 2 0) 3 0) 4 0) 5 0)))] rfl (by decide) fl_X12_312 rfl rfl rfl (Nat.le_of_ble_eq_true rfl) rfl dX12_runs_50 (fun H locs Wd => ?_)
  refine lv_aload_n C.1 C.2.1 dX12_runs_53 rfl (lv_at hl 1 rfl) ?_
  refine lv_iconst (v := 0) C.1 C.2.1 dX12_runs_54 (by decide) ?_
  refine k_pi (k_runV (rest := []) C aks Wd cs_X12_306 (kcX12_does l D h0 h1 h2 h3 h4 h5 h6 h7 h8 h9 h10 h11 h12 h13 h14 h15 h16 h17 h18 h19 h20 h21 h22 h23 h24 h25 _ ) [0] rfl (by decide) [] rfl 0 12 rfl rfl rfl rfl rfl ⟨(Nat.le_of_ble_eq_true rfl), (Nat.le_of_ble_eq_true rfl)⟩ hl.1 rfl rfl (Nat.le_of_ble_eq_true rfl) ⟨(Nat.le_of_ble_eq_true rfl), (Nat.le_of_ble_eq_true rfl)⟩ dX12_runs_55) (fun r w4618 => ?_)
  obtain rfl := w4618
  refine lv_pop C.1 C.2.1 dX12_runs_58 rfl ?_
  exact k_vret C hr hlk Wd () trivial [0, 1] rfl (by decide) [] rfl (by decide) (by decide) dX12_runs_59
set_option maxHeartbeats 4000000 in
set_option maxRecDepth 100000 in
theorem kcX12_keeps (l : Launch) (D : va_G) (h0 h1 h2 h3 h4 h5 h6 h7 h8 h9 h10 h11 h12 h13 h14 h15 h16 h17 h18 h19 h20 h21 h22 h23 h24 h25 : Nat) (a9 a11 a12 : ClassId) (sz : Nat)  : Met l yX12_keeps (Cond.code yX12_keeps cX12_keeps 3 none :: gG) { frames := 4, cells := 0, slots := 0, locals := 130 } (cPre D [(a9, .int), (a11, .int), (a12, .int)] [(h10, .inl (a9, 6, .inl (fun _ => 0))), (h0, .inr (12, [.ref h1, .ref h2, .ref h3, .ref h4, .int 0, .int 0, .ref h5, .int 0, .int 0, .int 0, .int 0, .int 0, .int 0, .int 0, .int 0, .int 0, .int 0, .int 0, .int 0, .int 0, .int (-1), .int 0, .int 0, .int 0, .ref h6, .ref h7, .ref h8, .ref h9, .ref h10, .ref h11, .int 0, .int 0, .int 0, .int 0, .ref h12, .ref h13, .ref h14, .int 0, .int 0, .int 0, .int 0, .ref h15, .ref h16, .int 0, .ref h17, .ref h18, .int 0, .ref h19, .int 0, .ref h20, .ref h21, .ref h22, .int 0, .ref h23, .ref h24, .ref h25])), (h12, .inl (a11, 256, .inl (fun _ => 0))), (h13, .inl (a12, 256, .inl (fun _ => 0)))] sz [.ref h0]) (va_Qv (fun (_ : (Nat → Int32)) => True) (fun u t => cB D (va_A [(h10, .inl (a9, 6, .inl (fun _ => 0))), (h0, .inr (12, [.ref h1, .ref h2, .ref h3, .ref h4, .int 0, .int 0, .ref h5, .int 0, .int 0, .int 0, .int 0, .int 0, .int 0, .int 0, .int 0, .int 0, .int 0, .int 0, .int 0, .int 0, .int (-1), .int 0, .int 0, .int 0, .ref h6, .ref h7, .ref h8, .ref h9, .ref h10, .ref h11, .int 0, .int 0, .int 0, .int 0, .ref h12, .ref h13, .ref h14, .int 0, .int 0, .int 0, .int 0, .ref h15, .ref h16, .int 0, .ref h17, .ref h18, .int 0, .ref h19, .int 0, .ref h20, .ref h21, .ref h22, .int 0, .ref h23, .ref h24, .ref h25])), (h12, .inl (a11, 256, .inl (fun _ => 0))), (h13, .inl (a12, 256, .inl (fun _ => 0)))] sz) ((fun fu4622 => []) u) ((fun fu4622 => [(h10, .inl (a9, 6, .inl fu4622)), (h0, .inr (12, [.ref h1, .ref h2, .ref h3, .ref h4, .int 0, .int 0, .ref h5, .int 0, .int 0, .int 0, .int 0, .int 0, .int 0, .int 0, .int 0, .int 0, .int 0, .int 0, .int 0, .int 0, .int (-1), .int 0, .int 0, .int 0, .ref h6, .ref h7, .ref h8, .ref h9, .ref h10, .ref h11, .int 0, .int 0, .int 0, .int 0, .ref h12, .ref h13, .ref h14, .int 0, .int 0, .int 0, .int 0, .ref h15, .ref h16, .int 0, .ref h17, .ref h18, .int 0, .ref h19, .int 0, .ref h20, .ref h21, .ref h22, .int 0, .ref h23, .ref h24, .ref h25])), (h12, .inl (a11, 256, .inl (fun _ => 0))), (h13, .inl (a12, 256, .inl (fun _ => 0)))]) u) t) (va_A [(h10, .inl (a9, 6, .inl (fun _ => 0))), (h0, .inr (12, [.ref h1, .ref h2, .ref h3, .ref h4, .int 0, .int 0, .ref h5, .int 0, .int 0, .int 0, .int 0, .int 0, .int 0, .int 0, .int 0, .int 0, .int 0, .int 0, .int 0, .int 0, .int (-1), .int 0, .int 0, .int 0, .ref h6, .ref h7, .ref h8, .ref h9, .ref h10, .ref h11, .int 0, .int 0, .int 0, .int 0, .ref h12, .ref h13, .ref h14, .int 0, .int 0, .int 0, .int 0, .ref h15, .ref h16, .int 0, .ref h17, .ref h18, .int 0, .ref h19, .int 0, .ref h20, .ref h21, .ref h22, .int 0, .ref h23, .ref h24, .ref h25])), (h12, .inl (a11, 256, .inl (fun _ => 0))), (h13, .inl (a12, 256, .inl (fun _ => 0)))] sz)) 0 0 (va_A [(h10, .inl (a9, 6, .inl (fun _ => 0))), (h0, .inr (12, [.ref h1, .ref h2, .ref h3, .ref h4, .int 0, .int 0, .ref h5, .int 0, .int 0, .int 0, .int 0, .int 0, .int 0, .int 0, .int 0, .int 0, .int 0, .int 0, .int 0, .int 0, .int (-1), .int 0, .int 0, .int 0, .ref h6, .ref h7, .ref h8, .ref h9, .ref h10, .ref h11, .int 0, .int 0, .int 0, .int 0, .ref h12, .ref h13, .ref h14, .int 0, .int 0, .int 0, .int 0, .ref h15, .ref h16, .int 0, .ref h17, .ref h18, .int 0, .ref h19, .int 0, .ref h20, .ref h21, .ref h22, .int 0, .ref h23, .ref h24, .ref h25])), (h12, .inl (a11, 256, .inl (fun _ => 0))), (h13, .inl (a12, 256, .inl (fun _ => 0)))] sz) := by
  refine Met.ofW (cc := cX12_keeps) (maxL := 3) (ret := none) (by decide) rfl ?_
  intro p e s m args below meth c s₁ B hml hv
  obtain ⟨rfl, aks, rfl, Wd⟩ := k_enter hv
  have C : CallFix p m c cX12_keeps 3 s _ gG RX12 := ⟨B.exec, B.bytes, hml, findClass_of_methodNamed B.named, fun w h => atoms_spec (ws := Cond.code yX12_keeps cX12_keeps 3 none :: gG) B.pre w (List.mem_cons_of_mem _ h)⟩
  have hr := B.returns
  have hlk := B.notSynchronized
  generalize va_A [(h10, .inl (a9, 6, .inl (fun _ => 0))), (h0, .inr (12, [.ref h1, .ref h2, .ref h3, .ref h4, .int 0, .int 0, .ref h5, .int 0, .int 0, .int 0, .int 0, .int 0, .int 0, .int 0, .int 0, .int 0, .int 0, .int 0, .int 0, .int 0, .int (-1), .int 0, .int 0, .int 0, .ref h6, .ref h7, .ref h8, .ref h9, .ref h10, .ref h11, .int 0, .int 0, .int 0, .int 0, .ref h12, .ref h13, .ref h14, .int 0, .int 0, .int 0, .int 0, .ref h15, .ref h16, .int 0, .ref h17, .ref h18, .int 0, .ref h19, .int 0, .ref h20, .ref h21, .ref h22, .int 0, .ref h23, .ref h24, .ref h25])), (h12, .inl (a11, 256, .inl (fun _ => 0))), (h13, .inl (a12, 256, .inl (fun _ => 0)))] s.heap.size = A at Wd ⊢
  refine k_locals (Nat.le_of_ble_eq_true rfl) [(0, .ref h0)] rfl (fun ls hl => ?_)
  refine lv_iconst (v := 0) C.1 C.2.1 dX12_keeps_0 (by decide) ?_
  refine lv_istore_n (lv' := [(1, .int 0), (0, .ref h0)]) C.1 C.2.1 dX12_keeps_1 rfl hl (by decide) rfl (fun ls hl => ?_)
  refine k_loop (X := Nat → Int32) (fun lx4621 fu4622 H locs ls => ¬ lx4621 < 0 ∧ lx4621 ≤ 256 ∧ wX D [(a9, .int), (a11, .int), (a12, .int)] s [(h10, .inl (a9, 6, .inl fu4622)), (h0, .inr (12, [.ref h1, .ref h2, .ref h3, .ref h4, .int 0, .int 0, .ref h5, .int 0, .int 0, .int 0, .int 0, .int 0, .int 0, .int 0, .int 0, .int 0, .int 0, .int 0, .int 0, .int 0, .int (-1), .int 0, .int 0, .int 0, .ref h6, .ref h7, .ref h8, .ref h9, .ref h10, .ref h11, .int 0, .int 0, .int 0, .int 0, .ref h12, .ref h13, .ref h14, .int 0, .int 0, .int 0, .int 0, .ref h15, .ref h16, .int 0, .ref h17, .ref h18, .int 0, .ref h19, .int 0, .ref h20, .ref h21, .ref h22, .int 0, .ref h23, .ref h24, .ref h25])), (h12, .inl (a11, 256, .inl (fun _ => 0))), (h13, .inl (a12, 256, .inl (fun _ => 0)))] H A s.heap locs ∧ lv_has ls 3 [(1, .int lx4621), (0, .ref h0)]) 2 256 (fun lx4621 fu4622 H locs ls hi ih4623 => ?_) 0 (fun _ => 0) _ _ _ ⟨by decide, by decide, Wd, hl⟩
  obtain ⟨li4624, li4625, Wd, hl⟩ := hi
  refine lv_iload_n C.1 C.2.1 dX12_keeps_2 rfl (lv_at hl 0 rfl) ?_
  refine lv_sipush (v := 256) C.1 C.2.1 dX12_keeps_3 (by decide) ?_
  refine lv_icmp_ge (tgt := 80) C.1 C.2.1 dX12_keeps_6 (by decide) (fun c4626 => ?_) (fun c4626 => ?_)
  · exact k_vret C hr hlk Wd fu4622 trivial [0, 1, 2, 3] rfl (by decide) [] rfl (by decide) (by decide) dX12_keeps_80
  · refine lv_aload_n C.1 C.2.1 dX12_keeps_9 rfl (lv_at hl 1 rfl) ?_
    refine lv_iload_n C.1 C.2.1 dX12_keeps_10 rfl (lv_at hl 0 rfl) ?_
    refine lv_bipush (v := 16) C.1 C.2.1 dX12_keeps_11 (by decide) ?_
    refine k_idiv (v := (lx4621 / 16)) C (by decide) rfl dX12_keeps_13 ?_
    refine lv_iload_n C.1 C.2.1 dX12_keeps_14 rfl (lv_at hl 0 rfl) ?_
    refine lv_bipush (v := 16) C.1 C.2.1 dX12_keeps_15 (by decide) ?_
    refine k_irem (v := (lx4621 - lx4621 / 16 * 16)) C (by decide) rfl dX12_keeps_17 ?_
    refine k_cv Wd [1, 0] [2, 3] rfl (wr := [(h12, .inl (a11, 256, .inl (fun _ => 0))), (h13, .inl (a12, 256, .inl (fun _ => 0)))]) rfl (by decide) (by decide) (cells' := 0) (slots' := 0) (by decide) (by decide) (k_runV (rest := []) C aks Wd cs_X12_315 (kcX12_runs_v1 l D h0 h1 h2 h3 h4 h5 h6 h7 h8 h9 h10 h11 h12 h13 h14 h15 h16 h17 h18 h19 h20 h21 h22 h23 h24 h25 (lx4621 / 16) (lx4621 - lx4621 / 16 * 16) fu4622 a9 _ ) [1, 0] rfl (by decide) [0] rfl 1 12 rfl rfl rfl rfl rfl ⟨(Nat.le_of_ble_eq_true rfl), (Nat.le_of_ble_eq_true rfl)⟩ hl.1 rfl rfl (Nat.le_of_ble_eq_true rfl) ⟨(Nat.le_of_ble_eq_true rfl), (Nat.le_of_ble_eq_true rfl)⟩ dX12_keeps_18) (fun _ H locs w4627 Wd => ?_)
    have Wd : wX D [(a9, .int), (a11, .int), (a12, .int)] s [(h12, .inl (a11, 256, .inl (fun _ => 0))), (h13, .inl (a12, 256, .inl (fun _ => 0))), (h0, .inr (12, [.ref h1, .ref h2, .ref h3, .ref h4, .int 0, .int 0, .ref h5, .int 0, .int 0, .int 0, .int 0, .int 0, .int 0, .int 0, .int 0, .int 0, .int 0, .int 0, .int 0, .int 0, .int (-1), .int 0, .int 0, .int 0, .ref h6, .ref h7, .ref h8, .ref h9, .ref h10, .ref h11, .int 0, .int 0, .int 0, .int 0, .ref h12, .ref h13, .ref h14, .int 0, .int 0, .int 0, .int 0, .ref h15, .ref h16, .int 0, .ref h17, .ref h18, .int 0, .ref h19, .int 0, .ref h20, .ref h21, .ref h22, .int 0, .ref h23, .ref h24, .ref h25])), (h10, .inl (a9, 6, .inl (upd (upd (upd (upd (upd (upd fu4622 0 (lx4621 / 16)) 1 (lx4621 - lx4621 / 16 * 16)) 2 0) 3 0) 4 0) 5 0)))] _ A s.heap _ := Wd
    refine lv_aload_n C.1 C.2.1 dX12_keeps_21 rfl (lv_at hl 1 rfl) ?_
    refine k_get C Wd KX12 2 34 rfl (by decide) fl_X12_47 rfl dX12_keeps_22 ?_
    refine lv_iload_n C.1 C.2.1 dX12_keeps_25 rfl (lv_at hl 0 rfl) ?_
    refine lv_aload_n C.1 C.2.1 dX12_keeps_26 rfl (lv_at hl 1 rfl) ?_
    refine k_get C Wd KX12 2 31 rfl (by decide) fl_X12_294 rfl dX12_keeps_27 ?_
    refine k_iast C Wd 0 1 [(h12, .inl (a11, 256, .inl (fun _ => 0))), (h13, .inl (a12, 256, .inl (fun _ => 0))), (h0, .inr (12, [.ref h1, .ref h2, .ref h3, .ref h4, .int 0, .int 0, .ref h5, .int 0, .int 0, .int 0, .int 0, .int 0, .int 0, .int 0, .int 0, .int 0, .int 0, .int 0, .int 0, .int 0, .int (-1), .int 0, .int 0, .int 0, .ref h6, .ref h7, .ref h8, .ref h9, .ref h10, .ref h11, .int 0, .int 0, .int 0, .int 0, .ref h12, .ref h13, .ref h14, .int 0, .int 0, .int 0, .int 0, .ref h15, .ref h16, .int 0, .ref h17, .ref h18, .int 0, .ref h19, .int 0, .ref h20, .ref h21, .ref h22, .int 0, .ref h23, .ref h24, .ref h25])), (h10, .inl (a9, 6, .inl (upd (upd (upd (upd (upd (upd fu4622 0 (lx4621 / 16)) 1 (lx4621 - lx4621 / 16 * 16)) 2 0) 3 0) 4 0) 5 0)))] rfl rfl (vp_in_iff.mpr ⟨by have z0 := kz_nlt li4624; have z1 := kz_le li4625; have z2 := kz_nle c4626; have t0 : (0 : Int32).toInt = 0 := (by decide); have t256 : (256 : Int32).toInt = 256 := (by decide); omega, by have z0 := kz_nlt li4624; have z1 := kz_le li4625; have z2 := kz_nle c4626; have t0 : (0 : Int32).toInt = 0 := (by decide); have t256 : (256 : Int32).toInt = 256 := (by decide); omega⟩) (upd0 _) rfl dX12_keeps_30 (fun H locs Wd => ?_)
    refine lv_aload_n C.1 C.2.1 dX12_keeps_31 rfl (lv_at hl 1 rfl) ?_
    refine k_get C Wd KX12 2 35 rfl (by decide) fl_X12_50 rfl dX12_keeps_32 ?_
    refine lv_iload_n C.1 C.2.1 dX12_keeps_35 rfl (lv_at hl 0 rfl) ?_
    refine lv_aload_n C.1 C.2.1 dX12_keeps_36 rfl (lv_at hl 1 rfl) ?_
    refine k_get C Wd KX12 2 32 rfl (by decide) fl_X12_312 rfl dX12_keeps_37 ?_
    refine k_iast C Wd 1 2 [(h12, .inl (a11, 256, .inl (fun _ => 0))), (h13, .inl (a12, 256, .inl (fun _ => 0))), (h0, .inr (12, [.ref h1, .ref h2, .ref h3, .ref h4, .int 0, .int 0, .ref h5, .int 0, .int 0, .int 0, .int 0, .int 0, .int 0, .int 0, .int 0, .int 0, .int 0, .int 0, .int 0, .int 0, .int (-1), .int 0, .int 0, .int 0, .ref h6, .ref h7, .ref h8, .ref h9, .ref h10, .ref h11, .int 0, .int 0, .int 0, .int 0, .ref h12, .ref h13, .ref h14, .int 0, .int 0, .int 0, .int 0, .ref h15, .ref h16, .int 0, .ref h17, .ref h18, .int 0, .ref h19, .int 0, .ref h20, .ref h21, .ref h22, .int 0, .ref h23, .ref h24, .ref h25])), (h10, .inl (a9, 6, .inl (upd (upd (upd (upd (upd (upd fu4622 0 (lx4621 / 16)) 1 (lx4621 - lx4621 / 16 * 16)) 2 0) 3 0) 4 0) 5 0)))] rfl rfl (vp_in_iff.mpr ⟨by have z0 := kz_nlt li4624; have z1 := kz_le li4625; have z2 := kz_nle c4626; have t0 : (0 : Int32).toInt = 0 := (by decide); have t256 : (256 : Int32).toInt = 256 := (by decide); omega, by have z0 := kz_nlt li4624; have z1 := kz_le li4625; have z2 := kz_nle c4626; have t0 : (0 : Int32).toInt = 0 := (by decide); have t256 : (256 : Int32).toInt = 256 := (by decide); omega⟩) (upd0 _) rfl dX12_keeps_40 (fun H locs Wd => ?_)
    refine lv_iconst (v := 0) C.1 C.2.1 dX12_keeps_41 (by decide) ?_
    refine lv_istore_n (lv' := [(2, .int 0), (1, .int lx4621), (0, .ref h0)]) C.1 C.2.1 dX12_keeps_42 rfl hl (by decide) rfl (fun ls hl => ?_)
    refine lv_iload_n C.1 C.2.1 dX12_keeps_43 rfl (lv_at hl 0 rfl) ?_
    refine lv_aload_n C.1 C.2.1 dX12_keeps_44 rfl (lv_at hl 2 rfl) ?_
    refine k_get C Wd KX12 2 32 rfl (by decide) fl_X12_312 rfl dX12_keeps_45 ?_
    refine lv_icmp_ge (tgt := 74) C.1 C.2.1 dX12_keeps_48 (by decide) (fun _ => ?_) (fun c4628 => absurd c4628 (by decide))
    refine lv_iinc (v := (lx4621 + 1)) (lv' := [(1, .int (lx4621 + 1)), (2, .int 0), (0, .ref h0)]) C.1 C.2.1 dX12_keeps_74 hl (k := 1) rfl rfl (by decide) rfl (fun ls hl => ?_)
    refine lv_goto (tgt := 2) C.1 C.2.1 dX12_keeps_77 (by decide) ?_
    exact ih4623 (lx4621 + 1) (upd (upd (upd (upd (upd (upd fu4622 0 (lx4621 / 16)) 1 (lx4621 - lx4621 / 16 * 16)) 2 0) 3 0) 4 0) 5 0) _ _ _ ⟨fun hq => by have zq := kz_lt hq; have z0 := kz_nlt li4624; have z1 := kz_le li4625; have z2 := kz_nle c4626; have zr := kz_rng lx4621; have z3 := kz_addI (a := lx4621) (b := 1); have t0 : (0 : Int32).toInt = 0 := (by decide); have t256 : (256 : Int32).toInt = 256 := (by decide); have t1 : (1 : Int32).toInt = 1 := (by decide); omega, Int32.le_iff_toInt_le.mpr (by have z0 := kz_nlt li4624; have z1 := kz_le li4625; have z2 := kz_nle c4626; have zr := kz_rng lx4621; have z3 := kz_addI (a := lx4621) (b := 1); have t0 : (0 : Int32).toInt = 0 := (by decide); have t256 : (256 : Int32).toInt = 256 := (by decide); have t1 : (1 : Int32).toInt = 1 := (by decide); omega), k_sub Wd [3, 2, 0, 1] rfl (by decide) [0, 1, 2] rfl, lv_sub hl [0, 2] rfl⟩ (by have z0 := kz_nlt li4624; have z1 := kz_le li4625; have z2 := kz_nle c4626; have zr := kz_rng lx4621; have z3 := kz_addI (a := lx4621) (b := 1); have t0 : (0 : Int32).toInt = 0 := (by decide); have t256 : (256 : Int32).toInt = 256 := (by decide); have t1 : (1 : Int32).toInt = 1 := (by decide); omega)
set_option maxHeartbeats 4000000 in
set_option maxRecDepth 100000 in
theorem kcX12_isLast_v1 (l : Launch) (D : va_G) (h0 h1 h2 h3 h4 h5 h6 h7 h8 h9 h10 h11 h12 h13 h14 h15 h16 h17 h18 h19 h20 h21 h22 h23 h24 h25 : Nat) (sz : Nat)  : Met l yX12_isLast (Cond.code yX12_isLast cX12_isLast 2 (some .boolean) :: gG) { frames := 1, cells := 0, slots := 0, locals := 64 } (cPre D [] [(h0, .inr (12, [.ref h1, .ref h2, .ref h3, .ref h4, .int 0, .int 0, .ref h5, .int 0, .int 0, .int 0, .int 0, .int 0, .int 0, .int 0, .int 0, .int 0, .int 0, .int 0, .int 0, .int 0, .int (-1), .int 0, .int 0, .int 0, .ref h6, .ref h7, .ref h8, .ref h9, .ref h10, .ref h11, .int 0, .int 0, .int 0, .int 0, .ref h12, .ref h13, .ref h14, .int (-1), .int (-1), .int 0, .int 0, .ref h15, .ref h16, .int 0, .ref h17, .ref h18, .int 0, .ref h19, .int 0, .ref h20, .ref h21, .ref h22, .int 0, .ref h23, .ref h24, .ref h25]))] sz [.ref h0, .int 0]) (vp_Si (fun r => r = 1)) 0 0 (fun _ => False) := by
  refine Met.ofW (cc := cX12_isLast) (maxL := 2) (ret := (some .boolean)) (by decide) rfl ?_
  intro p e s m args below meth c s₁ B hml hv
  obtain ⟨rfl, aks, rfl, Wd⟩ := k_enter hv
  have C : CallFix p m c cX12_isLast 2 s _ gG RX12 := ⟨B.exec, B.bytes, hml, findClass_of_methodNamed B.named, fun w h => atoms_spec (ws := Cond.code yX12_isLast cX12_isLast 2 (some .boolean) :: gG) B.pre w (List.mem_cons_of_mem _ h)⟩
  have hr := B.returns
  have hlk := B.notSynchronized
  obtain ⟨A, Wd⟩ : ∃ A, wX D [] s [(h0, .inr (12, [.ref h1, .ref h2, .ref h3, .ref h4, .int 0, .int 0, .ref h5, .int 0, .int 0, .int 0, .int 0, .int 0, .int 0, .int 0, .int 0, .int 0, .int 0, .int 0, .int 0, .int 0, .int (-1), .int 0, .int 0, .int 0, .ref h6, .ref h7, .ref h8, .ref h9, .ref h10, .ref h11, .int 0, .int 0, .int 0, .int 0, .ref h12, .ref h13, .ref h14, .int (-1), .int (-1), .int 0, .int 0, .ref h15, .ref h16, .int 0, .ref h17, .ref h18, .int 0, .ref h19, .int 0, .ref h20, .ref h21, .ref h22, .int 0, .ref h23, .ref h24, .ref h25]))] s.heap A s.heap [] := ⟨_, Wd⟩
  refine k_locals (Nat.le_of_ble_eq_true rfl) [(0, .ref h0), (1, .int 0)] rfl (fun ls hl => ?_)
  refine lv_iload_n C.1 C.2.1 dX12_isLast_0 rfl (lv_at hl 1 rfl) ?_
  refine lv_aload_n C.1 C.2.1 dX12_isLast_1 rfl (lv_at hl 0 rfl) ?_
  refine k_get C Wd KX12 0 4 rfl (by decide) fl_X12_98 rfl dX12_isLast_2 ?_
  refine lv_icmp_eq (tgt := 30) C.1 C.2.1 dX12_isLast_5 (by decide) (fun _ => ?_) (fun c4657 => absurd c4657 (by decide))
  refine lv_iconst (v := 1) C.1 C.2.1 dX12_isLast_30 (by decide) ?_
  refine lv_goto (tgt := 35) C.1 C.2.1 dX12_isLast_31 (by decide) ?_
  exact k_zretP C hr hlk rfl rfl dX12_isLast_35
set_option maxHeartbeats 4000000 in
set_option maxRecDepth 100000 in
theorem kcX12_does_v1 (l : Launch) (D : va_G) (h0 h1 h2 h3 h4 h5 h6 h7 h8 h9 h10 h11 h12 h13 h14 h15 h16 h17 h18 h19 h20 h21 h22 h23 h24 h25 : Nat) (sz : Nat)  : Met l yX12_does (Cond.code yX12_does cX12_does 3 (some .boolean) :: gG) { frames := 2, cells := 0, slots := 0, locals := 85 } (cPre D [] [(h0, .inr (12, [.ref h1, .ref h2, .ref h3, .ref h4, .int 0, .int 0, .ref h5, .int 0, .int 0, .int 0, .int 0, .int 0, .int 0, .int 0, .int 0, .int 0, .int 0, .int 0, .int 0, .int 0, .int (-1), .int 0, .int 0, .int 0, .ref h6, .ref h7, .ref h8, .ref h9, .ref h10, .ref h11, .int 0, .int 0, .int 0, .int 0, .ref h12, .ref h13, .ref h14, .int (-1), .int (-1), .int 0, .int 0, .ref h15, .ref h16, .int 0, .ref h17, .ref h18, .int 0, .ref h19, .int 0, .ref h20, .ref h21, .ref h22, .int 0, .ref h23, .ref h24, .ref h25]))] sz [.ref h0, .int 0]) (vp_Si (fun r => r = 1)) 0 0 (fun _ => False) := by
  refine Met.ofW (cc := cX12_does) (maxL := 3) (ret := (some .boolean)) (by decide) rfl ?_
  intro p e s m args below meth c s₁ B hml hv
  obtain ⟨rfl, aks, rfl, Wd⟩ := k_enter hv
  have C : CallFix p m c cX12_does 3 s _ gG RX12 := ⟨B.exec, B.bytes, hml, findClass_of_methodNamed B.named, fun w h => atoms_spec (ws := Cond.code yX12_does cX12_does 3 (some .boolean) :: gG) B.pre w (List.mem_cons_of_mem _ h)⟩
  have hr := B.returns
  have hlk := B.notSynchronized
  obtain ⟨A, Wd⟩ : ∃ A, wX D [] s [(h0, .inr (12, [.ref h1, .ref h2, .ref h3, .ref h4, .int 0, .int 0, .ref h5, .int 0, .int 0, .int 0, .int 0, .int 0, .int 0, .int 0, .int 0, .int 0, .int 0, .int 0, .int 0, .int 0, .int (-1), .int 0, .int 0, .int 0, .ref h6, .ref h7, .ref h8, .ref h9, .ref h10, .ref h11, .int 0, .int 0, .int 0, .int 0, .ref h12, .ref h13, .ref h14, .int (-1), .int (-1), .int 0, .int 0, .ref h15, .ref h16, .int 0, .ref h17, .ref h18, .int 0, .ref h19, .int 0, .ref h20, .ref h21, .ref h22, .int 0, .ref h23, .ref h24, .ref h25]))] s.heap A s.heap [] := ⟨_, Wd⟩
  refine k_locals (Nat.le_of_ble_eq_true rfl) [(0, .ref h0), (1, .int 0)] rfl (fun ls hl => ?_)
  refine lv_iload_n C.1 C.2.1 dX12_does_0 rfl (lv_at hl 1 rfl) ?_
  refine lv_istore_n (lv' := [(2, .int 0), (0, .ref h0), (1, .int 0)]) C.1 C.2.1 dX12_does_1 rfl hl (by decide) rfl (fun ls hl => ?_)
  refine lv_aload_n C.1 C.2.1 dX12_does_2 rfl (lv_at hl 1 rfl) ?_
  refine lv_iload_n C.1 C.2.1 dX12_does_3 rfl (lv_at hl 0 rfl) ?_
  refine k_pi (k_runV (rest := []) C aks Wd cs_X12_107 (kcX12_isLast_v1 l D h0 h1 h2 h3 h4 h5 h6 h7 h8 h9 h10 h11 h12 h13 h14 h15 h16 h17 h18 h19 h20 h21 h22 h23 h24 h25 _ ) [0] rfl (by decide) [] rfl 0 12 rfl rfl rfl rfl rfl ⟨(Nat.le_of_ble_eq_true rfl), (Nat.le_of_ble_eq_true rfl)⟩ hl.1 rfl rfl (Nat.le_of_ble_eq_true rfl) ⟨(Nat.le_of_ble_eq_true rfl), (Nat.le_of_ble_eq_true rfl)⟩ dX12_does_4) (fun r w4660 => ?_)
  obtain rfl := w4660
  refine lv_if_ne (tgt := 29) C.1 C.2.1 dX12_does_7 (by decide) (fun _ => ?_) (fun c4661 => absurd c4661 (by decide))
  refine lv_iconst (v := 1) C.1 C.2.1 dX12_does_29 (by decide) ?_
  exact k_zretP C hr hlk rfl rfl dX12_does_30
set_option maxHeartbeats 4000000 in
set_option maxRecDepth 100000 in
theorem kcX12_runs_v2 (l : Launch) (D : va_G) (h0 h1 h2 h3 h4 h5 h6 h7 h8 h9 h10 h11 h12 h13 h14 h15 h16 h17 h18 h19 h20 h21 h22 h23 h24 h25 : Nat) (x0 x1 : Int32) (f0 : Nat → Int32) (a9 : ClassId) (sz : Nat)  : Met l yX12_runs (Cond.code yX12_runs cX12_runs 4 none :: gG) { frames := 3, cells := 0, slots := 0, locals := 107 } (cPre D [(a9, .int)] [(h0, .inr (12, [.ref h1, .ref h2, .ref h3, .ref h4, .int 0, .int 0, .ref h5, .int 0, .int 0, .int 0, .int 0, .int 0, .int 0, .int 0, .int 0, .int 0, .int 0, .int 0, .int 0, .int 0, .int (-1), .int 0, .int 0, .int 0, .ref h6, .ref h7, .ref h8, .ref h9, .ref h10, .ref h11, .int 0, .int 0, .int 0, .int 0, .ref h12, .ref h13, .ref h14, .int (-1), .int (-1), .int 0, .int 0, .ref h15, .ref h16, .int 0, .ref h17, .ref h18, .int 0, .ref h19, .int 0, .ref h20, .ref h21, .ref h22, .int 0, .ref h23, .ref h24, .ref h25])), (h10, .inl (a9, 6, .inl f0))] sz [.ref h0, .int x0, .int x1]) (va_Qv (fun (_ : Unit) => True) (fun u t => cB D (va_A [(h0, .inr (12, [.ref h1, .ref h2, .ref h3, .ref h4, .int 0, .int 0, .ref h5, .int 0, .int 0, .int 0, .int 0, .int 0, .int 0, .int 0, .int 0, .int 0, .int 0, .int 0, .int 0, .int 0, .int (-1), .int 0, .int 0, .int 0, .ref h6, .ref h7, .ref h8, .ref h9, .ref h10, .ref h11, .int 0, .int 0, .int 0, .int 0, .ref h12, .ref h13, .ref h14, .int (-1), .int (-1), .int 0, .int 0, .ref h15, .ref h16, .int 0, .ref h17, .ref h18, .int 0, .ref h19, .int 0, .ref h20, .ref h21, .ref h22, .int 0, .ref h23, .ref h24, .ref h25])), (h10, .inl (a9, 6, .inl f0))] sz) ((fun (_ : Unit) => ([] : List (ClassId × FieldType))) u) ((fun (_ : Unit) => ([(h0, .inr (12, [.ref h1, .ref h2, .ref h3, .ref h4, .int 0, .int 0, .ref h5, .int 0, .int 0, .int 0, .int 0, .int 0, .int 0, .int 0, .int 0, .int 0, .int 0, .int 0, .int 0, .int 0, .int (-1), .int 0, .int 0, .int 0, .ref h6, .ref h7, .ref h8, .ref h9, .ref h10, .ref h11, .int 0, .int 0, .int 0, .int 0, .ref h12, .ref h13, .ref h14, .int (-1), .int (-1), .int 0, .int 0, .ref h15, .ref h16, .int 0, .ref h17, .ref h18, .int 0, .ref h19, .int 0, .ref h20, .ref h21, .ref h22, .int 0, .ref h23, .ref h24, .ref h25])), (h10, .inl (a9, 6, .inl (upd (upd (upd (upd (upd (upd f0 0 x0) 1 x1) 2 0) 3 0) 4 0) 5 0)))] : va_W)) u) t) (va_A [(h0, .inr (12, [.ref h1, .ref h2, .ref h3, .ref h4, .int 0, .int 0, .ref h5, .int 0, .int 0, .int 0, .int 0, .int 0, .int 0, .int 0, .int 0, .int 0, .int 0, .int 0, .int 0, .int 0, .int (-1), .int 0, .int 0, .int 0, .ref h6, .ref h7, .ref h8, .ref h9, .ref h10, .ref h11, .int 0, .int 0, .int 0, .int 0, .ref h12, .ref h13, .ref h14, .int (-1), .int (-1), .int 0, .int 0, .ref h15, .ref h16, .int 0, .ref h17, .ref h18, .int 0, .ref h19, .int 0, .ref h20, .ref h21, .ref h22, .int 0, .ref h23, .ref h24, .ref h25])), (h10, .inl (a9, 6, .inl f0))] sz)) 0 0 (va_A [(h0, .inr (12, [.ref h1, .ref h2, .ref h3, .ref h4, .int 0, .int 0, .ref h5, .int 0, .int 0, .int 0, .int 0, .int 0, .int 0, .int 0, .int 0, .int 0, .int 0, .int 0, .int 0, .int 0, .int (-1), .int 0, .int 0, .int 0, .ref h6, .ref h7, .ref h8, .ref h9, .ref h10, .ref h11, .int 0, .int 0, .int 0, .int 0, .ref h12, .ref h13, .ref h14, .int (-1), .int (-1), .int 0, .int 0, .ref h15, .ref h16, .int 0, .ref h17, .ref h18, .int 0, .ref h19, .int 0, .ref h20, .ref h21, .ref h22, .int 0, .ref h23, .ref h24, .ref h25])), (h10, .inl (a9, 6, .inl f0))] sz) := by
  refine Met.ofW (cc := cX12_runs) (maxL := 4) (ret := none) (by decide) rfl ?_
  intro p e s m args below meth c s₁ B hml hv
  obtain ⟨rfl, aks, rfl, Wd⟩ := k_enter hv
  have C : CallFix p m c cX12_runs 4 s _ gG RX12 := ⟨B.exec, B.bytes, hml, findClass_of_methodNamed B.named, fun w h => atoms_spec (ws := Cond.code yX12_runs cX12_runs 4 none :: gG) B.pre w (List.mem_cons_of_mem _ h)⟩
  have hr := B.returns
  have hlk := B.notSynchronized
  generalize va_A [(h0, .inr (12, [.ref h1, .ref h2, .ref h3, .ref h4, .int 0, .int 0, .ref h5, .int 0, .int 0, .int 0, .int 0, .int 0, .int 0, .int 0, .int 0, .int 0, .int 0, .int 0, .int 0, .int 0, .int (-1), .int 0, .int 0, .int 0, .ref h6, .ref h7, .ref h8, .ref h9, .ref h10, .ref h11, .int 0, .int 0, .int 0, .int 0, .ref h12, .ref h13, .ref h14, .int (-1), .int (-1), .int 0, .int 0, .ref h15, .ref h16, .int 0, .ref h17, .ref h18, .int 0, .ref h19, .int 0, .ref h20, .ref h21, .ref h22, .int 0, .ref h23, .ref h24, .ref h25])), (h10, .inl (a9, 6, .inl f0))] s.heap.size = A at Wd ⊢
  refine k_locals (Nat.le_of_ble_eq_true rfl) [(0, .ref h0), (1, .int x0), (2, .int x1)] rfl (fun ls hl => ?_)
  refine lv_iconst (v := 0) C.1 C.2.1 dX12_runs_0 (by decide) ?_
  refine lv_istore_n (lv' := [(3, .int 0), (0, .ref h0), (1, .int x0), (2, .int x1)]) C.1 C.2.1 dX12_runs_1 rfl hl (by decide) rfl (fun ls hl => ?_)
  refine lv_iload_n C.1 C.2.1 dX12_runs_2 rfl (lv_at hl 0 rfl) ?_
  refine lv_bipush (v := 6) C.1 C.2.1 dX12_runs_3 (by decide) ?_
  refine lv_icmp_ge (tgt := 38) C.1 C.2.1 dX12_runs_5 (by decide) (fun c4663 => absurd c4663 (by decide)) (fun _ => ?_)
  refine lv_aload_n C.1 C.2.1 dX12_runs_8 rfl (lv_at hl 1 rfl) ?_
  refine k_get C Wd KX12 0 28 rfl (by decide) fl_X12_41 rfl dX12_runs_9 ?_
  refine lv_iload_n C.1 C.2.1 dX12_runs_12 rfl (lv_at hl 0 rfl) ?_
  refine lv_iload_n C.1 C.2.1 dX12_runs_13 rfl (lv_at hl 0 rfl) ?_
  refine lv_if_ne (tgt := 21) C.1 C.2.1 dX12_runs_14 (by decide) (fun c4664 => absurd c4664 (by decide)) (fun _ => ?_)
  refine lv_iload_n C.1 C.2.1 dX12_runs_17 rfl (lv_at hl 2 rfl) ?_
  refine lv_goto (tgt := 31) C.1 C.2.1 dX12_runs_18 (by decide) ?_
  refine k_iast C Wd 1 0 [(h0, .inr (12, [.ref h1, .ref h2, .ref h3, .ref h4, .int 0, .int 0, .ref h5, .int 0, .int 0, .int 0, .int 0, .int 0, .int 0, .int 0, .int 0, .int 0, .int 0, .int 0, .int 0, .int 0, .int (-1), .int 0, .int 0, .int 0, .ref h6, .ref h7, .ref h8, .ref h9, .ref h10, .ref h11, .int 0, .int 0, .int 0, .int 0, .ref h12, .ref h13, .ref h14, .int (-1), .int (-1), .int 0, .int 0, .ref h15, .ref h16, .int 0, .ref h17, .ref h18, .int 0, .ref h19, .int 0, .ref h20, .ref h21, .ref h22, .int 0, .ref h23, .ref h24, .ref h25])), (h10, .inl (a9, 6, .inl (upd f0 0 x0)))] rfl rfl (vp_in_iff.mpr (by decide)) rfl rfl dX12_runs_31 (fun H locs Wd => ?_)
  refine lv_iinc (v := 1) (lv' := [(3, .int 1), (0, .ref h0), (1, .int x0), (2, .int x1)]) C.1 C.2.1 dX12_runs_32 hl (k := 0) rfl (by decide) (by decide) rfl (fun ls hl => ?_)
  refine lv_goto (tgt := 2) C.1 C.2.1 dX12_runs_35 (by decide) ?_
  refine lv_iload_n C.1 C.2.1 dX12_runs_2 rfl (lv_at hl 0 rfl) ?_
  refine lv_bipush (v := 6) C.1 C.2.1 dX12_runs_3 (by decide) ?_
  refine lv_icmp_ge (tgt := 38) C.1 C.2.1 dX12_runs_5 (by decide) (fun c4665 => absurd c4665 (by decide)) (fun _ => ?_)
  refine lv_aload_n C.1 C.2.1 dX12_runs_8 rfl (lv_at hl 1 rfl) ?_
  refine k_get C Wd KX12 0 28 rfl (by decide) fl_X12_41 rfl dX12_runs_9 ?_
  refine lv_iload_n C.1 C.2.1 dX12_runs_12 rfl (lv_at hl 0 rfl) ?_
  refine lv_iload_n C.1 C.2.1 dX12_runs_13 rfl (lv_at hl 0 rfl) ?_
  refine lv_if_ne (tgt := 21) C.1 C.2.1 dX12_runs_14 (by decide) (fun _ => ?_) (fun c4666 => absurd c4666 (by decide))
  refine lv_iload_n C.1 C.2.1 dX12_runs_21 rfl (lv_at hl 0 rfl) ?_
  refine lv_iconst (v := 1) C.1 C.2.1 dX12_runs_22 (by decide) ?_
  refine lv_icmp_ne (tgt := 30) C.1 C.2.1 dX12_runs_23 (by decide) (fun c4667 => absurd c4667 (by decide)) (fun _ => ?_)
  refine lv_iload_n C.1 C.2.1 dX12_runs_26 rfl (lv_at hl 3 rfl) ?_
  refine lv_goto (tgt := 31) C.1 C.2.1 dX12_runs_27 (by decide) ?_
  refine k_iast C Wd 1 0 [(h0, .inr (12, [.ref h1, .ref h2, .ref h3, .ref h4, .int 0, .int 0, .ref h5, .int 0, .int 0, .int 0, .int 0, .int 0, .int 0, .int 0, .int 0, .int 0, .int 0, .int 0, .int 0, .int 0, .int (-1), .int 0, .int 0, .int 0, .ref h6, .ref h7, .ref h8, .ref h9, .ref h10, .ref h11, .int 0, .int 0, .int 0, .int 0, .ref h12, .ref h13, .ref h14, .int (-1), .int (-1), .int 0, .int 0, .ref h15, .ref h16, .int 0, .ref h17, .ref h18, .int 0, .ref h19, .int 0, .ref h20, .ref h21, .ref h22, .int 0, .ref h23, .ref h24, .ref h25])), (h10, .inl (a9, 6, .inl (upd (upd f0 0 x0) 1 x1)))] rfl rfl (vp_in_iff.mpr (by decide)) rfl rfl dX12_runs_31 (fun H locs Wd => ?_)
  refine lv_iinc (v := 2) (lv' := [(3, .int 2), (0, .ref h0), (1, .int x0), (2, .int x1)]) C.1 C.2.1 dX12_runs_32 hl (k := 0) rfl (by decide) (by decide) rfl (fun ls hl => ?_)
  refine lv_goto (tgt := 2) C.1 C.2.1 dX12_runs_35 (by decide) ?_
  refine lv_iload_n C.1 C.2.1 dX12_runs_2 rfl (lv_at hl 0 rfl) ?_
  refine lv_bipush (v := 6) C.1 C.2.1 dX12_runs_3 (by decide) ?_
  refine lv_icmp_ge (tgt := 38) C.1 C.2.1 dX12_runs_5 (by decide) (fun c4668 => absurd c4668 (by decide)) (fun _ => ?_)
  refine lv_aload_n C.1 C.2.1 dX12_runs_8 rfl (lv_at hl 1 rfl) ?_
  refine k_get C Wd KX12 0 28 rfl (by decide) fl_X12_41 rfl dX12_runs_9 ?_
  refine lv_iload_n C.1 C.2.1 dX12_runs_12 rfl (lv_at hl 0 rfl) ?_
  refine lv_iload_n C.1 C.2.1 dX12_runs_13 rfl (lv_at hl 0 rfl) ?_
  refine lv_if_ne (tgt := 21) C.1 C.2.1 dX12_runs_14 (by decide) (fun _ => ?_) (fun c4669 => absurd c4669 (by decide))
  refine lv_iload_n C.1 C.2.1 dX12_runs_21 rfl (lv_at hl 0 rfl) ?_
  refine lv_iconst (v := 1) C.1 C.2.1 dX12_runs_22 (by decide) ?_
  refine lv_icmp_ne (tgt := 30) C.1 C.2.1 dX12_runs_23 (by decide) (fun _ => ?_) (fun c4670 => absurd c4670 (by decide))
  refine lv_iconst (v := 0) C.1 C.2.1 dX12_runs_30 (by decide) ?_
  refine k_iast C Wd 1 0 [(h0, .inr (12, [.ref h1, .ref h2, .ref h3, .ref h4, .int 0, .int 0, .ref h5, .int 0, .int 0, .int 0, .int 0, .int 0, .int 0, .int 0, .int 0, .int 0, .int 0, .int 0, .int 0, .int 0, .int (-1), .int 0, .int 0, .int 0, .ref h6, .ref h7, .ref h8, .ref h9, .ref h10, .ref h11, .int 0, .int 0, .int 0, .int 0, .ref h12, .ref h13, .ref h14, .int (-1), .int (-1), .int 0, .int 0, .ref h15, .ref h16, .int 0, .ref h17, .ref h18, .int 0, .ref h19, .int 0, .ref h20, .ref h21, .ref h22, .int 0, .ref h23, .ref h24, .ref h25])), (h10, .inl (a9, 6, .inl (upd (upd (upd f0 0 x0) 1 x1) 2 0)))] rfl rfl (vp_in_iff.mpr (by decide)) rfl rfl dX12_runs_31 (fun H locs Wd => ?_)
  refine lv_iinc (v := 3) (lv' := [(3, .int 3), (0, .ref h0), (1, .int x0), (2, .int x1)]) C.1 C.2.1 dX12_runs_32 hl (k := 0) rfl (by decide) (by decide) rfl (fun ls hl => ?_)
  refine lv_goto (tgt := 2) C.1 C.2.1 dX12_runs_35 (by decide) ?_
  refine lv_iload_n C.1 C.2.1 dX12_runs_2 rfl (lv_at hl 0 rfl) ?_
  refine lv_bipush (v := 6) C.1 C.2.1 dX12_runs_3 (by decide) ?_
  refine lv_icmp_ge (tgt := 38) C.1 C.2.1 dX12_runs_5 (by decide) (fun c4671 => absurd c4671 (by decide)) (fun _ => ?_)
  refine lv_aload_n C.1 C.2.1 dX12_runs_8 rfl (lv_at hl 1 rfl) ?_
  refine k_get C Wd KX12 0 28 rfl (by decide) fl_X12_41 rfl dX12_runs_9 ?_
  refine lv_iload_n C.1 C.2.1 dX12_runs_12 rfl (lv_at hl 0 rfl) ?_
  refine lv_iload_n C.1 C.2.1 dX12_runs_13 rfl (lv_at hl 0 rfl) ?_
  refine lv_if_ne (tgt := 21) C.1 C.2.1 dX12_runs_14 (by decide) (fun _ => ?_) (fun c4672 => absurd c4672 (by decide))
  refine lv_iload_n C.1 C.2.1 dX12_runs_21 rfl (lv_at hl 0 rfl) ?_
  refine lv_iconst (v := 1) C.1 C.2.1 dX12_runs_22 (by decide) ?_
  refine lv_icmp_ne (tgt := 30) C.1 C.2.1 dX12_runs_23 (by decide) (fun _ => ?_) (fun c4673 => absurd c4673 (by decide))
  refine lv_iconst (v := 0) C.1 C.2.1 dX12_runs_30 (by decide) ?_
  refine k_iast C Wd 1 0 [(h0, .inr (12, [.ref h1, .ref h2, .ref h3, .ref h4, .int 0, .int 0, .ref h5, .int 0, .int 0, .int 0, .int 0, .int 0, .int 0, .int 0, .int 0, .int 0, .int 0, .int 0, .int 0, .int 0, .int (-1), .int 0, .int 0, .int 0, .ref h6, .ref h7, .ref h8, .ref h9, .ref h10, .ref h11, .int 0, .int 0, .int 0, .int 0, .ref h12, .ref h13, .ref h14, .int (-1), .int (-1), .int 0, .int 0, .ref h15, .ref h16, .int 0, .ref h17, .ref h18, .int 0, .ref h19, .int 0, .ref h20, .ref h21, .ref h22, .int 0, .ref h23, .ref h24, .ref h25])), (h10, .inl (a9, 6, .inl (upd (upd (upd (upd f0 0 x0) 1 x1) 2 0) 3 0)))] rfl rfl (vp_in_iff.mpr (by decide)) rfl rfl dX12_runs_31 (fun H locs Wd => ?_)
  refine lv_iinc (v := 4) (lv' := [(3, .int 4), (0, .ref h0), (1, .int x0), (2, .int x1)]) C.1 C.2.1 dX12_runs_32 hl (k := 0) rfl (by decide) (by decide) rfl (fun ls hl => ?_)
  refine lv_goto (tgt := 2) C.1 C.2.1 dX12_runs_35 (by decide) ?_
  refine lv_iload_n C.1 C.2.1 dX12_runs_2 rfl (lv_at hl 0 rfl) ?_
  refine lv_bipush (v := 6) C.1 C.2.1 dX12_runs_3 (by decide) ?_
  refine lv_icmp_ge (tgt := 38) C.1 C.2.1 dX12_runs_5 (by decide) (fun c4674 => absurd c4674 (by decide)) (fun _ => ?_)
  refine lv_aload_n C.1 C.2.1 dX12_runs_8 rfl (lv_at hl 1 rfl) ?_
  refine k_get C Wd KX12 0 28 rfl (by decide) fl_X12_41 rfl dX12_runs_9 ?_
  refine lv_iload_n C.1 C.2.1 dX12_runs_12 rfl (lv_at hl 0 rfl) ?_
  refine lv_iload_n C.1 C.2.1 dX12_runs_13 rfl (lv_at hl 0 rfl) ?_
  refine lv_if_ne (tgt := 21) C.1 C.2.1 dX12_runs_14 (by decide) (fun _ => ?_) (fun c4675 => absurd c4675 (by decide))
  refine lv_iload_n C.1 C.2.1 dX12_runs_21 rfl (lv_at hl 0 rfl) ?_
  refine lv_iconst (v := 1) C.1 C.2.1 dX12_runs_22 (by decide) ?_
  refine lv_icmp_ne (tgt := 30) C.1 C.2.1 dX12_runs_23 (by decide) (fun _ => ?_) (fun c4676 => absurd c4676 (by decide))
  refine lv_iconst (v := 0) C.1 C.2.1 dX12_runs_30 (by decide) ?_
  refine k_iast C Wd 1 0 [(h0, .inr (12, [.ref h1, .ref h2, .ref h3, .ref h4, .int 0, .int 0, .ref h5, .int 0, .int 0, .int 0, .int 0, .int 0, .int 0, .int 0, .int 0, .int 0, .int 0, .int 0, .int 0, .int 0, .int (-1), .int 0, .int 0, .int 0, .ref h6, .ref h7, .ref h8, .ref h9, .ref h10, .ref h11, .int 0, .int 0, .int 0, .int 0, .ref h12, .ref h13, .ref h14, .int (-1), .int (-1), .int 0, .int 0, .ref h15, .ref h16, .int 0, .ref h17, .ref h18, .int 0, .ref h19, .int 0, .ref h20, .ref h21, .ref h22, .int 0, .ref h23, .ref h24, .ref h25])), (h10, .inl (a9, 6, .inl (upd (upd (upd (upd (upd f0 0 x0) 1 x1) 2 0) 3 0) 4 0)))] rfl rfl (vp_in_iff.mpr (by decide)) rfl rfl dX12_runs_31 (fun H locs Wd => ?_)
  refine lv_iinc (v := 5) (lv' := [(3, .int 5), (0, .ref h0), (1, .int x0), (2, .int x1)]) C.1 C.2.1 dX12_runs_32 hl (k := 0) rfl (by decide) (by decide) rfl (fun ls hl => ?_)
  refine lv_goto (tgt := 2) C.1 C.2.1 dX12_runs_35 (by decide) ?_
  refine lv_iload_n C.1 C.2.1 dX12_runs_2 rfl (lv_at hl 0 rfl) ?_
  refine lv_bipush (v := 6) C.1 C.2.1 dX12_runs_3 (by decide) ?_
  refine lv_icmp_ge (tgt := 38) C.1 C.2.1 dX12_runs_5 (by decide) (fun c4677 => absurd c4677 (by decide)) (fun _ => ?_)
  refine lv_aload_n C.1 C.2.1 dX12_runs_8 rfl (lv_at hl 1 rfl) ?_
  refine k_get C Wd KX12 0 28 rfl (by decide) fl_X12_41 rfl dX12_runs_9 ?_
  refine lv_iload_n C.1 C.2.1 dX12_runs_12 rfl (lv_at hl 0 rfl) ?_
  refine lv_iload_n C.1 C.2.1 dX12_runs_13 rfl (lv_at hl 0 rfl) ?_
  refine lv_if_ne (tgt := 21) C.1 C.2.1 dX12_runs_14 (by decide) (fun _ => ?_) (fun c4678 => absurd c4678 (by decide))
  refine lv_iload_n C.1 C.2.1 dX12_runs_21 rfl (lv_at hl 0 rfl) ?_
  refine lv_iconst (v := 1) C.1 C.2.1 dX12_runs_22 (by decide) ?_
  refine lv_icmp_ne (tgt := 30) C.1 C.2.1 dX12_runs_23 (by decide) (fun _ => ?_) (fun c4679 => absurd c4679 (by decide))
  refine lv_iconst (v := 0) C.1 C.2.1 dX12_runs_30 (by decide) ?_
  refine k_iast C Wd 1 0 [(h0, .inr (12, [.ref h1, .ref h2, .ref h3, .ref h4, .int 0, .int 0, .ref h5, .int 0, .int 0, .int 0, .int 0, .int 0, .int 0, .int 0, .int 0, .int 0, .int 0, .int 0, .int 0, .int 0, .int (-1), .int 0, .int 0, .int 0, .ref h6, .ref h7, .ref h8, .ref h9, .ref h10, .ref h11, .int 0, .int 0, .int 0, .int 0, .ref h12, .ref h13, .ref h14, .int (-1), .int (-1), .int 0, .int 0, .ref h15, .ref h16, .int 0, .ref h17, .ref h18, .int 0, .ref h19, .int 0, .ref h20, .ref h21, .ref h22, .int 0, .ref h23, .ref h24, .ref h25])), (h10, .inl (a9, 6, .inl (upd (upd (upd (upd (upd (upd f0 0 x0) 1 x1) 2 0) 3 0) 4 0) 5 0)))] rfl rfl (vp_in_iff.mpr (by decide)) rfl rfl dX12_runs_31 (fun H locs Wd => ?_)
  refine lv_iinc (v := 6) (lv' := [(3, .int 6), (0, .ref h0), (1, .int x0), (2, .int x1)]) C.1 C.2.1 dX12_runs_32 hl (k := 0) rfl (by decide) (by decide) rfl (fun ls hl => ?_)
  refine lv_goto (tgt := 2) C.1 C.2.1 dX12_runs_35 (by decide) ?_
  refine lv_iload_n C.1 C.2.1 dX12_runs_2 rfl (lv_at hl 0 rfl) ?_
  refine lv_bipush (v := 6) C.1 C.2.1 dX12_runs_3 (by decide) ?_
  refine lv_icmp_ge (tgt := 38) C.1 C.2.1 dX12_runs_5 (by decide) (fun _ => ?_) (fun c4680 => absurd c4680 (by decide))
  refine lv_aload_n C.1 C.2.1 dX12_runs_38 rfl (lv_at hl 1 rfl) ?_
  refine lv_iconst (v := 0) C.1 C.2.1 dX12_runs_39 (by decide) ?_
  refine k_put C Wd KX12 0 30 [(h0, .inr (12, [.ref h1, .ref h2, .ref h3, .ref h4, .int 0, .int 0, .ref h5, .int 0, .int 0, .int 0, .int 0, .int 0, .int 0, .int 0, .int 0, .int 0, .int 0, .int 0, .int 0, .int 0, .int (-1), .int 0, .int 0, .int 0, .ref h6, .ref h7, .ref h8, .ref h9, .ref h10, .ref h11, .int 0, .int 0, .int 0, .int 0, .ref h12, .ref h13, .ref h14, .int (-1), .int (-1), .int 0, .int 0, .ref h15, .ref h16, .int 0, .ref h17, .ref h18, .int 0, .ref h19, .int 0, .ref h20, .ref h21, .ref h22, .int 0, .ref h23, .ref h24, .ref h25])), (h10, .inl (a9, 6, .inl (upd (upd (upd (upd (upd (upd f0 0 x0) 1 x1) 2 0) 3 0) 4 0) 5 0)))] rfl (by decide) fl_X12_291 rfl rfl rfl (Nat.le_of_ble_eq_true rfl) rfl dX12_runs_40 (fun H locs Wd => ?_)
  refine lv_aload_n C.1 C.2.1 dX12_runs_43 rfl (lv_at hl 1 rfl) ?_
  refine lv_iconst (v := 0) C.1 C.2.1 dX12_runs_44 (by decide) ?_
  refine k_put C Wd KX12 0 31 [(h0, .inr (12, [.ref h1, .ref h2, .ref h3, .ref h4, .int 0, .int 0, .ref h5, .int 0, .int 0, .int 0, .int 0, .int 0, .int 0, .int 0, .int 0, .int 0, .int 0, .int 0, .int 0, .int 0, .int (-1), .int 0, .int 0, .int 0, .ref h6, .ref h7, .ref h8, .ref h9, .ref h10, .ref h11, .int 0, .int 0, .int 0, .int 0, .ref h12, .ref h13, .ref h14, .int (-1), .int (-1), .int 0, .int 0, .ref h15, .ref h16, .int 0, .ref h17, .ref h18, .int 0, .ref h19, .int 0, .ref h20, .ref h21, .ref h22, .int 0, .ref h23, .ref h24, .ref h25])), (h10, .inl (a9, 6, .inl (upd (upd (upd (upd (upd (upd f0 0 x0) 1 x1) 2 0) 3 0) 4 0) 5 0)))] rfl (by decide) fl_X12_294 rfl rfl rfl (Nat.le_of_ble_eq_true rfl) rfl dX12_runs_45 (fun H locs Wd => ?_)
  refine lv_aload_n C.1 C.2.1 dX12_runs_48 rfl (lv_at hl 1 rfl) ?_
  refine lv_iconst (v := 0) C.1 C.2.1 dX12_runs_49 (by decide) ?_
  refine k_put C Wd KX12 0 32 [(h0, .inr (12, [.ref h1, .ref h2, .ref h3, .ref h4, .int 0, .int 0, .ref h5, .int 0, .int 0, .int 0, .int 0, .int 0, .int 0, .int 0, .int 0, .int 0, .int 0, .int 0, .int 0, .int 0, .int (-1), .int 0, .int 0, .int 0, .ref h6, .ref h7, .ref h8, .ref h9, .ref h10, .ref h11, .int 0, .int 0, .int 0, .int 0, .ref h12, .ref h13, .ref h14, .int (-1), .int (-1), .int 0, .int 0, .ref h15, .ref h16, .int 0, .ref h17, .ref h18, .int 0, .ref h19, .int 0, .ref h20, .ref h21, .ref h22, .int 0, .ref h23, .ref h24, .ref h25])), (h10, .inl (a9, 6, .inl (upd (upd (upd (upd (upd (upd f0 0 x0) 1 x1) 2 0) 3 0) 4 0) 5 0)))] rfl (by decide) fl_X12_312 rfl rfl rfl (Nat.le_of_ble_eq_true rfl) rfl dX12_runs_50 (fun H locs Wd => ?_)
  refine lv_aload_n C.1 C.2.1 dX12_runs_53 rfl (lv_at hl 1 rfl) ?_
  refine lv_iconst (v := 0) C.1 C.2.1 dX12_runs_54 (by decide) ?_
  refine k_pi (k_runV (rest := []) C aks Wd cs_X12_306 (kcX12_does_v1 l D h0 h1 h2 h3 h4 h5 h6 h7 h8 h9 h10 h11 h12 h13 h14 h15 h16 h17 h18 h19 h20 h21 h22 h23 h24 h25 _ ) [0] rfl (by decide) [] rfl 0 12 rfl rfl rfl rfl rfl ⟨(Nat.le_of_ble_eq_true rfl), (Nat.le_of_ble_eq_true rfl)⟩ hl.1 rfl rfl (Nat.le_of_ble_eq_true rfl) ⟨(Nat.le_of_ble_eq_true rfl), (Nat.le_of_ble_eq_true rfl)⟩ dX12_runs_55) (fun r w4681 => ?_)
  obtain rfl := w4681
  refine lv_pop C.1 C.2.1 dX12_runs_58 rfl ?_
  exact k_vret C hr hlk Wd () trivial [0, 1] rfl (by decide) [] rfl (by decide) (by decide) dX12_runs_59
set_option maxHeartbeats 4000000 in
set_option maxRecDepth 100000 in
theorem kcX12_compares (l : Launch) (D : va_G) (h0 h1 h2 h3 h4 h5 h6 h7 h8 h9 h10 h11 h12 h13 h14 h15 h16 h17 h18 h19 h20 h21 h22 h23 h24 h25 : Nat) (f0 : Nat → Int32) (a9 a11 a12 : ClassId) (sz : Nat)  : Met l yX12_compares (Cond.code yX12_compares cX12_compares 5 none :: gG) { frames := 4, cells := 0, slots := 0, locals := 130 } (cPre D [(a9, .int), (a11, .int), (a12, .int)] [(h0, .inr (12, [.ref h1, .ref h2, .ref h3, .ref h4, .int 0, .int 0, .ref h5, .int 0, .int 0, .int 0, .int 0, .int 0, .int 0, .int 0, .int 0, .int 0, .int 0, .int 0, .int 0, .int 0, .int (-1), .int 0, .int 0, .int 0, .ref h6, .ref h7, .ref h8, .ref h9, .ref h10, .ref h11, .int 0, .int 0, .int 0, .int 0, .ref h12, .ref h13, .ref h14, .int 0, .int 0, .int 0, .int 0, .ref h15, .ref h16, .int 0, .ref h17, .ref h18, .int 0, .ref h19, .int 0, .ref h20, .ref h21, .ref h22, .int 0, .ref h23, .ref h24, .ref h25])), (h10, .inl (a9, 6, .inl f0)), (h12, .inl (a11, 256, .inl (fun _ => 0))), (h13, .inl (a12, 256, .inl (fun _ => 0)))] sz [.ref h0]) (va_Qv (fun (_ : (Nat → Int32)) => True) (fun u t => cB D (va_A [(h0, .inr (12, [.ref h1, .ref h2, .ref h3, .ref h4, .int 0, .int 0, .ref h5, .int 0, .int 0, .int 0, .int 0, .int 0, .int 0, .int 0, .int 0, .int 0, .int 0, .int 0, .int 0, .int 0, .int (-1), .int 0, .int 0, .int 0, .ref h6, .ref h7, .ref h8, .ref h9, .ref h10, .ref h11, .int 0, .int 0, .int 0, .int 0, .ref h12, .ref h13, .ref h14, .int 0, .int 0, .int 0, .int 0, .ref h15, .ref h16, .int 0, .ref h17, .ref h18, .int 0, .ref h19, .int 0, .ref h20, .ref h21, .ref h22, .int 0, .ref h23, .ref h24, .ref h25])), (h10, .inl (a9, 6, .inl f0)), (h12, .inl (a11, 256, .inl (fun _ => 0))), (h13, .inl (a12, 256, .inl (fun _ => 0)))] sz) ((fun fu4694 => []) u) ((fun fu4694 => [(h0, .inr (12, [.ref h1, .ref h2, .ref h3, .ref h4, .int 0, .int 0, .ref h5, .int 0, .int 0, .int 0, .int 0, .int 0, .int 0, .int 0, .int 0, .int 0, .int 0, .int 0, .int 0, .int 0, .int (-1), .int 0, .int 0, .int 0, .ref h6, .ref h7, .ref h8, .ref h9, .ref h10, .ref h11, .int 0, .int 0, .int 0, .int 0, .ref h12, .ref h13, .ref h14, .int (-1), .int (-1), .int 0, .int 0, .ref h15, .ref h16, .int 0, .ref h17, .ref h18, .int 0, .ref h19, .int 0, .ref h20, .ref h21, .ref h22, .int 0, .ref h23, .ref h24, .ref h25])), (h10, .inl (a9, 6, .inl fu4694)), (h12, .inl (a11, 256, .inl (fun _ => 0))), (h13, .inl (a12, 256, .inl (fun _ => 0)))]) u) t) (va_A [(h0, .inr (12, [.ref h1, .ref h2, .ref h3, .ref h4, .int 0, .int 0, .ref h5, .int 0, .int 0, .int 0, .int 0, .int 0, .int 0, .int 0, .int 0, .int 0, .int 0, .int 0, .int 0, .int 0, .int (-1), .int 0, .int 0, .int 0, .ref h6, .ref h7, .ref h8, .ref h9, .ref h10, .ref h11, .int 0, .int 0, .int 0, .int 0, .ref h12, .ref h13, .ref h14, .int 0, .int 0, .int 0, .int 0, .ref h15, .ref h16, .int 0, .ref h17, .ref h18, .int 0, .ref h19, .int 0, .ref h20, .ref h21, .ref h22, .int 0, .ref h23, .ref h24, .ref h25])), (h10, .inl (a9, 6, .inl f0)), (h12, .inl (a11, 256, .inl (fun _ => 0))), (h13, .inl (a12, 256, .inl (fun _ => 0)))] sz)) 0 0 (va_A [(h0, .inr (12, [.ref h1, .ref h2, .ref h3, .ref h4, .int 0, .int 0, .ref h5, .int 0, .int 0, .int 0, .int 0, .int 0, .int 0, .int 0, .int 0, .int 0, .int 0, .int 0, .int 0, .int 0, .int (-1), .int 0, .int 0, .int 0, .ref h6, .ref h7, .ref h8, .ref h9, .ref h10, .ref h11, .int 0, .int 0, .int 0, .int 0, .ref h12, .ref h13, .ref h14, .int 0, .int 0, .int 0, .int 0, .ref h15, .ref h16, .int 0, .ref h17, .ref h18, .int 0, .ref h19, .int 0, .ref h20, .ref h21, .ref h22, .int 0, .ref h23, .ref h24, .ref h25])), (h10, .inl (a9, 6, .inl f0)), (h12, .inl (a11, 256, .inl (fun _ => 0))), (h13, .inl (a12, 256, .inl (fun _ => 0)))] sz) := by
  refine Met.ofW (cc := cX12_compares) (maxL := 5) (ret := none) (by decide) rfl ?_
  intro p e s m args below meth c s₁ B hml hv
  obtain ⟨rfl, aks, rfl, Wd⟩ := k_enter hv
  have C : CallFix p m c cX12_compares 5 s _ gG RX12 := ⟨B.exec, B.bytes, hml, findClass_of_methodNamed B.named, fun w h => atoms_spec (ws := Cond.code yX12_compares cX12_compares 5 none :: gG) B.pre w (List.mem_cons_of_mem _ h)⟩
  have hr := B.returns
  have hlk := B.notSynchronized
  generalize va_A [(h0, .inr (12, [.ref h1, .ref h2, .ref h3, .ref h4, .int 0, .int 0, .ref h5, .int 0, .int 0, .int 0, .int 0, .int 0, .int 0, .int 0, .int 0, .int 0, .int 0, .int 0, .int 0, .int 0, .int (-1), .int 0, .int 0, .int 0, .ref h6, .ref h7, .ref h8, .ref h9, .ref h10, .ref h11, .int 0, .int 0, .int 0, .int 0, .ref h12, .ref h13, .ref h14, .int 0, .int 0, .int 0, .int 0, .ref h15, .ref h16, .int 0, .ref h17, .ref h18, .int 0, .ref h19, .int 0, .ref h20, .ref h21, .ref h22, .int 0, .ref h23, .ref h24, .ref h25])), (h10, .inl (a9, 6, .inl f0)), (h12, .inl (a11, 256, .inl (fun _ => 0))), (h13, .inl (a12, 256, .inl (fun _ => 0)))] s.heap.size = A at Wd ⊢
  refine k_locals (Nat.le_of_ble_eq_true rfl) [(0, .ref h0)] rfl (fun ls hl => ?_)
  refine lv_aload_n C.1 C.2.1 dX12_compares_0 rfl (lv_at hl 0 rfl) ?_
  refine lv_iconst (v := (-1)) C.1 C.2.1 dX12_compares_1 (by decide) ?_
  refine k_put C Wd KX12 0 37 [(h0, .inr (12, [.ref h1, .ref h2, .ref h3, .ref h4, .int 0, .int 0, .ref h5, .int 0, .int 0, .int 0, .int 0, .int 0, .int 0, .int 0, .int 0, .int 0, .int 0, .int 0, .int 0, .int 0, .int (-1), .int 0, .int 0, .int 0, .ref h6, .ref h7, .ref h8, .ref h9, .ref h10, .ref h11, .int 0, .int 0, .int 0, .int 0, .ref h12, .ref h13, .ref h14, .int (-1), .int 0, .int 0, .int 0, .ref h15, .ref h16, .int 0, .ref h17, .ref h18, .int 0, .ref h19, .int 0, .ref h20, .ref h21, .ref h22, .int 0, .ref h23, .ref h24, .ref h25])), (h10, .inl (a9, 6, .inl f0)), (h12, .inl (a11, 256, .inl (fun _ => 0))), (h13, .inl (a12, 256, .inl (fun _ => 0)))] rfl (by decide) fl_X12_318 rfl rfl rfl (Nat.le_of_ble_eq_true rfl) rfl dX12_compares_2 (fun H locs Wd => ?_)
  refine lv_aload_n C.1 C.2.1 dX12_compares_5 rfl (lv_at hl 0 rfl) ?_
  refine lv_iconst (v := (-1)) C.1 C.2.1 dX12_compares_6 (by decide) ?_
  refine k_put C Wd KX12 0 38 [(h0, .inr (12, [.ref h1, .ref h2, .ref h3, .ref h4, .int 0, .int 0, .ref h5, .int 0, .int 0, .int 0, .int 0, .int 0, .int 0, .int 0, .int 0, .int 0, .int 0, .int 0, .int 0, .int 0, .int (-1), .int 0, .int 0, .int 0, .ref h6, .ref h7, .ref h8, .ref h9, .ref h10, .ref h11, .int 0, .int 0, .int 0, .int 0, .ref h12, .ref h13, .ref h14, .int (-1), .int (-1), .int 0, .int 0, .ref h15, .ref h16, .int 0, .ref h17, .ref h18, .int 0, .ref h19, .int 0, .ref h20, .ref h21, .ref h22, .int 0, .ref h23, .ref h24, .ref h25])), (h10, .inl (a9, 6, .inl f0)), (h12, .inl (a11, 256, .inl (fun _ => 0))), (h13, .inl (a12, 256, .inl (fun _ => 0)))] rfl (by decide) fl_X12_321 rfl rfl rfl (Nat.le_of_ble_eq_true rfl) rfl dX12_compares_7 (fun H locs Wd => ?_)
  refine lv_aload_n C.1 C.2.1 dX12_compares_10 rfl (lv_at hl 0 rfl) ?_
  refine lv_iconst (v := 0) C.1 C.2.1 dX12_compares_11 (by decide) ?_
  refine k_put C Wd KX12 0 39 [(h0, .inr (12, [.ref h1, .ref h2, .ref h3, .ref h4, .int 0, .int 0, .ref h5, .int 0, .int 0, .int 0, .int 0, .int 0, .int 0, .int 0, .int 0, .int 0, .int 0, .int 0, .int 0, .int 0, .int (-1), .int 0, .int 0, .int 0, .ref h6, .ref h7, .ref h8, .ref h9, .ref h10, .ref h11, .int 0, .int 0, .int 0, .int 0, .ref h12, .ref h13, .ref h14, .int (-1), .int (-1), .int 0, .int 0, .ref h15, .ref h16, .int 0, .ref h17, .ref h18, .int 0, .ref h19, .int 0, .ref h20, .ref h21, .ref h22, .int 0, .ref h23, .ref h24, .ref h25])), (h10, .inl (a9, 6, .inl f0)), (h12, .inl (a11, 256, .inl (fun _ => 0))), (h13, .inl (a12, 256, .inl (fun _ => 0)))] rfl (by decide) fl_X12_324 rfl rfl rfl (Nat.le_of_ble_eq_true rfl) rfl dX12_compares_12 (fun H locs Wd => ?_)
  refine lv_aload_n C.1 C.2.1 dX12_compares_15 rfl (lv_at hl 0 rfl) ?_
  refine lv_iconst (v := 0) C.1 C.2.1 dX12_compares_16 (by decide) ?_
  refine k_put C Wd KX12 0 40 [(h0, .inr (12, [.ref h1, .ref h2, .ref h3, .ref h4, .int 0, .int 0, .ref h5, .int 0, .int 0, .int 0, .int 0, .int 0, .int 0, .int 0, .int 0, .int 0, .int 0, .int 0, .int 0, .int 0, .int (-1), .int 0, .int 0, .int 0, .ref h6, .ref h7, .ref h8, .ref h9, .ref h10, .ref h11, .int 0, .int 0, .int 0, .int 0, .ref h12, .ref h13, .ref h14, .int (-1), .int (-1), .int 0, .int 0, .ref h15, .ref h16, .int 0, .ref h17, .ref h18, .int 0, .ref h19, .int 0, .ref h20, .ref h21, .ref h22, .int 0, .ref h23, .ref h24, .ref h25])), (h10, .inl (a9, 6, .inl f0)), (h12, .inl (a11, 256, .inl (fun _ => 0))), (h13, .inl (a12, 256, .inl (fun _ => 0)))] rfl (by decide) fl_X12_327 rfl rfl rfl (Nat.le_of_ble_eq_true rfl) rfl dX12_compares_17 (fun H locs Wd => ?_)
  refine lv_iconst (v := 0) C.1 C.2.1 dX12_compares_20 (by decide) ?_
  refine lv_istore_n (lv' := [(1, .int 0), (0, .ref h0)]) C.1 C.2.1 dX12_compares_21 rfl hl (by decide) rfl (fun ls hl => ?_)
  refine k_loop (X := Nat → Int32) (fun lx4693 fu4694 H locs ls => ¬ lx4693 < 0 ∧ lx4693 ≤ 256 ∧ wX D [(a9, .int), (a11, .int), (a12, .int)] s [(h0, .inr (12, [.ref h1, .ref h2, .ref h3, .ref h4, .int 0, .int 0, .ref h5, .int 0, .int 0, .int 0, .int 0, .int 0, .int 0, .int 0, .int 0, .int 0, .int 0, .int 0, .int 0, .int 0, .int (-1), .int 0, .int 0, .int 0, .ref h6, .ref h7, .ref h8, .ref h9, .ref h10, .ref h11, .int 0, .int 0, .int 0, .int 0, .ref h12, .ref h13, .ref h14, .int (-1), .int (-1), .int 0, .int 0, .ref h15, .ref h16, .int 0, .ref h17, .ref h18, .int 0, .ref h19, .int 0, .ref h20, .ref h21, .ref h22, .int 0, .ref h23, .ref h24, .ref h25])), (h10, .inl (a9, 6, .inl fu4694)), (h12, .inl (a11, 256, .inl (fun _ => 0))), (h13, .inl (a12, 256, .inl (fun _ => 0)))] H A s.heap locs ∧ lv_has ls 5 [(1, .int lx4693), (0, .ref h0)]) 22 256 (fun lx4693 fu4694 H locs ls hi ih4695 => ?_) 0 f0 _ _ _ ⟨by decide, by decide, Wd, hl⟩
  obtain ⟨li4696, li4697, Wd, hl⟩ := hi
  refine lv_iload_n C.1 C.2.1 dX12_compares_22 rfl (lv_at hl 0 rfl) ?_
  refine lv_sipush (v := 256) C.1 C.2.1 dX12_compares_23 (by decide) ?_
  refine lv_icmp_ge (tgt := 240) C.1 C.2.1 dX12_compares_26 (by decide) (fun c4698 => ?_) (fun c4698 => ?_)
  · exact k_vret C hr hlk Wd fu4694 trivial [0, 1, 2, 3] rfl (by decide) [] rfl (by decide) (by decide) dX12_compares_240
  · refine lv_aload_n C.1 C.2.1 dX12_compares_29 rfl (lv_at hl 1 rfl) ?_
    refine lv_iload_n C.1 C.2.1 dX12_compares_30 rfl (lv_at hl 0 rfl) ?_
    refine lv_bipush (v := 16) C.1 C.2.1 dX12_compares_31 (by decide) ?_
    refine k_idiv (v := (lx4693 / 16)) C (by decide) rfl dX12_compares_33 ?_
    refine lv_iload_n C.1 C.2.1 dX12_compares_34 rfl (lv_at hl 0 rfl) ?_
    refine lv_bipush (v := 16) C.1 C.2.1 dX12_compares_35 (by decide) ?_
    refine k_irem (v := (lx4693 - lx4693 / 16 * 16)) C (by decide) rfl dX12_compares_37 ?_
    refine k_cv Wd [0, 1] [2, 3] rfl (wr := [(h12, .inl (a11, 256, .inl (fun _ => 0))), (h13, .inl (a12, 256, .inl (fun _ => 0)))]) rfl (by decide) (by decide) (cells' := 0) (slots' := 0) (by decide) (by decide) (k_runV (rest := []) C aks Wd cs_X12_315 (kcX12_runs_v2 l D h0 h1 h2 h3 h4 h5 h6 h7 h8 h9 h10 h11 h12 h13 h14 h15 h16 h17 h18 h19 h20 h21 h22 h23 h24 h25 (lx4693 / 16) (lx4693 - lx4693 / 16 * 16) fu4694 a9 _ ) [0, 1] rfl (by decide) [0] rfl 0 12 rfl rfl rfl rfl rfl ⟨(Nat.le_of_ble_eq_true rfl), (Nat.le_of_ble_eq_true rfl)⟩ hl.1 rfl rfl (Nat.le_of_ble_eq_true rfl) ⟨(Nat.le_of_ble_eq_true rfl), (Nat.le_of_ble_eq_true rfl)⟩ dX12_compares_38) (fun _ H locs w4699 Wd => ?_)
    have Wd : wX D [(a9, .int), (a11, .int), (a12, .int)] s [(h12, .inl (a11, 256, .inl (fun _ => 0))), (h13, .inl (a12, 256, .inl (fun _ => 0))), (h0, .inr (12, [.ref h1, .ref h2, .ref h3, .ref h4, .int 0, .int 0, .ref h5, .int 0, .int 0, .int 0, .int 0, .int 0, .int 0, .int 0, .int 0, .int 0, .int 0, .int 0, .int 0, .int 0, .int (-1), .int 0, .int 0, .int 0, .ref h6, .ref h7, .ref h8, .ref h9, .ref h10, .ref h11, .int 0, .int 0, .int 0, .int 0, .ref h12, .ref h13, .ref h14, .int (-1), .int (-1), .int 0, .int 0, .ref h15, .ref h16, .int 0, .ref h17, .ref h18, .int 0, .ref h19, .int 0, .ref h20, .ref h21, .ref h22, .int 0, .ref h23, .ref h24, .ref h25])), (h10, .inl (a9, 6, .inl (upd (upd (upd (upd (upd (upd fu4694 0 (lx4693 / 16)) 1 (lx4693 - lx4693 / 16 * 16)) 2 0) 3 0) 4 0) 5 0)))] _ A s.heap _ := Wd
    refine lv_iconst (v := 0) C.1 C.2.1 dX12_compares_41 (by decide) ?_
    refine lv_istore_n (lv' := [(2, .int 0), (1, .int lx4693), (0, .ref h0)]) C.1 C.2.1 dX12_compares_42 rfl hl (by decide) rfl (fun ls hl => ?_)
    refine lv_iload_n C.1 C.2.1 dX12_compares_43 rfl (lv_at hl 0 rfl) ?_
    refine lv_aload_n C.1 C.2.1 dX12_compares_44 rfl (lv_at hl 2 rfl) ?_
    refine k_get C Wd KX12 2 32 rfl (by decide) fl_X12_312 rfl dX12_compares_45 ?_
    refine lv_icmp_ge (tgt := 87) C.1 C.2.1 dX12_compares_48 (by decide) (fun _ => ?_) (fun c4700 => absurd c4700 (by decide))
    refine lv_iload_n C.1 C.2.1 dX12_compares_87 rfl (lv_at hl 0 rfl) ?_
    refine lv_aload_n C.1 C.2.1 dX12_compares_88 rfl (lv_at hl 2 rfl) ?_
    refine k_get C Wd KX12 2 32 rfl (by decide) fl_X12_312 rfl dX12_compares_89 ?_
    refine lv_icmp_ge (tgt := 109) C.1 C.2.1 dX12_compares_92 (by decide) (fun _ => ?_) (fun c4701 => absurd c4701 (by decide))
    refine lv_iconst (v := 0) C.1 C.2.1 dX12_compares_109 (by decide) ?_
    refine lv_istore_n (lv' := [(3, .int 0), (2, .int 0), (1, .int lx4693), (0, .ref h0)]) C.1 C.2.1 dX12_compares_110 rfl hl (by decide) rfl (fun ls hl => ?_)
    refine lv_aload_n C.1 C.2.1 dX12_compares_111 rfl (lv_at hl 3 rfl) ?_
    refine k_get C Wd KX12 2 31 rfl (by decide) fl_X12_294 rfl dX12_compares_112 ?_
    refine lv_iconst (v := 2) C.1 C.2.1 dX12_compares_115 (by decide) ?_
    refine lv_icmp_eq (tgt := 129) C.1 C.2.1 dX12_compares_116 (by decide) (fun c4702 => absurd c4702 (by decide)) (fun _ => ?_)
    refine lv_aload_n C.1 C.2.1 dX12_compares_119 rfl (lv_at hl 3 rfl) ?_
    refine k_get C Wd KX12 2 34 rfl (by decide) fl_X12_47 rfl dX12_compares_120 ?_
    refine lv_iload_n C.1 C.2.1 dX12_compares_123 rfl (lv_at hl 2 rfl) ?_
    refine k_iald (v := 0) C Wd 0 1 rfl rfl (vp_in_iff.mpr ⟨by have z0 := kz_nlt li4696; have z1 := kz_le li4697; have z2 := kz_nle c4698; have t0 : (0 : Int32).toInt = 0 := (by decide); have t256 : (256 : Int32).toInt = 256 := (by decide); omega, by have z0 := kz_nlt li4696; have z1 := kz_le li4697; have z2 := kz_nle c4698; have t0 : (0 : Int32).toInt = 0 := (by decide); have t256 : (256 : Int32).toInt = 256 := (by decide); omega⟩) rfl dX12_compares_124 ?_
    refine lv_iconst (v := 2) C.1 C.2.1 dX12_compares_125 (by decide) ?_
    refine lv_icmp_ne (tgt := 133) C.1 C.2.1 dX12_compares_126 (by decide) (fun _ => ?_) (fun c4703 => absurd c4703 (by decide))
    refine lv_iconst (v := 0) C.1 C.2.1 dX12_compares_133 (by decide) ?_
    refine lv_istore (lv' := [(4, .int 0), (3, .int 0), (2, .int 0), (1, .int lx4693), (0, .ref h0)]) C.1 C.2.1 dX12_compares_134 hl (by decide) rfl (fun ls hl => ?_)
    refine lv_aload_n C.1 C.2.1 dX12_compares_136 rfl (lv_at hl 4 rfl) ?_
    refine lv_aload_n C.1 C.2.1 dX12_compares_137 rfl (lv_at hl 4 rfl) ?_
    refine k_get C Wd KX12 2 40 rfl (by decide) fl_X12_327 rfl dX12_compares_138 ?_
    refine lv_if_ne (tgt := 149) C.1 C.2.1 dX12_compares_141 (by decide) (fun c4704 => absurd c4704 (by decide)) (fun _ => ?_)
    refine lv_iload C.1 C.2.1 dX12_compares_144 (lv_at hl 0 rfl) ?_
    refine lv_if_eq (tgt := 153) C.1 C.2.1 dX12_compares_146 (by decide) (fun _ => ?_) (fun c4705 => absurd c4705 (by decide))
    refine lv_iconst (v := 0) C.1 C.2.1 dX12_compares_153 (by decide) ?_
    refine k_put C Wd KX12 2 40 [(h12, .inl (a11, 256, .inl (fun _ => 0))), (h13, .inl (a12, 256, .inl (fun _ => 0))), (h0, .inr (12, [.ref h1, .ref h2, .ref h3, .ref h4, .int 0, .int 0, .ref h5, .int 0, .int 0, .int 0, .int 0, .int 0, .int 0, .int 0, .int 0, .int 0, .int 0, .int 0, .int 0, .int 0, .int (-1), .int 0, .int 0, .int 0, .ref h6, .ref h7, .ref h8, .ref h9, .ref h10, .ref h11, .int 0, .int 0, .int 0, .int 0, .ref h12, .ref h13, .ref h14, .int (-1), .int (-1), .int 0, .int 0, .ref h15, .ref h16, .int 0, .ref h17, .ref h18, .int 0, .ref h19, .int 0, .ref h20, .ref h21, .ref h22, .int 0, .ref h23, .ref h24, .ref h25])), (h10, .inl (a9, 6, .inl (upd (upd (upd (upd (upd (upd fu4694 0 (lx4693 / 16)) 1 (lx4693 - lx4693 / 16 * 16)) 2 0) 3 0) 4 0) 5 0)))] rfl (by decide) fl_X12_327 rfl rfl rfl (Nat.le_of_ble_eq_true rfl) rfl dX12_compares_154 (fun H locs Wd => ?_)
    refine lv_iload_n C.1 C.2.1 dX12_compares_157 rfl (lv_at hl 1 rfl) ?_
    refine lv_if_ne (tgt := 195) C.1 C.2.1 dX12_compares_158 (by decide) (fun c4706 => absurd c4706 (by decide)) (fun _ => ?_)
    refine lv_iload C.1 C.2.1 dX12_compares_161 (lv_at hl 0 rfl) ?_
    refine lv_if_ne (tgt := 234) C.1 C.2.1 dX12_compares_163 (by decide) (fun c4707 => absurd c4707 (by decide)) (fun _ => ?_)
    refine lv_aload_n C.1 C.2.1 dX12_compares_166 rfl (lv_at hl 4 rfl) ?_
    refine k_get C Wd KX12 2 32 rfl (by decide) fl_X12_312 rfl dX12_compares_167 ?_
    refine lv_aload_n C.1 C.2.1 dX12_compares_170 rfl (lv_at hl 4 rfl) ?_
    refine k_get C Wd KX12 2 35 rfl (by decide) fl_X12_50 rfl dX12_compares_171 ?_
    refine lv_iload_n C.1 C.2.1 dX12_compares_174 rfl (lv_at hl 3 rfl) ?_
    refine k_iald (v := 0) C Wd 1 2 rfl rfl (vp_in_iff.mpr ⟨by have z0 := kz_nlt li4696; have z1 := kz_le li4697; have z2 := kz_nle c4698; have t0 : (0 : Int32).toInt = 0 := (by decide); have t256 : (256 : Int32).toInt = 256 := (by decide); omega, by have z0 := kz_nlt li4696; have z1 := kz_le li4697; have z2 := kz_nle c4698; have t0 : (0 : Int32).toInt = 0 := (by decide); have t256 : (256 : Int32).toInt = 256 := (by decide); omega⟩) rfl dX12_compares_175 ?_
    refine lv_icmp_ne (tgt := 195) C.1 C.2.1 dX12_compares_176 (by decide) (fun c4708 => absurd c4708 (by decide)) (fun _ => ?_)
    refine lv_aload_n C.1 C.2.1 dX12_compares_179 rfl (lv_at hl 4 rfl) ?_
    refine k_get C Wd KX12 2 31 rfl (by decide) fl_X12_294 rfl dX12_compares_180 ?_
    refine lv_aload_n C.1 C.2.1 dX12_compares_183 rfl (lv_at hl 4 rfl) ?_
    refine k_get C Wd KX12 2 34 rfl (by decide) fl_X12_47 rfl dX12_compares_184 ?_
    refine lv_iload_n C.1 C.2.1 dX12_compares_187 rfl (lv_at hl 3 rfl) ?_
    refine k_iald (v := 0) C Wd 0 1 rfl rfl (vp_in_iff.mpr ⟨by have z0 := kz_nlt li4696; have z1 := kz_le li4697; have z2 := kz_nle c4698; have t0 : (0 : Int32).toInt = 0 := (by decide); have t256 : (256 : Int32).toInt = 256 := (by decide); omega, by have z0 := kz_nlt li4696; have z1 := kz_le li4697; have z2 := kz_nle c4698; have t0 : (0 : Int32).toInt = 0 := (by decide); have t256 : (256 : Int32).toInt = 256 := (by decide); omega⟩) rfl dX12_compares_188 ?_
    refine lv_icmp_ne (tgt := 195) C.1 C.2.1 dX12_compares_189 (by decide) (fun c4709 => absurd c4709 (by decide)) (fun _ => ?_)
    refine lv_goto (tgt := 234) C.1 C.2.1 dX12_compares_192 (by decide) ?_
    refine lv_iinc (v := (lx4693 + 1)) (lv' := [(1, .int (lx4693 + 1)), (4, .int 0), (3, .int 0), (2, .int 0), (0, .ref h0)]) C.1 C.2.1 dX12_compares_234 hl (k := 3) rfl rfl (by decide) rfl (fun ls hl => ?_)
    refine lv_goto (tgt := 22) C.1 C.2.1 dX12_compares_237 (by decide) ?_
    exact ih4695 (lx4693 + 1) (upd (upd (upd (upd (upd (upd fu4694 0 (lx4693 / 16)) 1 (lx4693 - lx4693 / 16 * 16)) 2 0) 3 0) 4 0) 5 0) _ _ _ ⟨fun hq => by have zq := kz_lt hq; have z0 := kz_nlt li4696; have z1 := kz_le li4697; have z2 := kz_nle c4698; have zr := kz_rng lx4693; have z3 := kz_addI (a := lx4693) (b := 1); have t0 : (0 : Int32).toInt = 0 := (by decide); have t256 : (256 : Int32).toInt = 256 := (by decide); have t1 : (1 : Int32).toInt = 1 := (by decide); omega, Int32.le_iff_toInt_le.mpr (by have z0 := kz_nlt li4696; have z1 := kz_le li4697; have z2 := kz_nle c4698; have zr := kz_rng lx4693; have z3 := kz_addI (a := lx4693) (b := 1); have t0 : (0 : Int32).toInt = 0 := (by decide); have t256 : (256 : Int32).toInt = 256 := (by decide); have t1 : (1 : Int32).toInt = 1 := (by decide); omega), k_sub Wd [2, 3, 0, 1] rfl (by decide) [0, 1, 2] rfl, lv_sub hl [0, 4] rfl⟩ (by have z0 := kz_nlt li4696; have z1 := kz_le li4697; have z2 := kz_nle c4698; have zr := kz_rng lx4693; have z3 := kz_addI (a := lx4693) (b := 1); have t0 : (0 : Int32).toInt = 0 := (by decide); have t256 : (256 : Int32).toInt = 256 := (by decide); have t1 : (1 : Int32).toInt = 1 := (by decide); omega)
set_option maxHeartbeats 4000000 in
set_option maxRecDepth 100000 in
theorem kcX12_judge (l : Launch) (D : va_G) (h0 h1 h2 h3 h4 h5 h6 h7 h8 h9 h10 h11 h12 h13 h14 h15 h16 h17 h18 h19 h20 h21 h22 h23 h24 h25 : Nat) (x0 x1 x2 : Int32) (a1 a9 a11 a12 : ClassId) (sz : Nat)  : Met l yX12_judge (Cond.code yX12_judge cX12_judge 4 (some .int) :: gG) { frames := 5, cells := 0, slots := 0, locals := 154 } (cPre D [(a1, .int), (a9, .int), (a11, .int), (a12, .int)] [(h0, .inr (12, [.ref h1, .ref h2, .ref h3, .ref h4, .int 0, .int 0, .ref h5, .int 0, .int 0, .int 0, .int 0, .int 0, .int 0, .int 0, .int 0, .int 0, .int 0, .int 0, .int 0, .int 0, .int (-1), .int 0, .int 0, .int 0, .ref h6, .ref h7, .ref h8, .ref h9, .ref h10, .ref h11, .int 0, .int 0, .int 0, .int 0, .ref h12, .ref h13, .ref h14, .int 0, .int 0, .int 0, .int 0, .ref h15, .ref h16, .int 0, .ref h17, .ref h18, .int 0, .ref h19, .int 0, .ref h20, .ref h21, .ref h22, .int 0, .ref h23, .ref h24, .ref h25])), (h2, .inl (a1, 6, .inl (fun _ => 0))), (h10, .inl (a9, 6, .inl (fun _ => 0))), (h12, .inl (a11, 256, .inl (fun _ => 0))), (h13, .inl (a12, 256, .inl (fun _ => 0)))] sz [.ref h0, .int x0, .int x1, .int x2]) (va_Qi (fun (r : Int32) (_ : Unit) => (x0 < (0 : Int32) ∧ r = (-1)) ∨ (¬ x0 < (0 : Int32) ∧ (5 : Int32) < x0 ∧ r = (-1)) ∨ (¬ x0 < (0 : Int32) ∧ ¬ (5 : Int32) < x0 ∧ x1 < (0 : Int32) ∧ r = (-1)) ∨ (¬ x0 < (0 : Int32) ∧ ¬ (5 : Int32) < x0 ∧ ¬ x1 < (0 : Int32) ∧ (5 : Int32) < x1 ∧ r = (-1)) ∨ (¬ x0 < (0 : Int32) ∧ ¬ (5 : Int32) < x0 ∧ ¬ x1 < (0 : Int32) ∧ ¬ (5 : Int32) < x1 ∧ x2 < (0 : Int32) ∧ r = (-1)) ∨ (¬ x0 < (0 : Int32) ∧ ¬ (5 : Int32) < x0 ∧ ¬ x1 < (0 : Int32) ∧ ¬ (5 : Int32) < x1 ∧ ¬ x2 < (0 : Int32) ∧ (3 : Int32) < x2 ∧ r = (-1)) ∨ (¬ x0 < (0 : Int32) ∧ ¬ (5 : Int32) < x0 ∧ ¬ x1 < (0 : Int32) ∧ ¬ (5 : Int32) < x1 ∧ ¬ x2 < (0 : Int32) ∧ ¬ (3 : Int32) < x2 ∧ x2 = (0 : Int32) ∧ r = 0) ∨ (¬ x0 < (0 : Int32) ∧ ¬ (5 : Int32) < x0 ∧ ¬ x1 < (0 : Int32) ∧ ¬ (5 : Int32) < x1 ∧ ¬ x2 < (0 : Int32) ∧ ¬ (3 : Int32) < x2 ∧ ¬ x2 = (0 : Int32) ∧ x2 = (1 : Int32) ∧ r = (-1)) ∨ (¬ x0 < (0 : Int32) ∧ ¬ (5 : Int32) < x0 ∧ ¬ x1 < (0 : Int32) ∧ ¬ (5 : Int32) < x1 ∧ ¬ x2 < (0 : Int32) ∧ ¬ (3 : Int32) < x2 ∧ ¬ x2 = (0 : Int32) ∧ ¬ x2 = (1 : Int32) ∧ x2 = (2 : Int32) ∧ r = (-1)) ∨ (¬ x0 < (0 : Int32) ∧ ¬ (5 : Int32) < x0 ∧ ¬ x1 < (0 : Int32) ∧ ¬ (5 : Int32) < x1 ∧ ¬ x2 < (0 : Int32) ∧ ¬ (3 : Int32) < x2 ∧ ¬ x2 = (0 : Int32) ∧ ¬ x2 = (1 : Int32) ∧ ¬ x2 = (2 : Int32) ∧ r = 0)) (fun u t => cB D (va_A [(h0, .inr (12, [.ref h1, .ref h2, .ref h3, .ref h4, .int 0, .int 0, .ref h5, .int 0, .int 0, .int 0, .int 0, .int 0, .int 0, .int 0, .int 0, .int 0, .int 0, .int 0, .int 0, .int 0, .int (-1), .int 0, .int 0, .int 0, .ref h6, .ref h7, .ref h8, .ref h9, .ref h10, .ref h11, .int 0, .int 0, .int 0, .int 0, .ref h12, .ref h13, .ref h14, .int 0, .int 0, .int 0, .int 0, .ref h15, .ref h16, .int 0, .ref h17, .ref h18, .int 0, .ref h19, .int 0, .ref h20, .ref h21, .ref h22, .int 0, .ref h23, .ref h24, .ref h25])), (h2, .inl (a1, 6, .inl (fun _ => 0))), (h10, .inl (a9, 6, .inl (fun _ => 0))), (h12, .inl (a11, 256, .inl (fun _ => 0))), (h13, .inl (a12, 256, .inl (fun _ => 0)))] sz) ((fun (_ : Unit) => ([] : List (ClassId × FieldType))) u) ((fun (_ : Unit) => ([] : va_W)) u) t) (va_A [(h0, .inr (12, [.ref h1, .ref h2, .ref h3, .ref h4, .int 0, .int 0, .ref h5, .int 0, .int 0, .int 0, .int 0, .int 0, .int 0, .int 0, .int 0, .int 0, .int 0, .int 0, .int 0, .int 0, .int (-1), .int 0, .int 0, .int 0, .ref h6, .ref h7, .ref h8, .ref h9, .ref h10, .ref h11, .int 0, .int 0, .int 0, .int 0, .ref h12, .ref h13, .ref h14, .int 0, .int 0, .int 0, .int 0, .ref h15, .ref h16, .int 0, .ref h17, .ref h18, .int 0, .ref h19, .int 0, .ref h20, .ref h21, .ref h22, .int 0, .ref h23, .ref h24, .ref h25])), (h2, .inl (a1, 6, .inl (fun _ => 0))), (h10, .inl (a9, 6, .inl (fun _ => 0))), (h12, .inl (a11, 256, .inl (fun _ => 0))), (h13, .inl (a12, 256, .inl (fun _ => 0)))] sz)) 0 0 (va_A [(h0, .inr (12, [.ref h1, .ref h2, .ref h3, .ref h4, .int 0, .int 0, .ref h5, .int 0, .int 0, .int 0, .int 0, .int 0, .int 0, .int 0, .int 0, .int 0, .int 0, .int 0, .int 0, .int 0, .int (-1), .int 0, .int 0, .int 0, .ref h6, .ref h7, .ref h8, .ref h9, .ref h10, .ref h11, .int 0, .int 0, .int 0, .int 0, .ref h12, .ref h13, .ref h14, .int 0, .int 0, .int 0, .int 0, .ref h15, .ref h16, .int 0, .ref h17, .ref h18, .int 0, .ref h19, .int 0, .ref h20, .ref h21, .ref h22, .int 0, .ref h23, .ref h24, .ref h25])), (h2, .inl (a1, 6, .inl (fun _ => 0))), (h10, .inl (a9, 6, .inl (fun _ => 0))), (h12, .inl (a11, 256, .inl (fun _ => 0))), (h13, .inl (a12, 256, .inl (fun _ => 0)))] sz) := by
  refine Met.ofW (cc := cX12_judge) (maxL := 4) (ret := (some .int)) (by decide) rfl ?_
  intro p e s m args below meth c s₁ B hml hv
  obtain ⟨rfl, aks, rfl, Wd⟩ := k_enter hv
  have C : CallFix p m c cX12_judge 4 s _ gG RX12 := ⟨B.exec, B.bytes, hml, findClass_of_methodNamed B.named, fun w h => atoms_spec (ws := Cond.code yX12_judge cX12_judge 4 (some .int) :: gG) B.pre w (List.mem_cons_of_mem _ h)⟩
  have hr := B.returns
  have hlk := B.notSynchronized
  generalize va_A [(h0, .inr (12, [.ref h1, .ref h2, .ref h3, .ref h4, .int 0, .int 0, .ref h5, .int 0, .int 0, .int 0, .int 0, .int 0, .int 0, .int 0, .int 0, .int 0, .int 0, .int 0, .int 0, .int 0, .int (-1), .int 0, .int 0, .int 0, .ref h6, .ref h7, .ref h8, .ref h9, .ref h10, .ref h11, .int 0, .int 0, .int 0, .int 0, .ref h12, .ref h13, .ref h14, .int 0, .int 0, .int 0, .int 0, .ref h15, .ref h16, .int 0, .ref h17, .ref h18, .int 0, .ref h19, .int 0, .ref h20, .ref h21, .ref h22, .int 0, .ref h23, .ref h24, .ref h25])), (h2, .inl (a1, 6, .inl (fun _ => 0))), (h10, .inl (a9, 6, .inl (fun _ => 0))), (h12, .inl (a11, 256, .inl (fun _ => 0))), (h13, .inl (a12, 256, .inl (fun _ => 0)))] s.heap.size = A at Wd ⊢
  refine k_locals (Nat.le_of_ble_eq_true rfl) [(0, .ref h0), (1, .int x0), (2, .int x1), (3, .int x2)] rfl (fun ls hl => ?_)
  refine lv_iload_n C.1 C.2.1 dX12_judge_0 rfl (lv_at hl 1 rfl) ?_
  refine k_pi (k_runS (rest := []) C aks Wd cs_X12_249 (kcX12_isSlot l D x0 _ ) [] rfl (by decide) [] rfl rfl rfl ⟨(Nat.le_of_ble_eq_true rfl), (Nat.le_of_ble_eq_true rfl)⟩ hl.1 rfl rfl (Nat.le_of_ble_eq_true rfl) ⟨(Nat.le_of_ble_eq_true rfl), (Nat.le_of_ble_eq_true rfl)⟩ dX12_judge_1) (fun r w4717 => ?_)
  rcases w4717 with ⟨c4718, rfl⟩ | ⟨c4719, c4720, rfl⟩ | ⟨c4721, c4722, rfl⟩
  · refine lv_if_eq (tgt := 23) C.1 C.2.1 dX12_judge_4 (by decide) (fun _ => ?_) (fun c4723 => absurd c4723 (by decide))
    refine lv_iconst (v := (-1)) C.1 C.2.1 dX12_judge_23 (by decide) ?_
    exact k_zret C hr hlk rfl Wd () (Or.inl (⟨c4718, rfl⟩)) [] rfl (by decide) [] rfl (by decide) (by decide) dX12_judge_24
  · refine lv_if_eq (tgt := 23) C.1 C.2.1 dX12_judge_4 (by decide) (fun _ => ?_) (fun c4724 => absurd c4724 (by decide))
    refine lv_iconst (v := (-1)) C.1 C.2.1 dX12_judge_23 (by decide) ?_
    exact k_zret C hr hlk rfl Wd () (Or.inr (Or.inl (⟨c4719, c4720, rfl⟩))) [] rfl (by decide) [] rfl (by decide) (by decide) dX12_judge_24
  · refine lv_if_eq (tgt := 23) C.1 C.2.1 dX12_judge_4 (by decide) (fun c4725 => absurd c4725 (by decide)) (fun _ => ?_)
    refine lv_iload_n C.1 C.2.1 dX12_judge_7 rfl (lv_at hl 2 rfl) ?_
    refine k_pi (k_runS (rest := []) C aks Wd cs_X12_249 (kcX12_isSlot l D x1 _ ) [] rfl (by decide) [] rfl rfl rfl ⟨(Nat.le_of_ble_eq_true rfl), (Nat.le_of_ble_eq_true rfl)⟩ hl.1 rfl rfl (Nat.le_of_ble_eq_true rfl) ⟨(Nat.le_of_ble_eq_true rfl), (Nat.le_of_ble_eq_true rfl)⟩ dX12_judge_8) (fun r w4726 => ?_)
    rcases w4726 with ⟨c4727, rfl⟩ | ⟨c4728, c4729, rfl⟩ | ⟨c4730, c4731, rfl⟩
    · refine lv_if_eq (tgt := 23) C.1 C.2.1 dX12_judge_11 (by decide) (fun _ => ?_) (fun c4732 => absurd c4732 (by decide))
      refine lv_iconst (v := (-1)) C.1 C.2.1 dX12_judge_23 (by decide) ?_
      exact k_zret C hr hlk rfl Wd () (Or.inr (Or.inr (Or.inl (⟨c4721, c4722, c4727, rfl⟩)))) [] rfl (by decide) [] rfl (by decide) (by decide) dX12_judge_24
    · refine lv_if_eq (tgt := 23) C.1 C.2.1 dX12_judge_11 (by decide) (fun _ => ?_) (fun c4733 => absurd c4733 (by decide))
      refine lv_iconst (v := (-1)) C.1 C.2.1 dX12_judge_23 (by decide) ?_
      exact k_zret C hr hlk rfl Wd () (Or.inr (Or.inr (Or.inr (Or.inl (⟨c4721, c4722, c4728, c4729, rfl⟩))))) [] rfl (by decide) [] rfl (by decide) (by decide) dX12_judge_24
    · refine lv_if_eq (tgt := 23) C.1 C.2.1 dX12_judge_11 (by decide) (fun c4734 => absurd c4734 (by decide)) (fun _ => ?_)
      refine lv_iload_n C.1 C.2.1 dX12_judge_14 rfl (lv_at hl 3 rfl) ?_
      refine lv_iconst (v := 0) C.1 C.2.1 dX12_judge_15 (by decide) ?_
      refine lv_iconst (v := 3) C.1 C.2.1 dX12_judge_16 (by decide) ?_
      refine k_pi (k_runS (rest := []) C aks Wd cs_X12_90 (kcX12_isIn l D x2 0 3 _ ) [] rfl (by decide) [] rfl rfl rfl ⟨(Nat.le_of_ble_eq_true rfl), (Nat.le_of_ble_eq_true rfl)⟩ hl.1 rfl rfl (Nat.le_of_ble_eq_true rfl) ⟨(Nat.le_of_ble_eq_true rfl), (Nat.le_of_ble_eq_true rfl)⟩ dX12_judge_17) (fun r w4735 => ?_)
      rcases w4735 with ⟨c4736, rfl⟩ | ⟨c4737, c4738, rfl⟩ | ⟨c4739, c4740, rfl⟩
      · refine lv_if_ne (tgt := 25) C.1 C.2.1 dX12_judge_20 (by decide) (fun c4741 => absurd c4741 (by decide)) (fun _ => ?_)
        refine lv_iconst (v := (-1)) C.1 C.2.1 dX12_judge_23 (by decide) ?_
        exact k_zret C hr hlk rfl Wd () (Or.inr (Or.inr (Or.inr (Or.inr (Or.inl (⟨c4721, c4722, c4730, c4731, c4736, rfl⟩)))))) [] rfl (by decide) [] rfl (by decide) (by decide) dX12_judge_24
      · refine lv_if_ne (tgt := 25) C.1 C.2.1 dX12_judge_20 (by decide) (fun c4742 => absurd c4742 (by decide)) (fun _ => ?_)
        refine lv_iconst (v := (-1)) C.1 C.2.1 dX12_judge_23 (by decide) ?_
        exact k_zret C hr hlk rfl Wd () (Or.inr (Or.inr (Or.inr (Or.inr (Or.inr (Or.inl (⟨c4721, c4722, c4730, c4731, c4737, c4738, rfl⟩))))))) [] rfl (by decide) [] rfl (by decide) (by decide) dX12_judge_24
      · refine lv_if_ne (tgt := 25) C.1 C.2.1 dX12_judge_20 (by decide) (fun _ => ?_) (fun c4743 => absurd c4743 (by decide))
        refine lv_aload_n C.1 C.2.1 dX12_judge_25 rfl (lv_at hl 0 rfl) ?_
        refine lv_iload_n C.1 C.2.1 dX12_judge_26 rfl (lv_at hl 1 rfl) ?_
        refine k_cv Wd [0, 1] [2, 3, 4] rfl (wr := [(h10, .inl (a9, 6, .inl (fun _ => 0))), (h12, .inl (a11, 256, .inl (fun _ => 0))), (h13, .inl (a12, 256, .inl (fun _ => 0)))]) rfl (by decide) (by decide) (cells' := 0) (slots' := 0) (by decide) (by decide) (k_runV (rest := []) C aks Wd cs_X12_271 (kcX12_takes l D h0 h1 h2 h3 h4 h5 h6 h7 h8 h9 h10 h11 h12 h13 h14 h15 h16 h17 h18 h19 h20 h21 h22 h23 h24 h25 x0 a1 _ c4721 c4722) [0, 1] rfl (by decide) [0] rfl 0 12 rfl rfl rfl rfl rfl ⟨(Nat.le_of_ble_eq_true rfl), (Nat.le_of_ble_eq_true rfl)⟩ hl.1 rfl rfl (Nat.le_of_ble_eq_true rfl) ⟨(Nat.le_of_ble_eq_true rfl), (Nat.le_of_ble_eq_true rfl)⟩ dX12_judge_27) (fun _ H locs w4744 Wd => ?_)
        have Wd : wX D [(a1, .int), (a9, .int), (a11, .int), (a12, .int)] s [(h10, .inl (a9, 6, .inl (fun _ => 0))), (h12, .inl (a11, 256, .inl (fun _ => 0))), (h13, .inl (a12, 256, .inl (fun _ => 0))), (h0, .inr (12, [.ref h1, .ref h2, .ref h3, .ref h4, .int 0, .int 0, .ref h5, .int 0, .int 0, .int 0, .int 0, .int 0, .int 0, .int 0, .int 0, .int 0, .int 0, .int 0, .int 0, .int 0, .int (-1), .int 0, .int 0, .int 0, .ref h6, .ref h7, .ref h8, .ref h9, .ref h10, .ref h11, .int 0, .int 0, .int 0, .int 0, .ref h12, .ref h13, .ref h14, .int 0, .int 0, .int 0, .int 0, .ref h15, .ref h16, .int 0, .ref h17, .ref h18, .int 0, .ref h19, .int 0, .ref h20, .ref h21, .ref h22, .int 0, .ref h23, .ref h24, .ref h25])), (h2, .inl (a1, 6, .inl (fun _ => 0)))] _ A s.heap _ := Wd
        refine lv_aload_n C.1 C.2.1 dX12_judge_30 rfl (lv_at hl 0 rfl) ?_
        refine k_cv Wd [0, 3, 1, 2] [4] rfl (wr := [(h2, .inl (a1, 6, .inl (fun _ => 0)))]) rfl (by decide) (by decide) (cells' := 0) (slots' := 0) (by decide) (by decide) (k_runV (rest := []) C aks Wd cs_X12_330 (kcX12_keeps l D h0 h1 h2 h3 h4 h5 h6 h7 h8 h9 h10 h11 h12 h13 h14 h15 h16 h17 h18 h19 h20 h21 h22 h23 h24 h25 a9 a11 a12 _ ) [0, 3, 1, 2] rfl (by decide) [1, 2, 3] rfl 3 12 rfl rfl rfl rfl rfl ⟨(Nat.le_of_ble_eq_true rfl), (Nat.le_of_ble_eq_true rfl)⟩ hl.1 rfl rfl (Nat.le_of_ble_eq_true rfl) ⟨(Nat.le_of_ble_eq_true rfl), (Nat.le_of_ble_eq_true rfl)⟩ dX12_judge_31) (fun fu4746 H locs w4745 Wd => ?_)
        have Wd : wX D [(a1, .int), (a9, .int), (a11, .int), (a12, .int)] s [(h2, .inl (a1, 6, .inl (fun _ => 0))), (h10, .inl (a9, 6, .inl fu4746)), (h0, .inr (12, [.ref h1, .ref h2, .ref h3, .ref h4, .int 0, .int 0, .ref h5, .int 0, .int 0, .int 0, .int 0, .int 0, .int 0, .int 0, .int 0, .int 0, .int 0, .int 0, .int 0, .int 0, .int (-1), .int 0, .int 0, .int 0, .ref h6, .ref h7, .ref h8, .ref h9, .ref h10, .ref h11, .int 0, .int 0, .int 0, .int 0, .ref h12, .ref h13, .ref h14, .int 0, .int 0, .int 0, .int 0, .ref h15, .ref h16, .int 0, .ref h17, .ref h18, .int 0, .ref h19, .int 0, .ref h20, .ref h21, .ref h22, .int 0, .ref h23, .ref h24, .ref h25])), (h12, .inl (a11, 256, .inl (fun _ => 0))), (h13, .inl (a12, 256, .inl (fun _ => 0)))] _ A s.heap _ := Wd
        refine lv_aload_n C.1 C.2.1 dX12_judge_34 rfl (lv_at hl 0 rfl) ?_
        refine lv_iload_n C.1 C.2.1 dX12_judge_35 rfl (lv_at hl 2 rfl) ?_
        refine k_cv Wd [2, 0] [1, 3, 4] rfl (wr := [(h10, .inl (a9, 6, .inl fu4746)), (h12, .inl (a11, 256, .inl (fun _ => 0))), (h13, .inl (a12, 256, .inl (fun _ => 0)))]) rfl (by decide) (by decide) (cells' := 0) (slots' := 0) (by decide) (by decide) (k_runV (rest := []) C aks Wd cs_X12_271 (kcX12_takes l D h0 h1 h2 h3 h4 h5 h6 h7 h8 h9 h10 h11 h12 h13 h14 h15 h16 h17 h18 h19 h20 h21 h22 h23 h24 h25 x1 a1 _ c4730 c4731) [2, 0] rfl (by decide) [0] rfl 2 12 rfl rfl rfl rfl rfl ⟨(Nat.le_of_ble_eq_true rfl), (Nat.le_of_ble_eq_true rfl)⟩ hl.1 rfl rfl (Nat.le_of_ble_eq_true rfl) ⟨(Nat.le_of_ble_eq_true rfl), (Nat.le_of_ble_eq_true rfl)⟩ dX12_judge_36) (fun _ H locs w4747 Wd => ?_)
        have Wd : wX D [(a1, .int), (a9, .int), (a11, .int), (a12, .int)] s [(h10, .inl (a9, 6, .inl fu4746)), (h12, .inl (a11, 256, .inl (fun _ => 0))), (h13, .inl (a12, 256, .inl (fun _ => 0))), (h0, .inr (12, [.ref h1, .ref h2, .ref h3, .ref h4, .int 0, .int 0, .ref h5, .int 0, .int 0, .int 0, .int 0, .int 0, .int 0, .int 0, .int 0, .int 0, .int 0, .int 0, .int 0, .int 0, .int (-1), .int 0, .int 0, .int 0, .ref h6, .ref h7, .ref h8, .ref h9, .ref h10, .ref h11, .int 0, .int 0, .int 0, .int 0, .ref h12, .ref h13, .ref h14, .int 0, .int 0, .int 0, .int 0, .ref h15, .ref h16, .int 0, .ref h17, .ref h18, .int 0, .ref h19, .int 0, .ref h20, .ref h21, .ref h22, .int 0, .ref h23, .ref h24, .ref h25])), (h2, .inl (a1, 6, .inl (fun _ => 0)))] _ A s.heap _ := Wd
        refine lv_aload_n C.1 C.2.1 dX12_judge_39 rfl (lv_at hl 0 rfl) ?_
        refine k_cv Wd [3, 0, 1, 2] [4] rfl (wr := [(h2, .inl (a1, 6, .inl (fun _ => 0)))]) rfl (by decide) (by decide) (cells' := 0) (slots' := 0) (by decide) (by decide) (k_runV (rest := []) C aks Wd cs_X12_333 (kcX12_compares l D h0 h1 h2 h3 h4 h5 h6 h7 h8 h9 h10 h11 h12 h13 h14 h15 h16 h17 h18 h19 h20 h21 h22 h23 h24 h25 fu4746 a9 a11 a12 _ ) [3, 0, 1, 2] rfl (by decide) [1, 2, 3] rfl 3 12 rfl rfl rfl rfl rfl ⟨(Nat.le_of_ble_eq_true rfl), (Nat.le_of_ble_eq_true rfl)⟩ hl.1 rfl rfl (Nat.le_of_ble_eq_true rfl) ⟨(Nat.le_of_ble_eq_true rfl), (Nat.le_of_ble_eq_true rfl)⟩ dX12_judge_40) (fun fu4749 H locs w4748 Wd => ?_)
        have Wd : wX D [(a1, .int), (a9, .int), (a11, .int), (a12, .int)] s [(h2, .inl (a1, 6, .inl (fun _ => 0))), (h0, .inr (12, [.ref h1, .ref h2, .ref h3, .ref h4, .int 0, .int 0, .ref h5, .int 0, .int 0, .int 0, .int 0, .int 0, .int 0, .int 0, .int 0, .int 0, .int 0, .int 0, .int 0, .int 0, .int (-1), .int 0, .int 0, .int 0, .ref h6, .ref h7, .ref h8, .ref h9, .ref h10, .ref h11, .int 0, .int 0, .int 0, .int 0, .ref h12, .ref h13, .ref h14, .int (-1), .int (-1), .int 0, .int 0, .ref h15, .ref h16, .int 0, .ref h17, .ref h18, .int 0, .ref h19, .int 0, .ref h20, .ref h21, .ref h22, .int 0, .ref h23, .ref h24, .ref h25])), (h10, .inl (a9, 6, .inl fu4749)), (h12, .inl (a11, 256, .inl (fun _ => 0))), (h13, .inl (a12, 256, .inl (fun _ => 0)))] _ A s.heap _ := Wd
        refine lv_iload_n C.1 C.2.1 dX12_judge_43 rfl (lv_at hl 3 rfl) ?_
        by_cases c4750 : x2 = (0 : Int32)
        · subst c4750
          refine lv_tableIn (off := 28) (tgt := 72) C.1 C.2.1 dX12_judge_44 (by decide) (by decide) (by decide) (by decide) ?_
          refine lv_aload_n C.1 C.2.1 dX12_judge_72 rfl (lv_at hl 0 rfl) ?_
          refine k_get C Wd KX12 1 37 rfl (by decide) fl_X12_318 rfl dX12_judge_73 ?_
          refine lv_iconst (v := (-1)) C.1 C.2.1 dX12_judge_76 (by decide) ?_
          refine lv_icmp_eq (tgt := 84) C.1 C.2.1 dX12_judge_77 (by decide) (fun _ => ?_) (fun c4751 => absurd c4751 (by decide))
          refine lv_aload_n C.1 C.2.1 dX12_judge_84 rfl (lv_at hl 0 rfl) ?_
          refine k_get C Wd KX12 1 40 rfl (by decide) fl_X12_327 rfl dX12_judge_85 ?_
          refine lv_if_eq (tgt := 95) C.1 C.2.1 dX12_judge_88 (by decide) (fun _ => ?_) (fun c4752 => absurd c4752 (by decide))
          refine lv_iconst (v := 0) C.1 C.2.1 dX12_judge_95 (by decide) ?_
          exact k_zret C hr hlk rfl Wd () (Or.inr (Or.inr (Or.inr (Or.inr (Or.inr (Or.inr (Or.inl (⟨c4721, c4722, c4730, c4731, c4739, c4740, rfl, rfl⟩)))))))) [] rfl (by decide) [] rfl (by decide) (by decide) dX12_judge_96
        by_cases c4753 : x2 = (1 : Int32)
        · subst c4753
          refine lv_tableIn (off := 53) (tgt := 97) C.1 C.2.1 dX12_judge_44 (by decide) (by decide) (by decide) (by decide) ?_
          refine lv_aload_n C.1 C.2.1 dX12_judge_97 rfl (lv_at hl 0 rfl) ?_
          refine k_get C Wd KX12 1 37 rfl (by decide) fl_X12_318 rfl dX12_judge_98 ?_
          exact k_zret C hr hlk rfl Wd () (Or.inr (Or.inr (Or.inr (Or.inr (Or.inr (Or.inr (Or.inr (Or.inl (⟨c4721, c4722, c4730, c4731, c4739, c4740, c4750, rfl, rfl⟩))))))))) [] rfl (by decide) [] rfl (by decide) (by decide) dX12_judge_101
        by_cases c4754 : x2 = (2 : Int32)
        · subst c4754
          refine lv_tableIn (off := 58) (tgt := 102) C.1 C.2.1 dX12_judge_44 (by decide) (by decide) (by decide) (by decide) ?_
          refine lv_aload_n C.1 C.2.1 dX12_judge_102 rfl (lv_at hl 0 rfl) ?_
          refine k_get C Wd KX12 1 38 rfl (by decide) fl_X12_321 rfl dX12_judge_103 ?_
          exact k_zret C hr hlk rfl Wd () (Or.inr (Or.inr (Or.inr (Or.inr (Or.inr (Or.inr (Or.inr (Or.inr (Or.inl (⟨c4721, c4722, c4730, c4731, c4739, c4740, c4750, c4753, rfl, rfl⟩)))))))))) [] rfl (by decide) [] rfl (by decide) (by decide) dX12_judge_106
        refine lv_tableOut (tgt := 107) C.1 C.2.1 dX12_judge_44 (by have z0 := kz_nlt c4739; have z1 := kz_nlt c4740; have z2 := kz_ne c4750; have z3 := kz_ne c4753; have z4 := kz_ne c4754; have t0 : (0 : Int32).toInt = 0 := (by decide); have t3 : (3 : Int32).toInt = 3 := (by decide); have t1 : (1 : Int32).toInt = 1 := (by decide); have t2 : (2 : Int32).toInt = 2 := (by decide); omega) (by decide) ?_
        refine lv_aload_n C.1 C.2.1 dX12_judge_107 rfl (lv_at hl 0 rfl) ?_
        refine k_get C Wd KX12 1 39 rfl (by decide) fl_X12_324 rfl dX12_judge_108 ?_
        exact k_zret C hr hlk rfl Wd () (Or.inr (Or.inr (Or.inr (Or.inr (Or.inr (Or.inr (Or.inr (Or.inr (Or.inr (⟨c4721, c4722, c4730, c4731, c4739, c4740, c4750, c4753, c4754, rfl⟩)))))))))) [] rfl (by decide) [] rfl (by decide) (by decide) dX12_judge_111
set_option maxHeartbeats 4000000 in
set_option maxRecDepth 100000 in
theorem kcX12_ruleOf (l : Launch) (D : va_G) (h0 h1 h2 h3 h4 h5 h6 h7 h8 h9 h10 h11 h12 h13 h14 h15 h16 h17 h18 h19 h20 h21 h22 h23 h24 h25 : Nat) (x0 x1 : Int32) (sz : Nat)  : Met l yX12_ruleOf (Cond.code yX12_ruleOf cX12_ruleOf 8 (some .int) :: gG) { frames := 2, cells := 0, slots := 0, locals := 86 } (cPre D [] [(h0, .inr (12, [.ref h1, .ref h2, .ref h3, .ref h4, .int 0, .int 0, .ref h5, .int 0, .int 0, .int 0, .int 0, .int 0, .int 0, .int 0, .int 0, .int 0, .int 0, .int 0, .int 0, .int 0, .int (-1), .int 0, .int 0, .int 0, .ref h6, .ref h7, .ref h8, .ref h9, .ref h10, .ref h11, .int 0, .int 0, .int 0, .int 0, .ref h12, .ref h13, .ref h14, .int 0, .int 0, .int 0, .int 0, .ref h15, .ref h16, .int 0, .ref h17, .ref h18, .int 0, .ref h19, .int 0, .ref h20, .ref h21, .ref h22, .int 0, .ref h23, .ref h24, .ref h25]))] sz [.ref h0, .int x0, .int x1]) (vp_Si (fun r => (x0 < (0 : Int32) ∧ r = (-2)) ∨ (¬ x0 < (0 : Int32) ∧ (-1 : Int32) < x0 ∧ r = (-2)))) 0 0 (fun _ => False) := by
  refine Met.ofW (cc := cX12_ruleOf) (maxL := 8) (ret := (some .int)) (by decide) rfl ?_
  intro p e s m args below meth c s₁ B hml hv
  obtain ⟨rfl, aks, rfl, Wd⟩ := k_enter hv
  have C : CallFix p m c cX12_ruleOf 8 s _ gG RX12 := ⟨B.exec, B.bytes, hml, findClass_of_methodNamed B.named, fun w h => atoms_spec (ws := Cond.code yX12_ruleOf cX12_ruleOf 8 (some .int) :: gG) B.pre w (List.mem_cons_of_mem _ h)⟩
  have hr := B.returns
  have hlk := B.notSynchronized
  obtain ⟨A, Wd⟩ : ∃ A, wX D [] s [(h0, .inr (12, [.ref h1, .ref h2, .ref h3, .ref h4, .int 0, .int 0, .ref h5, .int 0, .int 0, .int 0, .int 0, .int 0, .int 0, .int 0, .int 0, .int 0, .int 0, .int 0, .int 0, .int 0, .int (-1), .int 0, .int 0, .int 0, .ref h6, .ref h7, .ref h8, .ref h9, .ref h10, .ref h11, .int 0, .int 0, .int 0, .int 0, .ref h12, .ref h13, .ref h14, .int 0, .int 0, .int 0, .int 0, .ref h15, .ref h16, .int 0, .ref h17, .ref h18, .int 0, .ref h19, .int 0, .ref h20, .ref h21, .ref h22, .int 0, .ref h23, .ref h24, .ref h25]))] s.heap A s.heap [] := ⟨_, Wd⟩
  refine k_locals (Nat.le_of_ble_eq_true rfl) [(0, .ref h0), (1, .int x0), (2, .int x1)] rfl (fun ls hl => ?_)
  refine lv_iload_n C.1 C.2.1 dX12_ruleOf_0 rfl (lv_at hl 1 rfl) ?_
  refine lv_iconst (v := 0) C.1 C.2.1 dX12_ruleOf_1 (by decide) ?_
  refine lv_aload_n C.1 C.2.1 dX12_ruleOf_2 rfl (lv_at hl 0 rfl) ?_
  refine k_get C Wd KX12 0 23 rfl (by decide) fl_X12_268 rfl dX12_ruleOf_3 ?_
  refine lv_iconst (v := 1) C.1 C.2.1 dX12_ruleOf_6 (by decide) ?_
  refine k_isub (v := (-1)) C (by decide) dX12_ruleOf_7 ?_
  refine k_pi (k_runS (rest := []) C aks Wd cs_X12_90 (kcX12_isIn l D x0 0 (-1) _ ) [] rfl (by decide) [] rfl rfl rfl ⟨(Nat.le_of_ble_eq_true rfl), (Nat.le_of_ble_eq_true rfl)⟩ hl.1 rfl rfl (Nat.le_of_ble_eq_true rfl) ⟨(Nat.le_of_ble_eq_true rfl), (Nat.le_of_ble_eq_true rfl)⟩ dX12_ruleOf_8) (fun r w4763 => ?_)
  rcases w4763 with ⟨c4764, rfl⟩ | ⟨c4765, c4766, rfl⟩ | ⟨c4767, c4768, rfl⟩
  · refine lv_if_eq (tgt := 23) C.1 C.2.1 dX12_ruleOf_11 (by decide) (fun _ => ?_) (fun c4769 => absurd c4769 (by decide))
    refine lv_bipush (v := (-2)) C.1 C.2.1 dX12_ruleOf_23 (by decide) ?_
    exact k_zretP C hr hlk rfl (Or.inl (⟨c4764, rfl⟩)) dX12_ruleOf_25
  · refine lv_if_eq (tgt := 23) C.1 C.2.1 dX12_ruleOf_11 (by decide) (fun _ => ?_) (fun c4770 => absurd c4770 (by decide))
    refine lv_bipush (v := (-2)) C.1 C.2.1 dX12_ruleOf_23 (by decide) ?_
    exact k_zretP C hr hlk rfl (Or.inr (⟨c4765, c4766, rfl⟩)) dX12_ruleOf_25
  · exact False.elim (by have z0 := kz_nlt c4767; have z1 := kz_nlt c4768; have t0 : (0 : Int32).toInt = 0 := (by decide); have tm1 : (-1 : Int32).toInt = -1 := (by decide); omega)
set_option maxHeartbeats 4000000 in
set_option maxRecDepth 100000 in
theorem kcX12_places (l : Launch) (D : va_G) (h0 h1 h2 h3 h4 h5 h6 h7 h8 h9 h10 h11 h12 h13 h14 h15 h16 h17 h18 h19 h20 h21 h22 h23 h24 h25 : Nat) (x0 x1 : Int32) (sz : Nat)  : Met l yX12_places (Cond.code yX12_places cX12_places 5 (some .int) :: gG) { frames := 2, cells := 0, slots := 0, locals := 86 } (cPre D [] [(h0, .inr (12, [.ref h1, .ref h2, .ref h3, .ref h4, .int 0, .int 0, .ref h5, .int 0, .int 0, .int 0, .int 0, .int 0, .int 0, .int 0, .int 0, .int 0, .int 0, .int 0, .int 0, .int 0, .int (-1), .int 0, .int 0, .int 0, .ref h6, .ref h7, .ref h8, .ref h9, .ref h10, .ref h11, .int 0, .int 0, .int 0, .int 0, .ref h12, .ref h13, .ref h14, .int 0, .int 0, .int 0, .int 0, .ref h15, .ref h16, .int 0, .ref h17, .ref h18, .int 0, .ref h19, .int 0, .ref h20, .ref h21, .ref h22, .int 0, .ref h23, .ref h24, .ref h25]))] sz [.ref h0, .int x0, .int x1]) (vp_Si (fun r => (x0 < (0 : Int32) ∧ r = (-1)) ∨ (¬ x0 < (0 : Int32) ∧ (-1 : Int32) < x0 ∧ r = (-1)))) 0 0 (fun _ => False) := by
  refine Met.ofW (cc := cX12_places) (maxL := 5) (ret := (some .int)) (by decide) rfl ?_
  intro p e s m args below meth c s₁ B hml hv
  obtain ⟨rfl, aks, rfl, Wd⟩ := k_enter hv
  have C : CallFix p m c cX12_places 5 s _ gG RX12 := ⟨B.exec, B.bytes, hml, findClass_of_methodNamed B.named, fun w h => atoms_spec (ws := Cond.code yX12_places cX12_places 5 (some .int) :: gG) B.pre w (List.mem_cons_of_mem _ h)⟩
  have hr := B.returns
  have hlk := B.notSynchronized
  obtain ⟨A, Wd⟩ : ∃ A, wX D [] s [(h0, .inr (12, [.ref h1, .ref h2, .ref h3, .ref h4, .int 0, .int 0, .ref h5, .int 0, .int 0, .int 0, .int 0, .int 0, .int 0, .int 0, .int 0, .int 0, .int 0, .int 0, .int 0, .int 0, .int (-1), .int 0, .int 0, .int 0, .ref h6, .ref h7, .ref h8, .ref h9, .ref h10, .ref h11, .int 0, .int 0, .int 0, .int 0, .ref h12, .ref h13, .ref h14, .int 0, .int 0, .int 0, .int 0, .ref h15, .ref h16, .int 0, .ref h17, .ref h18, .int 0, .ref h19, .int 0, .ref h20, .ref h21, .ref h22, .int 0, .ref h23, .ref h24, .ref h25]))] s.heap A s.heap [] := ⟨_, Wd⟩
  refine k_locals (Nat.le_of_ble_eq_true rfl) [(0, .ref h0), (1, .int x0), (2, .int x1)] rfl (fun ls hl => ?_)
  refine lv_iload_n C.1 C.2.1 dX12_places_0 rfl (lv_at hl 1 rfl) ?_
  refine lv_iconst (v := 0) C.1 C.2.1 dX12_places_1 (by decide) ?_
  refine lv_aload_n C.1 C.2.1 dX12_places_2 rfl (lv_at hl 0 rfl) ?_
  refine k_get C Wd KX12 0 23 rfl (by decide) fl_X12_268 rfl dX12_places_3 ?_
  refine lv_iconst (v := 1) C.1 C.2.1 dX12_places_6 (by decide) ?_
  refine k_isub (v := (-1)) C (by decide) dX12_places_7 ?_
  refine k_pi (k_runS (rest := []) C aks Wd cs_X12_90 (kcX12_isIn l D x0 0 (-1) _ ) [] rfl (by decide) [] rfl rfl rfl ⟨(Nat.le_of_ble_eq_true rfl), (Nat.le_of_ble_eq_true rfl)⟩ hl.1 rfl rfl (Nat.le_of_ble_eq_true rfl) ⟨(Nat.le_of_ble_eq_true rfl), (Nat.le_of_ble_eq_true rfl)⟩ dX12_places_8) (fun r w4779 => ?_)
  rcases w4779 with ⟨c4780, rfl⟩ | ⟨c4781, c4782, rfl⟩ | ⟨c4783, c4784, rfl⟩
  · refine lv_if_eq (tgt := 21) C.1 C.2.1 dX12_places_11 (by decide) (fun _ => ?_) (fun c4785 => absurd c4785 (by decide))
    refine lv_iconst (v := (-1)) C.1 C.2.1 dX12_places_21 (by decide) ?_
    exact k_zretP C hr hlk rfl (Or.inl (⟨c4780, rfl⟩)) dX12_places_22
  · refine lv_if_eq (tgt := 21) C.1 C.2.1 dX12_places_11 (by decide) (fun _ => ?_) (fun c4786 => absurd c4786 (by decide))
    refine lv_iconst (v := (-1)) C.1 C.2.1 dX12_places_21 (by decide) ?_
    exact k_zretP C hr hlk rfl (Or.inr (⟨c4781, c4782, rfl⟩)) dX12_places_22
  · exact False.elim (by have z0 := kz_nlt c4783; have z1 := kz_nlt c4784; have t0 : (0 : Int32).toInt = 0 := (by decide); have tm1 : (-1 : Int32).toInt = -1 := (by decide); omega)
set_option maxHeartbeats 4000000 in
set_option maxRecDepth 100000 in
theorem kcX12_apply (l : Launch) (D : va_G) (h0 h1 h2 h3 h4 h5 h6 h7 h8 h9 h10 h11 h12 h13 h14 h15 h16 h17 h18 h19 h20 h21 h22 h23 h24 h25 : Nat) (x0 x1 x2 x3 : Int32) (sz : Nat)  : Met l yX12_apply (Cond.code yX12_apply cX12_apply 6 (some .boolean) :: gG) { frames := 2, cells := 0, slots := 0, locals := 86 } (cPre D [] [(h0, .inr (12, [.ref h1, .ref h2, .ref h3, .ref h4, .int 0, .int 0, .ref h5, .int 0, .int 0, .int 0, .int 0, .int 0, .int 0, .int 0, .int 0, .int 0, .int 0, .int 0, .int 0, .int 0, .int (-1), .int 0, .int 0, .int 0, .ref h6, .ref h7, .ref h8, .ref h9, .ref h10, .ref h11, .int 0, .int 0, .int 0, .int 0, .ref h12, .ref h13, .ref h14, .int 0, .int 0, .int 0, .int 0, .ref h15, .ref h16, .int 0, .ref h17, .ref h18, .int 0, .ref h19, .int 0, .ref h20, .ref h21, .ref h22, .int 0, .ref h23, .ref h24, .ref h25]))] sz [.ref h0, .int x0, .int x1, .int x2, .int x3]) (vp_Si (fun r => (x0 < (0 : Int32) ∧ r = 0) ∨ (¬ x0 < (0 : Int32) ∧ (-1 : Int32) < x0 ∧ r = 0))) 0 0 (fun _ => False) := by
  refine Met.ofW (cc := cX12_apply) (maxL := 6) (ret := (some .boolean)) (by decide) rfl ?_
  intro p e s m args below meth c s₁ B hml hv
  obtain ⟨rfl, aks, rfl, Wd⟩ := k_enter hv
  have C : CallFix p m c cX12_apply 6 s _ gG RX12 := ⟨B.exec, B.bytes, hml, findClass_of_methodNamed B.named, fun w h => atoms_spec (ws := Cond.code yX12_apply cX12_apply 6 (some .boolean) :: gG) B.pre w (List.mem_cons_of_mem _ h)⟩
  have hr := B.returns
  have hlk := B.notSynchronized
  obtain ⟨A, Wd⟩ : ∃ A, wX D [] s [(h0, .inr (12, [.ref h1, .ref h2, .ref h3, .ref h4, .int 0, .int 0, .ref h5, .int 0, .int 0, .int 0, .int 0, .int 0, .int 0, .int 0, .int 0, .int 0, .int 0, .int 0, .int 0, .int 0, .int (-1), .int 0, .int 0, .int 0, .ref h6, .ref h7, .ref h8, .ref h9, .ref h10, .ref h11, .int 0, .int 0, .int 0, .int 0, .ref h12, .ref h13, .ref h14, .int 0, .int 0, .int 0, .int 0, .ref h15, .ref h16, .int 0, .ref h17, .ref h18, .int 0, .ref h19, .int 0, .ref h20, .ref h21, .ref h22, .int 0, .ref h23, .ref h24, .ref h25]))] s.heap A s.heap [] := ⟨_, Wd⟩
  refine k_locals (Nat.le_of_ble_eq_true rfl) [(0, .ref h0), (1, .int x0), (2, .int x1), (3, .int x2), (4, .int x3)] rfl (fun ls hl => ?_)
  refine lv_iload_n C.1 C.2.1 dX12_apply_0 rfl (lv_at hl 1 rfl) ?_
  refine lv_iconst (v := 0) C.1 C.2.1 dX12_apply_1 (by decide) ?_
  refine lv_aload_n C.1 C.2.1 dX12_apply_2 rfl (lv_at hl 0 rfl) ?_
  refine k_get C Wd KX12 0 23 rfl (by decide) fl_X12_268 rfl dX12_apply_3 ?_
  refine lv_iconst (v := 1) C.1 C.2.1 dX12_apply_6 (by decide) ?_
  refine k_isub (v := (-1)) C (by decide) dX12_apply_7 ?_
  refine k_pi (k_runS (rest := []) C aks Wd cs_X12_90 (kcX12_isIn l D x0 0 (-1) _ ) [] rfl (by decide) [] rfl rfl rfl ⟨(Nat.le_of_ble_eq_true rfl), (Nat.le_of_ble_eq_true rfl)⟩ hl.1 rfl rfl (Nat.le_of_ble_eq_true rfl) ⟨(Nat.le_of_ble_eq_true rfl), (Nat.le_of_ble_eq_true rfl)⟩ dX12_apply_8) (fun r w4795 => ?_)
  rcases w4795 with ⟨c4796, rfl⟩ | ⟨c4797, c4798, rfl⟩ | ⟨c4799, c4800, rfl⟩
  · refine lv_if_eq (tgt := 33) C.1 C.2.1 dX12_apply_11 (by decide) (fun _ => ?_) (fun c4801 => absurd c4801 (by decide))
    refine lv_iconst (v := 0) C.1 C.2.1 dX12_apply_33 (by decide) ?_
    exact k_zretP C hr hlk rfl (Or.inl (⟨c4796, rfl⟩)) dX12_apply_34
  · refine lv_if_eq (tgt := 33) C.1 C.2.1 dX12_apply_11 (by decide) (fun _ => ?_) (fun c4802 => absurd c4802 (by decide))
    refine lv_iconst (v := 0) C.1 C.2.1 dX12_apply_33 (by decide) ?_
    exact k_zretP C hr hlk rfl (Or.inr (⟨c4797, c4798, rfl⟩)) dX12_apply_34
  · exact False.elim (by have z0 := kz_nlt c4799; have z1 := kz_nlt c4800; have t0 : (0 : Int32).toInt = 0 := (by decide); have tm1 : (-1 : Int32).toInt = -1 := (by decide); omega)
set_option maxHeartbeats 4000000 in
set_option maxRecDepth 100000 in
theorem kcX12_isPass (l : Launch) (D : va_G) (x0 : Int32) (sz : Nat)  : Met l yX12_isPass (Cond.code yX12_isPass cX12_isPass 1 (some .boolean) :: gG) { frames := 2, cells := 0, slots := 0, locals := 86 } (cPre D [] [] sz [.int x0]) (vp_Si (fun r => (x0 < (0 : Int32) ∧ r = 0) ∨ (¬ x0 < (0 : Int32) ∧ (5 : Int32) < x0 ∧ r = 0) ∨ (¬ x0 < (0 : Int32) ∧ ¬ (5 : Int32) < x0 ∧ r = 1))) 0 0 (fun _ => False) := by
  refine Met.ofW (cc := cX12_isPass) (maxL := 1) (ret := (some .boolean)) (by decide) rfl ?_
  intro p e s m args below meth c s₁ B hml hv
  obtain ⟨rfl, aks, rfl, Wd⟩ := k_enter hv
  have C : CallFix p m c cX12_isPass 1 s _ gG RX12 := ⟨B.exec, B.bytes, hml, findClass_of_methodNamed B.named, fun w h => atoms_spec (ws := Cond.code yX12_isPass cX12_isPass 1 (some .boolean) :: gG) B.pre w (List.mem_cons_of_mem _ h)⟩
  have hr := B.returns
  have hlk := B.notSynchronized
  obtain ⟨A, Wd⟩ : ∃ A, wX D [] s [] s.heap A s.heap [] := ⟨_, Wd⟩
  refine k_locals (Nat.le_of_ble_eq_true rfl) [(0, .int x0)] rfl (fun ls hl => ?_)
  refine lv_iload_n C.1 C.2.1 dX12_isPass_0 rfl (lv_at hl 0 rfl) ?_
  refine lv_iconst (v := 0) C.1 C.2.1 dX12_isPass_1 (by decide) ?_
  refine lv_iconst (v := 5) C.1 C.2.1 dX12_isPass_2 (by decide) ?_
  refine k_pi (k_runS (rest := []) C aks Wd cs_X12_90 (kcX12_isIn l D x0 0 5 _ ) [] rfl (by decide) [] rfl rfl rfl ⟨(Nat.le_of_ble_eq_true rfl), (Nat.le_of_ble_eq_true rfl)⟩ hl.1 rfl rfl (Nat.le_of_ble_eq_true rfl) ⟨(Nat.le_of_ble_eq_true rfl), (Nat.le_of_ble_eq_true rfl)⟩ dX12_isPass_3) (fun r w4809 => ?_)
  rcases w4809 with ⟨c4810, rfl⟩ | ⟨c4811, c4812, rfl⟩ | ⟨c4813, c4814, rfl⟩
  · exact k_zretP C hr hlk rfl (Or.inl (⟨c4810, rfl⟩)) dX12_isPass_6
  · exact k_zretP C hr hlk rfl (Or.inr (Or.inl (⟨c4811, c4812, rfl⟩))) dX12_isPass_6
  · exact k_zretP C hr hlk rfl (Or.inr (Or.inr (⟨c4813, c4814, rfl⟩))) dX12_isPass_6
set_option maxHeartbeats 4000000 in
set_option maxRecDepth 100000 in
theorem kcX12_item (l : Launch) (D : va_G) (h0 h1 h2 h3 h4 h5 h6 h7 h8 h9 h10 h11 h12 h13 h14 h15 h16 h17 h18 h19 h20 h21 h22 h23 h24 h25 : Nat) (x0 x1 : Int32) (a19 a20 : ClassId) (sz : Nat)  : Met l yX12_item (Cond.code yX12_item cX12_item 3 (some .int) :: gG) { frames := 3, cells := 0, slots := 0, locals := 106 } (cPre D [(a19, .int), (a20, .int)] [(h0, .inr (12, [.ref h1, .ref h2, .ref h3, .ref h4, .int 0, .int 0, .ref h5, .int 0, .int 0, .int 0, .int 0, .int 0, .int 0, .int 0, .int 0, .int 0, .int 0, .int 0, .int 0, .int 0, .int (-1), .int 0, .int 0, .int 0, .ref h6, .ref h7, .ref h8, .ref h9, .ref h10, .ref h11, .int 0, .int 0, .int 0, .int 0, .ref h12, .ref h13, .ref h14, .int 0, .int 0, .int 0, .int 0, .ref h15, .ref h16, .int 0, .ref h17, .ref h18, .int 0, .ref h19, .int 0, .ref h20, .ref h21, .ref h22, .int 0, .ref h23, .ref h24, .ref h25])), (h21, .inl (a20, 6, .inl (fun _ => 0))), (h20, .inl (a19, 48, .inl (fun _ => 0)))] sz [.ref h0, .int x0, .int x1]) (va_Qi (fun (r : Int32) (_ : Unit) => (x0 < (0 : Int32) ∧ r = (-1)) ∨ (¬ x0 < (0 : Int32) ∧ (5 : Int32) < x0 ∧ r = (-1)) ∨ (¬ x0 < (0 : Int32) ∧ ¬ (5 : Int32) < x0 ∧ x1 < (0 : Int32) ∧ x1 < (20 : Int32) ∧ r = (-1)) ∨ (¬ x0 < (0 : Int32) ∧ ¬ (5 : Int32) < x0 ∧ ¬ x1 < (0 : Int32) ∧ (-1 : Int32) < x1 ∧ x1 < (20 : Int32) ∧ r = (-1)) ∨ (¬ x0 < (0 : Int32) ∧ ¬ (5 : Int32) < x0 ∧ ¬ x1 < (0 : Int32) ∧ (-1 : Int32) < x1 ∧ ¬ x1 < (20 : Int32) ∧ (24 : Int32) < x1 ∧ r = (-1)) ∨ (¬ x0 < (0 : Int32) ∧ ¬ (5 : Int32) < x0 ∧ ¬ x1 < (0 : Int32) ∧ (-1 : Int32) < x1 ∧ ¬ x1 < (20 : Int32) ∧ ¬ (24 : Int32) < x1 ∧ x0 = (0 : Int32) ∧ r = 1) ∨ (¬ x0 < (0 : Int32) ∧ ¬ (5 : Int32) < x0 ∧ ¬ x1 < (0 : Int32) ∧ (-1 : Int32) < x1 ∧ ¬ x1 < (20 : Int32) ∧ ¬ (24 : Int32) < x1 ∧ ¬ x0 = (0 : Int32) ∧ x0 = (1 : Int32) ∧ r = 1) ∨ (¬ x0 < (0 : Int32) ∧ ¬ (5 : Int32) < x0 ∧ ¬ x1 < (0 : Int32) ∧ (-1 : Int32) < x1 ∧ ¬ x1 < (20 : Int32) ∧ ¬ (24 : Int32) < x1 ∧ ¬ x0 = (0 : Int32) ∧ ¬ x0 = (1 : Int32) ∧ x0 = (2 : Int32) ∧ r = 1) ∨ (¬ x0 < (0 : Int32) ∧ ¬ (5 : Int32) < x0 ∧ ¬ x1 < (0 : Int32) ∧ (-1 : Int32) < x1 ∧ ¬ x1 < (20 : Int32) ∧ ¬ (24 : Int32) < x1 ∧ ¬ x0 = (0 : Int32) ∧ ¬ x0 = (1 : Int32) ∧ ¬ x0 = (2 : Int32) ∧ x0 = (3 : Int32) ∧ r = 1) ∨ (¬ x0 < (0 : Int32) ∧ ¬ (5 : Int32) < x0 ∧ ¬ x1 < (0 : Int32) ∧ (-1 : Int32) < x1 ∧ ¬ x1 < (20 : Int32) ∧ ¬ (24 : Int32) < x1 ∧ ¬ x0 = (0 : Int32) ∧ ¬ x0 = (1 : Int32) ∧ ¬ x0 = (2 : Int32) ∧ ¬ x0 = (3 : Int32) ∧ x0 = (4 : Int32) ∧ r = 1) ∨ (¬ x0 < (0 : Int32) ∧ ¬ (5 : Int32) < x0 ∧ ¬ x1 < (0 : Int32) ∧ (-1 : Int32) < x1 ∧ ¬ x1 < (20 : Int32) ∧ ¬ (24 : Int32) < x1 ∧ ¬ x0 = (0 : Int32) ∧ ¬ x0 = (1 : Int32) ∧ ¬ x0 = (2 : Int32) ∧ ¬ x0 = (3 : Int32) ∧ ¬ x0 = (4 : Int32) ∧ x0 = (5 : Int32) ∧ r = 1)) (fun u t => cB D (va_A [(h0, .inr (12, [.ref h1, .ref h2, .ref h3, .ref h4, .int 0, .int 0, .ref h5, .int 0, .int 0, .int 0, .int 0, .int 0, .int 0, .int 0, .int 0, .int 0, .int 0, .int 0, .int 0, .int 0, .int (-1), .int 0, .int 0, .int 0, .ref h6, .ref h7, .ref h8, .ref h9, .ref h10, .ref h11, .int 0, .int 0, .int 0, .int 0, .ref h12, .ref h13, .ref h14, .int 0, .int 0, .int 0, .int 0, .ref h15, .ref h16, .int 0, .ref h17, .ref h18, .int 0, .ref h19, .int 0, .ref h20, .ref h21, .ref h22, .int 0, .ref h23, .ref h24, .ref h25])), (h21, .inl (a20, 6, .inl (fun _ => 0))), (h20, .inl (a19, 48, .inl (fun _ => 0)))] sz) ((fun (_ : Unit) => ([] : List (ClassId × FieldType))) u) ((fun (_ : Unit) => ([] : va_W)) u) t) (va_A [(h0, .inr (12, [.ref h1, .ref h2, .ref h3, .ref h4, .int 0, .int 0, .ref h5, .int 0, .int 0, .int 0, .int 0, .int 0, .int 0, .int 0, .int 0, .int 0, .int 0, .int 0, .int 0, .int 0, .int (-1), .int 0, .int 0, .int 0, .ref h6, .ref h7, .ref h8, .ref h9, .ref h10, .ref h11, .int 0, .int 0, .int 0, .int 0, .ref h12, .ref h13, .ref h14, .int 0, .int 0, .int 0, .int 0, .ref h15, .ref h16, .int 0, .ref h17, .ref h18, .int 0, .ref h19, .int 0, .ref h20, .ref h21, .ref h22, .int 0, .ref h23, .ref h24, .ref h25])), (h21, .inl (a20, 6, .inl (fun _ => 0))), (h20, .inl (a19, 48, .inl (fun _ => 0)))] sz)) 0 0 (va_A [(h0, .inr (12, [.ref h1, .ref h2, .ref h3, .ref h4, .int 0, .int 0, .ref h5, .int 0, .int 0, .int 0, .int 0, .int 0, .int 0, .int 0, .int 0, .int 0, .int 0, .int 0, .int 0, .int 0, .int (-1), .int 0, .int 0, .int 0, .ref h6, .ref h7, .ref h8, .ref h9, .ref h10, .ref h11, .int 0, .int 0, .int 0, .int 0, .ref h12, .ref h13, .ref h14, .int 0, .int 0, .int 0, .int 0, .ref h15, .ref h16, .int 0, .ref h17, .ref h18, .int 0, .ref h19, .int 0, .ref h20, .ref h21, .ref h22, .int 0, .ref h23, .ref h24, .ref h25])), (h21, .inl (a20, 6, .inl (fun _ => 0))), (h20, .inl (a19, 48, .inl (fun _ => 0)))] sz) := by
  refine Met.ofW (cc := cX12_item) (maxL := 3) (ret := (some .int)) (by decide) rfl ?_
  intro p e s m args below meth c s₁ B hml hv
  obtain ⟨rfl, aks, rfl, Wd⟩ := k_enter hv
  have C : CallFix p m c cX12_item 3 s _ gG RX12 := ⟨B.exec, B.bytes, hml, findClass_of_methodNamed B.named, fun w h => atoms_spec (ws := Cond.code yX12_item cX12_item 3 (some .int) :: gG) B.pre w (List.mem_cons_of_mem _ h)⟩
  have hr := B.returns
  have hlk := B.notSynchronized
  generalize va_A [(h0, .inr (12, [.ref h1, .ref h2, .ref h3, .ref h4, .int 0, .int 0, .ref h5, .int 0, .int 0, .int 0, .int 0, .int 0, .int 0, .int 0, .int 0, .int 0, .int 0, .int 0, .int 0, .int 0, .int (-1), .int 0, .int 0, .int 0, .ref h6, .ref h7, .ref h8, .ref h9, .ref h10, .ref h11, .int 0, .int 0, .int 0, .int 0, .ref h12, .ref h13, .ref h14, .int 0, .int 0, .int 0, .int 0, .ref h15, .ref h16, .int 0, .ref h17, .ref h18, .int 0, .ref h19, .int 0, .ref h20, .ref h21, .ref h22, .int 0, .ref h23, .ref h24, .ref h25])), (h21, .inl (a20, 6, .inl (fun _ => 0))), (h20, .inl (a19, 48, .inl (fun _ => 0)))] s.heap.size = A at Wd ⊢
  refine k_locals (Nat.le_of_ble_eq_true rfl) [(0, .ref h0), (1, .int x0), (2, .int x1)] rfl (fun ls hl => ?_)
  refine lv_iload_n C.1 C.2.1 dX12_item_0 rfl (lv_at hl 1 rfl) ?_
  refine k_pi (k_runS (rest := []) C aks Wd cs_X12_423 (kcX12_isPass l D x0 _ ) [] rfl (by decide) [] rfl rfl rfl ⟨(Nat.le_of_ble_eq_true rfl), (Nat.le_of_ble_eq_true rfl)⟩ hl.1 rfl rfl (Nat.le_of_ble_eq_true rfl) ⟨(Nat.le_of_ble_eq_true rfl), (Nat.le_of_ble_eq_true rfl)⟩ dX12_item_1) (fun r w4855 => ?_)
  rcases w4855 with ⟨c4856, rfl⟩ | ⟨c4857, c4858, rfl⟩ | ⟨c4859, c4860, rfl⟩
  · refine lv_if_eq (tgt := 43) C.1 C.2.1 dX12_item_4 (by decide) (fun _ => ?_) (fun c4861 => absurd c4861 (by decide))
    refine lv_iconst (v := (-1)) C.1 C.2.1 dX12_item_43 (by decide) ?_
    exact k_zret C hr hlk rfl Wd () (Or.inl (⟨c4856, rfl⟩)) [] rfl (by decide) [] rfl (by decide) (by decide) dX12_item_44
  · refine lv_if_eq (tgt := 43) C.1 C.2.1 dX12_item_4 (by decide) (fun _ => ?_) (fun c4862 => absurd c4862 (by decide))
    refine lv_iconst (v := (-1)) C.1 C.2.1 dX12_item_43 (by decide) ?_
    exact k_zret C hr hlk rfl Wd () (Or.inr (Or.inl (⟨c4857, c4858, rfl⟩))) [] rfl (by decide) [] rfl (by decide) (by decide) dX12_item_44
  · refine lv_if_eq (tgt := 43) C.1 C.2.1 dX12_item_4 (by decide) (fun c4863 => absurd c4863 (by decide)) (fun _ => ?_)
    refine lv_iload_n C.1 C.2.1 dX12_item_7 rfl (lv_at hl 2 rfl) ?_
    refine lv_iconst (v := 0) C.1 C.2.1 dX12_item_8 (by decide) ?_
    refine lv_aload_n C.1 C.2.1 dX12_item_9 rfl (lv_at hl 0 rfl) ?_
    refine k_get C Wd KX12 0 23 rfl (by decide) fl_X12_268 rfl dX12_item_10 ?_
    refine lv_iconst (v := 1) C.1 C.2.1 dX12_item_13 (by decide) ?_
    refine k_isub (v := (-1)) C (by decide) dX12_item_14 ?_
    refine k_pi (k_runS (rest := []) C aks Wd cs_X12_90 (kcX12_isIn l D x1 0 (-1) _ ) [] rfl (by decide) [] rfl rfl rfl ⟨(Nat.le_of_ble_eq_true rfl), (Nat.le_of_ble_eq_true rfl)⟩ hl.1 rfl rfl (Nat.le_of_ble_eq_true rfl) ⟨(Nat.le_of_ble_eq_true rfl), (Nat.le_of_ble_eq_true rfl)⟩ dX12_item_15) (fun r w4864 => ?_)
    rcases w4864 with ⟨c4865, rfl⟩ | ⟨c4866, c4867, rfl⟩ | ⟨c4868, c4869, rfl⟩
    · refine lv_if_ne (tgt := 32) C.1 C.2.1 dX12_item_18 (by decide) (fun c4870 => absurd c4870 (by decide)) (fun _ => ?_)
      refine lv_iload_n C.1 C.2.1 dX12_item_21 rfl (lv_at hl 2 rfl) ?_
      refine lv_bipush (v := 20) C.1 C.2.1 dX12_item_22 (by decide) ?_
      refine lv_bipush (v := 24) C.1 C.2.1 dX12_item_24 (by decide) ?_
      refine k_pi (k_runS (rest := []) C aks Wd cs_X12_90 (kcX12_isIn l D x1 20 24 _ ) [] rfl (by decide) [] rfl rfl rfl ⟨(Nat.le_of_ble_eq_true rfl), (Nat.le_of_ble_eq_true rfl)⟩ hl.1 rfl rfl (Nat.le_of_ble_eq_true rfl) ⟨(Nat.le_of_ble_eq_true rfl), (Nat.le_of_ble_eq_true rfl)⟩ dX12_item_26) (fun r w4871 => ?_)
      rcases w4871 with ⟨c4872, rfl⟩ | ⟨c4873, c4874, rfl⟩ | ⟨c4875, c4876, rfl⟩
      · refine lv_if_eq (tgt := 43) C.1 C.2.1 dX12_item_29 (by decide) (fun _ => ?_) (fun c4877 => absurd c4877 (by decide))
        refine lv_iconst (v := (-1)) C.1 C.2.1 dX12_item_43 (by decide) ?_
        exact k_zret C hr hlk rfl Wd () (Or.inr (Or.inr (Or.inl (⟨c4859, c4860, c4865, c4872, rfl⟩)))) [] rfl (by decide) [] rfl (by decide) (by decide) dX12_item_44
      · exact False.elim (by have z0 := kz_lt c4865; have z1 := kz_nlt c4873; have t0 : (0 : Int32).toInt = 0 := (by decide); have t20 : (20 : Int32).toInt = 20 := (by decide); omega)
      · exact False.elim (by have z0 := kz_lt c4865; have z1 := kz_nlt c4875; have t0 : (0 : Int32).toInt = 0 := (by decide); have t20 : (20 : Int32).toInt = 20 := (by decide); omega)
    · refine lv_if_ne (tgt := 32) C.1 C.2.1 dX12_item_18 (by decide) (fun c4878 => absurd c4878 (by decide)) (fun _ => ?_)
      refine lv_iload_n C.1 C.2.1 dX12_item_21 rfl (lv_at hl 2 rfl) ?_
      refine lv_bipush (v := 20) C.1 C.2.1 dX12_item_22 (by decide) ?_
      refine lv_bipush (v := 24) C.1 C.2.1 dX12_item_24 (by decide) ?_
      refine k_pi (k_runS (rest := []) C aks Wd cs_X12_90 (kcX12_isIn l D x1 20 24 _ ) [] rfl (by decide) [] rfl rfl rfl ⟨(Nat.le_of_ble_eq_true rfl), (Nat.le_of_ble_eq_true rfl)⟩ hl.1 rfl rfl (Nat.le_of_ble_eq_true rfl) ⟨(Nat.le_of_ble_eq_true rfl), (Nat.le_of_ble_eq_true rfl)⟩ dX12_item_26) (fun r w4879 => ?_)
      rcases w4879 with ⟨c4880, rfl⟩ | ⟨c4881, c4882, rfl⟩ | ⟨c4883, c4884, rfl⟩
      · refine lv_if_eq (tgt := 43) C.1 C.2.1 dX12_item_29 (by decide) (fun _ => ?_) (fun c4885 => absurd c4885 (by decide))
        refine lv_iconst (v := (-1)) C.1 C.2.1 dX12_item_43 (by decide) ?_
        exact k_zret C hr hlk rfl Wd () (Or.inr (Or.inr (Or.inr (Or.inl (⟨c4859, c4860, c4866, c4867, c4880, rfl⟩))))) [] rfl (by decide) [] rfl (by decide) (by decide) dX12_item_44
      · refine lv_if_eq (tgt := 43) C.1 C.2.1 dX12_item_29 (by decide) (fun _ => ?_) (fun c4886 => absurd c4886 (by decide))
        refine lv_iconst (v := (-1)) C.1 C.2.1 dX12_item_43 (by decide) ?_
        exact k_zret C hr hlk rfl Wd () (Or.inr (Or.inr (Or.inr (Or.inr (Or.inl (⟨c4859, c4860, c4866, c4867, c4881, c4882, rfl⟩)))))) [] rfl (by decide) [] rfl (by decide) (by decide) dX12_item_44
      · refine lv_if_eq (tgt := 43) C.1 C.2.1 dX12_item_29 (by decide) (fun c4887 => absurd c4887 (by decide)) (fun _ => ?_)
        refine lv_aload_n C.1 C.2.1 dX12_item_32 rfl (lv_at hl 0 rfl) ?_
        refine k_get C Wd KX12 0 50 rfl (by decide) fl_X12_75 rfl dX12_item_33 ?_
        refine lv_iload_n C.1 C.2.1 dX12_item_36 rfl (lv_at hl 1 rfl) ?_
        refine k_iald (v := 0) C Wd 1 1 rfl rfl (vp_in_iff.mpr ⟨by have z0 := kz_nlt c4859; have z1 := kz_nlt c4860; have t0 : (0 : Int32).toInt = 0 := (by decide); have t5 : (5 : Int32).toInt = 5 := (by decide); omega, by have z0 := kz_nlt c4859; have z1 := kz_nlt c4860; have t0 : (0 : Int32).toInt = 0 := (by decide); have t5 : (5 : Int32).toInt = 5 := (by decide); omega⟩) rfl dX12_item_37 ?_
        refine lv_bipush (v := 8) C.1 C.2.1 dX12_item_38 (by decide) ?_
        refine lv_icmp_ne (tgt := 45) C.1 C.2.1 dX12_item_40 (by decide) (fun _ => ?_) (fun c4888 => absurd c4888 (by decide))
        refine lv_aload_n C.1 C.2.1 dX12_item_45 rfl (lv_at hl 0 rfl) ?_
        refine k_get C Wd KX12 0 49 rfl (by decide) fl_X12_72 rfl dX12_item_46 ?_
        refine lv_bipush (v := 8) C.1 C.2.1 dX12_item_49 (by decide) ?_
        refine lv_iload_n C.1 C.2.1 dX12_item_51 rfl (lv_at hl 1 rfl) ?_
        refine k_imul (v := (8 * x0)) C rfl dX12_item_52 ?_
        refine lv_aload_n C.1 C.2.1 dX12_item_53 rfl (lv_at hl 0 rfl) ?_
        refine k_get C Wd KX12 0 50 rfl (by decide) fl_X12_75 rfl dX12_item_54 ?_
        refine lv_iload_n C.1 C.2.1 dX12_item_57 rfl (lv_at hl 1 rfl) ?_
        refine k_iald (v := 0) C Wd 1 1 rfl rfl (vp_in_iff.mpr ⟨by have z0 := kz_nlt c4859; have z1 := kz_nlt c4860; have t0 : (0 : Int32).toInt = 0 := (by decide); have t5 : (5 : Int32).toInt = 5 := (by decide); omega, by have z0 := kz_nlt c4859; have z1 := kz_nlt c4860; have t0 : (0 : Int32).toInt = 0 := (by decide); have t5 : (5 : Int32).toInt = 5 := (by decide); omega⟩) rfl dX12_item_58 ?_
        refine k_iadd (v := ((8 * x0) + 0)) C rfl dX12_item_59 ?_
        refine lv_iload_n C.1 C.2.1 dX12_item_60 rfl (lv_at hl 2 rfl) ?_
        by_cases c4889 : x0 = (0 : Int32)
        · subst c4889
          refine k_iast C Wd 2 0 [(h0, .inr (12, [.ref h1, .ref h2, .ref h3, .ref h4, .int 0, .int 0, .ref h5, .int 0, .int 0, .int 0, .int 0, .int 0, .int 0, .int 0, .int 0, .int 0, .int 0, .int 0, .int 0, .int 0, .int (-1), .int 0, .int 0, .int 0, .ref h6, .ref h7, .ref h8, .ref h9, .ref h10, .ref h11, .int 0, .int 0, .int 0, .int 0, .ref h12, .ref h13, .ref h14, .int 0, .int 0, .int 0, .int 0, .ref h15, .ref h16, .int 0, .ref h17, .ref h18, .int 0, .ref h19, .int 0, .ref h20, .ref h21, .ref h22, .int 0, .ref h23, .ref h24, .ref h25])), (h21, .inl (a20, 6, .inl (fun _ => 0))), (h20, .inl (a19, 48, .inl (upd (fun _ => 0) 0 x1)))] rfl rfl (vp_in_iff.mpr (by decide)) rfl rfl dX12_item_61 (fun H locs Wd => ?_)
          refine lv_aload_n C.1 C.2.1 dX12_item_62 rfl (lv_at hl 0 rfl) ?_
          refine k_get C Wd KX12 0 50 rfl (by decide) fl_X12_75 rfl dX12_item_63 ?_
          refine lv_iload_n C.1 C.2.1 dX12_item_66 rfl (lv_at hl 1 rfl) ?_
          refine lv_dup2_11 C.1 C.2.1 dX12_item_67 rfl rfl ?_
          refine k_iald (v := 0) C Wd 1 1 rfl rfl (vp_in_iff.mpr (by decide)) rfl dX12_item_68 ?_
          refine lv_iconst (v := 1) C.1 C.2.1 dX12_item_69 (by decide) ?_
          refine k_iadd (v := 1) C (by decide) dX12_item_70 ?_
          refine k_iast C Wd 1 1 [(h0, .inr (12, [.ref h1, .ref h2, .ref h3, .ref h4, .int 0, .int 0, .ref h5, .int 0, .int 0, .int 0, .int 0, .int 0, .int 0, .int 0, .int 0, .int 0, .int 0, .int 0, .int 0, .int 0, .int (-1), .int 0, .int 0, .int 0, .ref h6, .ref h7, .ref h8, .ref h9, .ref h10, .ref h11, .int 0, .int 0, .int 0, .int 0, .ref h12, .ref h13, .ref h14, .int 0, .int 0, .int 0, .int 0, .ref h15, .ref h16, .int 0, .ref h17, .ref h18, .int 0, .ref h19, .int 0, .ref h20, .ref h21, .ref h22, .int 0, .ref h23, .ref h24, .ref h25])), (h21, .inl (a20, 6, .inl (upd (fun _ => 0) 0 1))), (h20, .inl (a19, 48, .inl (upd (fun _ => 0) 0 x1)))] rfl rfl (vp_in_iff.mpr (by decide)) rfl rfl dX12_item_71 (fun H locs Wd => ?_)
          refine lv_aload_n C.1 C.2.1 dX12_item_72 rfl (lv_at hl 0 rfl) ?_
          refine k_get C Wd KX12 0 50 rfl (by decide) fl_X12_75 rfl dX12_item_73 ?_
          refine lv_iload_n C.1 C.2.1 dX12_item_76 rfl (lv_at hl 1 rfl) ?_
          refine k_iald (v := 1) C Wd 1 1 rfl rfl (vp_in_iff.mpr (by decide)) rfl dX12_item_77 ?_
          exact k_zret C hr hlk rfl Wd () (Or.inr (Or.inr (Or.inr (Or.inr (Or.inr (Or.inl (⟨c4859, c4860, c4866, c4867, c4883, c4884, rfl, rfl⟩))))))) [] rfl (by decide) [] rfl (by decide) (by decide) dX12_item_78
        by_cases c4890 : x0 = (1 : Int32)
        · subst c4890
          refine k_iast C Wd 2 0 [(h0, .inr (12, [.ref h1, .ref h2, .ref h3, .ref h4, .int 0, .int 0, .ref h5, .int 0, .int 0, .int 0, .int 0, .int 0, .int 0, .int 0, .int 0, .int 0, .int 0, .int 0, .int 0, .int 0, .int (-1), .int 0, .int 0, .int 0, .ref h6, .ref h7, .ref h8, .ref h9, .ref h10, .ref h11, .int 0, .int 0, .int 0, .int 0, .ref h12, .ref h13, .ref h14, .int 0, .int 0, .int 0, .int 0, .ref h15, .ref h16, .int 0, .ref h17, .ref h18, .int 0, .ref h19, .int 0, .ref h20, .ref h21, .ref h22, .int 0, .ref h23, .ref h24, .ref h25])), (h21, .inl (a20, 6, .inl (fun _ => 0))), (h20, .inl (a19, 48, .inl (upd (fun _ => 0) 8 x1)))] rfl rfl (vp_in_iff.mpr (by decide)) rfl rfl dX12_item_61 (fun H locs Wd => ?_)
          refine lv_aload_n C.1 C.2.1 dX12_item_62 rfl (lv_at hl 0 rfl) ?_
          refine k_get C Wd KX12 0 50 rfl (by decide) fl_X12_75 rfl dX12_item_63 ?_
          refine lv_iload_n C.1 C.2.1 dX12_item_66 rfl (lv_at hl 1 rfl) ?_
          refine lv_dup2_11 C.1 C.2.1 dX12_item_67 rfl rfl ?_
          refine k_iald (v := 0) C Wd 1 1 rfl rfl (vp_in_iff.mpr (by decide)) rfl dX12_item_68 ?_
          refine lv_iconst (v := 1) C.1 C.2.1 dX12_item_69 (by decide) ?_
          refine k_iadd (v := 1) C (by decide) dX12_item_70 ?_
          refine k_iast C Wd 1 1 [(h0, .inr (12, [.ref h1, .ref h2, .ref h3, .ref h4, .int 0, .int 0, .ref h5, .int 0, .int 0, .int 0, .int 0, .int 0, .int 0, .int 0, .int 0, .int 0, .int 0, .int 0, .int 0, .int 0, .int (-1), .int 0, .int 0, .int 0, .ref h6, .ref h7, .ref h8, .ref h9, .ref h10, .ref h11, .int 0, .int 0, .int 0, .int 0, .ref h12, .ref h13, .ref h14, .int 0, .int 0, .int 0, .int 0, .ref h15, .ref h16, .int 0, .ref h17, .ref h18, .int 0, .ref h19, .int 0, .ref h20, .ref h21, .ref h22, .int 0, .ref h23, .ref h24, .ref h25])), (h21, .inl (a20, 6, .inl (upd (fun _ => 0) 1 1))), (h20, .inl (a19, 48, .inl (upd (fun _ => 0) 8 x1)))] rfl rfl (vp_in_iff.mpr (by decide)) rfl rfl dX12_item_71 (fun H locs Wd => ?_)
          refine lv_aload_n C.1 C.2.1 dX12_item_72 rfl (lv_at hl 0 rfl) ?_
          refine k_get C Wd KX12 0 50 rfl (by decide) fl_X12_75 rfl dX12_item_73 ?_
          refine lv_iload_n C.1 C.2.1 dX12_item_76 rfl (lv_at hl 1 rfl) ?_
          refine k_iald (v := 1) C Wd 1 1 rfl rfl (vp_in_iff.mpr (by decide)) rfl dX12_item_77 ?_
          exact k_zret C hr hlk rfl Wd () (Or.inr (Or.inr (Or.inr (Or.inr (Or.inr (Or.inr (Or.inl (⟨c4859, c4860, c4866, c4867, c4883, c4884, c4889, rfl, rfl⟩)))))))) [] rfl (by decide) [] rfl (by decide) (by decide) dX12_item_78
        by_cases c4891 : x0 = (2 : Int32)
        · subst c4891
          refine k_iast C Wd 2 0 [(h0, .inr (12, [.ref h1, .ref h2, .ref h3, .ref h4, .int 0, .int 0, .ref h5, .int 0, .int 0, .int 0, .int 0, .int 0, .int 0, .int 0, .int 0, .int 0, .int 0, .int 0, .int 0, .int 0, .int (-1), .int 0, .int 0, .int 0, .ref h6, .ref h7, .ref h8, .ref h9, .ref h10, .ref h11, .int 0, .int 0, .int 0, .int 0, .ref h12, .ref h13, .ref h14, .int 0, .int 0, .int 0, .int 0, .ref h15, .ref h16, .int 0, .ref h17, .ref h18, .int 0, .ref h19, .int 0, .ref h20, .ref h21, .ref h22, .int 0, .ref h23, .ref h24, .ref h25])), (h21, .inl (a20, 6, .inl (fun _ => 0))), (h20, .inl (a19, 48, .inl (upd (fun _ => 0) 16 x1)))] rfl rfl (vp_in_iff.mpr (by decide)) rfl rfl dX12_item_61 (fun H locs Wd => ?_)
          refine lv_aload_n C.1 C.2.1 dX12_item_62 rfl (lv_at hl 0 rfl) ?_
          refine k_get C Wd KX12 0 50 rfl (by decide) fl_X12_75 rfl dX12_item_63 ?_
          refine lv_iload_n C.1 C.2.1 dX12_item_66 rfl (lv_at hl 1 rfl) ?_
          refine lv_dup2_11 C.1 C.2.1 dX12_item_67 rfl rfl ?_
          refine k_iald (v := 0) C Wd 1 1 rfl rfl (vp_in_iff.mpr (by decide)) rfl dX12_item_68 ?_
          refine lv_iconst (v := 1) C.1 C.2.1 dX12_item_69 (by decide) ?_
          refine k_iadd (v := 1) C (by decide) dX12_item_70 ?_
          refine k_iast C Wd 1 1 [(h0, .inr (12, [.ref h1, .ref h2, .ref h3, .ref h4, .int 0, .int 0, .ref h5, .int 0, .int 0, .int 0, .int 0, .int 0, .int 0, .int 0, .int 0, .int 0, .int 0, .int 0, .int 0, .int 0, .int (-1), .int 0, .int 0, .int 0, .ref h6, .ref h7, .ref h8, .ref h9, .ref h10, .ref h11, .int 0, .int 0, .int 0, .int 0, .ref h12, .ref h13, .ref h14, .int 0, .int 0, .int 0, .int 0, .ref h15, .ref h16, .int 0, .ref h17, .ref h18, .int 0, .ref h19, .int 0, .ref h20, .ref h21, .ref h22, .int 0, .ref h23, .ref h24, .ref h25])), (h21, .inl (a20, 6, .inl (upd (fun _ => 0) 2 1))), (h20, .inl (a19, 48, .inl (upd (fun _ => 0) 16 x1)))] rfl rfl (vp_in_iff.mpr (by decide)) rfl rfl dX12_item_71 (fun H locs Wd => ?_)
          refine lv_aload_n C.1 C.2.1 dX12_item_72 rfl (lv_at hl 0 rfl) ?_
          refine k_get C Wd KX12 0 50 rfl (by decide) fl_X12_75 rfl dX12_item_73 ?_
          refine lv_iload_n C.1 C.2.1 dX12_item_76 rfl (lv_at hl 1 rfl) ?_
          refine k_iald (v := 1) C Wd 1 1 rfl rfl (vp_in_iff.mpr (by decide)) rfl dX12_item_77 ?_
          exact k_zret C hr hlk rfl Wd () (Or.inr (Or.inr (Or.inr (Or.inr (Or.inr (Or.inr (Or.inr (Or.inl (⟨c4859, c4860, c4866, c4867, c4883, c4884, c4889, c4890, rfl, rfl⟩))))))))) [] rfl (by decide) [] rfl (by decide) (by decide) dX12_item_78
        by_cases c4892 : x0 = (3 : Int32)
        · subst c4892
          refine k_iast C Wd 2 0 [(h0, .inr (12, [.ref h1, .ref h2, .ref h3, .ref h4, .int 0, .int 0, .ref h5, .int 0, .int 0, .int 0, .int 0, .int 0, .int 0, .int 0, .int 0, .int 0, .int 0, .int 0, .int 0, .int 0, .int (-1), .int 0, .int 0, .int 0, .ref h6, .ref h7, .ref h8, .ref h9, .ref h10, .ref h11, .int 0, .int 0, .int 0, .int 0, .ref h12, .ref h13, .ref h14, .int 0, .int 0, .int 0, .int 0, .ref h15, .ref h16, .int 0, .ref h17, .ref h18, .int 0, .ref h19, .int 0, .ref h20, .ref h21, .ref h22, .int 0, .ref h23, .ref h24, .ref h25])), (h21, .inl (a20, 6, .inl (fun _ => 0))), (h20, .inl (a19, 48, .inl (upd (fun _ => 0) 24 x1)))] rfl rfl (vp_in_iff.mpr (by decide)) rfl rfl dX12_item_61 (fun H locs Wd => ?_)
          refine lv_aload_n C.1 C.2.1 dX12_item_62 rfl (lv_at hl 0 rfl) ?_
          refine k_get C Wd KX12 0 50 rfl (by decide) fl_X12_75 rfl dX12_item_63 ?_
          refine lv_iload_n C.1 C.2.1 dX12_item_66 rfl (lv_at hl 1 rfl) ?_
          refine lv_dup2_11 C.1 C.2.1 dX12_item_67 rfl rfl ?_
          refine k_iald (v := 0) C Wd 1 1 rfl rfl (vp_in_iff.mpr (by decide)) rfl dX12_item_68 ?_
          refine lv_iconst (v := 1) C.1 C.2.1 dX12_item_69 (by decide) ?_
          refine k_iadd (v := 1) C (by decide) dX12_item_70 ?_
          refine k_iast C Wd 1 1 [(h0, .inr (12, [.ref h1, .ref h2, .ref h3, .ref h4, .int 0, .int 0, .ref h5, .int 0, .int 0, .int 0, .int 0, .int 0, .int 0, .int 0, .int 0, .int 0, .int 0, .int 0, .int 0, .int 0, .int (-1), .int 0, .int 0, .int 0, .ref h6, .ref h7, .ref h8, .ref h9, .ref h10, .ref h11, .int 0, .int 0, .int 0, .int 0, .ref h12, .ref h13, .ref h14, .int 0, .int 0, .int 0, .int 0, .ref h15, .ref h16, .int 0, .ref h17, .ref h18, .int 0, .ref h19, .int 0, .ref h20, .ref h21, .ref h22, .int 0, .ref h23, .ref h24, .ref h25])), (h21, .inl (a20, 6, .inl (upd (fun _ => 0) 3 1))), (h20, .inl (a19, 48, .inl (upd (fun _ => 0) 24 x1)))] rfl rfl (vp_in_iff.mpr (by decide)) rfl rfl dX12_item_71 (fun H locs Wd => ?_)
          refine lv_aload_n C.1 C.2.1 dX12_item_72 rfl (lv_at hl 0 rfl) ?_
          refine k_get C Wd KX12 0 50 rfl (by decide) fl_X12_75 rfl dX12_item_73 ?_
          refine lv_iload_n C.1 C.2.1 dX12_item_76 rfl (lv_at hl 1 rfl) ?_
          refine k_iald (v := 1) C Wd 1 1 rfl rfl (vp_in_iff.mpr (by decide)) rfl dX12_item_77 ?_
          exact k_zret C hr hlk rfl Wd () (Or.inr (Or.inr (Or.inr (Or.inr (Or.inr (Or.inr (Or.inr (Or.inr (Or.inl (⟨c4859, c4860, c4866, c4867, c4883, c4884, c4889, c4890, c4891, rfl, rfl⟩)))))))))) [] rfl (by decide) [] rfl (by decide) (by decide) dX12_item_78
        by_cases c4893 : x0 = (4 : Int32)
        · subst c4893
          refine k_iast C Wd 2 0 [(h0, .inr (12, [.ref h1, .ref h2, .ref h3, .ref h4, .int 0, .int 0, .ref h5, .int 0, .int 0, .int 0, .int 0, .int 0, .int 0, .int 0, .int 0, .int 0, .int 0, .int 0, .int 0, .int 0, .int (-1), .int 0, .int 0, .int 0, .ref h6, .ref h7, .ref h8, .ref h9, .ref h10, .ref h11, .int 0, .int 0, .int 0, .int 0, .ref h12, .ref h13, .ref h14, .int 0, .int 0, .int 0, .int 0, .ref h15, .ref h16, .int 0, .ref h17, .ref h18, .int 0, .ref h19, .int 0, .ref h20, .ref h21, .ref h22, .int 0, .ref h23, .ref h24, .ref h25])), (h21, .inl (a20, 6, .inl (fun _ => 0))), (h20, .inl (a19, 48, .inl (upd (fun _ => 0) 32 x1)))] rfl rfl (vp_in_iff.mpr (by decide)) rfl rfl dX12_item_61 (fun H locs Wd => ?_)
          refine lv_aload_n C.1 C.2.1 dX12_item_62 rfl (lv_at hl 0 rfl) ?_
          refine k_get C Wd KX12 0 50 rfl (by decide) fl_X12_75 rfl dX12_item_63 ?_
          refine lv_iload_n C.1 C.2.1 dX12_item_66 rfl (lv_at hl 1 rfl) ?_
          refine lv_dup2_11 C.1 C.2.1 dX12_item_67 rfl rfl ?_
          refine k_iald (v := 0) C Wd 1 1 rfl rfl (vp_in_iff.mpr (by decide)) rfl dX12_item_68 ?_
          refine lv_iconst (v := 1) C.1 C.2.1 dX12_item_69 (by decide) ?_
          refine k_iadd (v := 1) C (by decide) dX12_item_70 ?_
          refine k_iast C Wd 1 1 [(h0, .inr (12, [.ref h1, .ref h2, .ref h3, .ref h4, .int 0, .int 0, .ref h5, .int 0, .int 0, .int 0, .int 0, .int 0, .int 0, .int 0, .int 0, .int 0, .int 0, .int 0, .int 0, .int 0, .int (-1), .int 0, .int 0, .int 0, .ref h6, .ref h7, .ref h8, .ref h9, .ref h10, .ref h11, .int 0, .int 0, .int 0, .int 0, .ref h12, .ref h13, .ref h14, .int 0, .int 0, .int 0, .int 0, .ref h15, .ref h16, .int 0, .ref h17, .ref h18, .int 0, .ref h19, .int 0, .ref h20, .ref h21, .ref h22, .int 0, .ref h23, .ref h24, .ref h25])), (h21, .inl (a20, 6, .inl (upd (fun _ => 0) 4 1))), (h20, .inl (a19, 48, .inl (upd (fun _ => 0) 32 x1)))] rfl rfl (vp_in_iff.mpr (by decide)) rfl rfl dX12_item_71 (fun H locs Wd => ?_)
          refine lv_aload_n C.1 C.2.1 dX12_item_72 rfl (lv_at hl 0 rfl) ?_
          refine k_get C Wd KX12 0 50 rfl (by decide) fl_X12_75 rfl dX12_item_73 ?_
          refine lv_iload_n C.1 C.2.1 dX12_item_76 rfl (lv_at hl 1 rfl) ?_
          refine k_iald (v := 1) C Wd 1 1 rfl rfl (vp_in_iff.mpr (by decide)) rfl dX12_item_77 ?_
          exact k_zret C hr hlk rfl Wd () (Or.inr (Or.inr (Or.inr (Or.inr (Or.inr (Or.inr (Or.inr (Or.inr (Or.inr (Or.inl (⟨c4859, c4860, c4866, c4867, c4883, c4884, c4889, c4890, c4891, c4892, rfl, rfl⟩))))))))))) [] rfl (by decide) [] rfl (by decide) (by decide) dX12_item_78
        have c4894 : x0 = (5 : Int32) := kz_inj (by have z0 := kz_nlt c4859; have z1 := kz_nlt c4860; have z2 := kz_ne c4889; have z3 := kz_ne c4890; have z4 := kz_ne c4891; have z5 := kz_ne c4892; have z6 := kz_ne c4893; have t0 : (0 : Int32).toInt = 0 := (by decide); have t5 : (5 : Int32).toInt = 5 := (by decide); have t1 : (1 : Int32).toInt = 1 := (by decide); have t2 : (2 : Int32).toInt = 2 := (by decide); have t3 : (3 : Int32).toInt = 3 := (by decide); have t4 : (4 : Int32).toInt = 4 := (by decide); omega)
        subst c4894
        refine k_iast C Wd 2 0 [(h0, .inr (12, [.ref h1, .ref h2, .ref h3, .ref h4, .int 0, .int 0, .ref h5, .int 0, .int 0, .int 0, .int 0, .int 0, .int 0, .int 0, .int 0, .int 0, .int 0, .int 0, .int 0, .int 0, .int (-1), .int 0, .int 0, .int 0, .ref h6, .ref h7, .ref h8, .ref h9, .ref h10, .ref h11, .int 0, .int 0, .int 0, .int 0, .ref h12, .ref h13, .ref h14, .int 0, .int 0, .int 0, .int 0, .ref h15, .ref h16, .int 0, .ref h17, .ref h18, .int 0, .ref h19, .int 0, .ref h20, .ref h21, .ref h22, .int 0, .ref h23, .ref h24, .ref h25])), (h21, .inl (a20, 6, .inl (fun _ => 0))), (h20, .inl (a19, 48, .inl (upd (fun _ => 0) 40 x1)))] rfl rfl (vp_in_iff.mpr (by decide)) rfl rfl dX12_item_61 (fun H locs Wd => ?_)
        refine lv_aload_n C.1 C.2.1 dX12_item_62 rfl (lv_at hl 0 rfl) ?_
        refine k_get C Wd KX12 0 50 rfl (by decide) fl_X12_75 rfl dX12_item_63 ?_
        refine lv_iload_n C.1 C.2.1 dX12_item_66 rfl (lv_at hl 1 rfl) ?_
        refine lv_dup2_11 C.1 C.2.1 dX12_item_67 rfl rfl ?_
        refine k_iald (v := 0) C Wd 1 1 rfl rfl (vp_in_iff.mpr (by decide)) rfl dX12_item_68 ?_
        refine lv_iconst (v := 1) C.1 C.2.1 dX12_item_69 (by decide) ?_
        refine k_iadd (v := 1) C (by decide) dX12_item_70 ?_
        refine k_iast C Wd 1 1 [(h0, .inr (12, [.ref h1, .ref h2, .ref h3, .ref h4, .int 0, .int 0, .ref h5, .int 0, .int 0, .int 0, .int 0, .int 0, .int 0, .int 0, .int 0, .int 0, .int 0, .int 0, .int 0, .int 0, .int (-1), .int 0, .int 0, .int 0, .ref h6, .ref h7, .ref h8, .ref h9, .ref h10, .ref h11, .int 0, .int 0, .int 0, .int 0, .ref h12, .ref h13, .ref h14, .int 0, .int 0, .int 0, .int 0, .ref h15, .ref h16, .int 0, .ref h17, .ref h18, .int 0, .ref h19, .int 0, .ref h20, .ref h21, .ref h22, .int 0, .ref h23, .ref h24, .ref h25])), (h21, .inl (a20, 6, .inl (upd (fun _ => 0) 5 1))), (h20, .inl (a19, 48, .inl (upd (fun _ => 0) 40 x1)))] rfl rfl (vp_in_iff.mpr (by decide)) rfl rfl dX12_item_71 (fun H locs Wd => ?_)
        refine lv_aload_n C.1 C.2.1 dX12_item_72 rfl (lv_at hl 0 rfl) ?_
        refine k_get C Wd KX12 0 50 rfl (by decide) fl_X12_75 rfl dX12_item_73 ?_
        refine lv_iload_n C.1 C.2.1 dX12_item_76 rfl (lv_at hl 1 rfl) ?_
        refine k_iald (v := 1) C Wd 1 1 rfl rfl (vp_in_iff.mpr (by decide)) rfl dX12_item_77 ?_
        exact k_zret C hr hlk rfl Wd () (Or.inr (Or.inr (Or.inr (Or.inr (Or.inr (Or.inr (Or.inr (Or.inr (Or.inr (Or.inr (⟨c4859, c4860, c4866, c4867, c4883, c4884, c4889, c4890, c4891, c4892, c4893, rfl, rfl⟩))))))))))) [] rfl (by decide) [] rfl (by decide) (by decide) dX12_item_78
    · exact False.elim (by have z0 := kz_nlt c4868; have z1 := kz_nlt c4869; have t0 : (0 : Int32).toInt = 0 := (by decide); have tm1 : (-1 : Int32).toInt = -1 := (by decide); omega)
set_option maxHeartbeats 4000000 in
set_option maxRecDepth 100000 in
theorem kcX12_clear (l : Launch) (D : va_G) (h0 h1 h2 h3 h4 h5 h6 h7 h8 h9 h10 h11 h12 h13 h14 h15 h16 h17 h18 h19 h20 h21 h22 h23 h24 h25 : Nat) (x0 : Int32) (a20 : ClassId) (sz : Nat)  : Met l yX12_clear (Cond.code yX12_clear cX12_clear 2 (some .boolean) :: gG) { frames := 3, cells := 0, slots := 0, locals := 106 } (cPre D [(a20, .int)] [(h0, .inr (12, [.ref h1, .ref h2, .ref h3, .ref h4, .int 0, .int 0, .ref h5, .int 0, .int 0, .int 0, .int 0, .int 0, .int 0, .int 0, .int 0, .int 0, .int 0, .int 0, .int 0, .int 0, .int (-1), .int 0, .int 0, .int 0, .ref h6, .ref h7, .ref h8, .ref h9, .ref h10, .ref h11, .int 0, .int 0, .int 0, .int 0, .ref h12, .ref h13, .ref h14, .int 0, .int 0, .int 0, .int 0, .ref h15, .ref h16, .int 0, .ref h17, .ref h18, .int 0, .ref h19, .int 0, .ref h20, .ref h21, .ref h22, .int 0, .ref h23, .ref h24, .ref h25])), (h21, .inl (a20, 6, .inl (fun _ => 0)))] sz [.ref h0, .int x0]) (va_Qi (fun (r : Int32) (_ : Unit) => (x0 < (0 : Int32) ∧ r = 0) ∨ (¬ x0 < (0 : Int32) ∧ (5 : Int32) < x0 ∧ r = 0) ∨ (¬ x0 < (0 : Int32) ∧ ¬ (5 : Int32) < x0 ∧ r = 1)) (fun u t => cB D (va_A [(h0, .inr (12, [.ref h1, .ref h2, .ref h3, .ref h4, .int 0, .int 0, .ref h5, .int 0, .int 0, .int 0, .int 0, .int 0, .int 0, .int 0, .int 0, .int 0, .int 0, .int 0, .int 0, .int 0, .int (-1), .int 0, .int 0, .int 0, .ref h6, .ref h7, .ref h8, .ref h9, .ref h10, .ref h11, .int 0, .int 0, .int 0, .int 0, .ref h12, .ref h13, .ref h14, .int 0, .int 0, .int 0, .int 0, .ref h15, .ref h16, .int 0, .ref h17, .ref h18, .int 0, .ref h19, .int 0, .ref h20, .ref h21, .ref h22, .int 0, .ref h23, .ref h24, .ref h25])), (h21, .inl (a20, 6, .inl (fun _ => 0)))] sz) ((fun (_ : Unit) => ([] : List (ClassId × FieldType))) u) ((fun (_ : Unit) => ([] : va_W)) u) t) (va_A [(h0, .inr (12, [.ref h1, .ref h2, .ref h3, .ref h4, .int 0, .int 0, .ref h5, .int 0, .int 0, .int 0, .int 0, .int 0, .int 0, .int 0, .int 0, .int 0, .int 0, .int 0, .int 0, .int 0, .int (-1), .int 0, .int 0, .int 0, .ref h6, .ref h7, .ref h8, .ref h9, .ref h10, .ref h11, .int 0, .int 0, .int 0, .int 0, .ref h12, .ref h13, .ref h14, .int 0, .int 0, .int 0, .int 0, .ref h15, .ref h16, .int 0, .ref h17, .ref h18, .int 0, .ref h19, .int 0, .ref h20, .ref h21, .ref h22, .int 0, .ref h23, .ref h24, .ref h25])), (h21, .inl (a20, 6, .inl (fun _ => 0)))] sz)) 0 0 (va_A [(h0, .inr (12, [.ref h1, .ref h2, .ref h3, .ref h4, .int 0, .int 0, .ref h5, .int 0, .int 0, .int 0, .int 0, .int 0, .int 0, .int 0, .int 0, .int 0, .int 0, .int 0, .int 0, .int 0, .int (-1), .int 0, .int 0, .int 0, .ref h6, .ref h7, .ref h8, .ref h9, .ref h10, .ref h11, .int 0, .int 0, .int 0, .int 0, .ref h12, .ref h13, .ref h14, .int 0, .int 0, .int 0, .int 0, .ref h15, .ref h16, .int 0, .ref h17, .ref h18, .int 0, .ref h19, .int 0, .ref h20, .ref h21, .ref h22, .int 0, .ref h23, .ref h24, .ref h25])), (h21, .inl (a20, 6, .inl (fun _ => 0)))] sz) := by
  refine Met.ofW (cc := cX12_clear) (maxL := 2) (ret := (some .boolean)) (by decide) rfl ?_
  intro p e s m args below meth c s₁ B hml hv
  obtain ⟨rfl, aks, rfl, Wd⟩ := k_enter hv
  have C : CallFix p m c cX12_clear 2 s _ gG RX12 := ⟨B.exec, B.bytes, hml, findClass_of_methodNamed B.named, fun w h => atoms_spec (ws := Cond.code yX12_clear cX12_clear 2 (some .boolean) :: gG) B.pre w (List.mem_cons_of_mem _ h)⟩
  have hr := B.returns
  have hlk := B.notSynchronized
  generalize va_A [(h0, .inr (12, [.ref h1, .ref h2, .ref h3, .ref h4, .int 0, .int 0, .ref h5, .int 0, .int 0, .int 0, .int 0, .int 0, .int 0, .int 0, .int 0, .int 0, .int 0, .int 0, .int 0, .int 0, .int (-1), .int 0, .int 0, .int 0, .ref h6, .ref h7, .ref h8, .ref h9, .ref h10, .ref h11, .int 0, .int 0, .int 0, .int 0, .ref h12, .ref h13, .ref h14, .int 0, .int 0, .int 0, .int 0, .ref h15, .ref h16, .int 0, .ref h17, .ref h18, .int 0, .ref h19, .int 0, .ref h20, .ref h21, .ref h22, .int 0, .ref h23, .ref h24, .ref h25])), (h21, .inl (a20, 6, .inl (fun _ => 0)))] s.heap.size = A at Wd ⊢
  refine k_locals (Nat.le_of_ble_eq_true rfl) [(0, .ref h0), (1, .int x0)] rfl (fun ls hl => ?_)
  refine lv_iload_n C.1 C.2.1 dX12_clear_0 rfl (lv_at hl 1 rfl) ?_
  refine k_pi (k_runS (rest := []) C aks Wd cs_X12_423 (kcX12_isPass l D x0 _ ) [] rfl (by decide) [] rfl rfl rfl ⟨(Nat.le_of_ble_eq_true rfl), (Nat.le_of_ble_eq_true rfl)⟩ hl.1 rfl rfl (Nat.le_of_ble_eq_true rfl) ⟨(Nat.le_of_ble_eq_true rfl), (Nat.le_of_ble_eq_true rfl)⟩ dX12_clear_1) (fun r w4904 => ?_)
  rcases w4904 with ⟨c4905, rfl⟩ | ⟨c4906, c4907, rfl⟩ | ⟨c4908, c4909, rfl⟩
  · refine lv_if_ne (tgt := 9) C.1 C.2.1 dX12_clear_4 (by decide) (fun c4910 => absurd c4910 (by decide)) (fun _ => ?_)
    refine lv_iconst (v := 0) C.1 C.2.1 dX12_clear_7 (by decide) ?_
    exact k_zret C hr hlk rfl Wd () (Or.inl (⟨c4905, rfl⟩)) [] rfl (by decide) [] rfl (by decide) (by decide) dX12_clear_8
  · refine lv_if_ne (tgt := 9) C.1 C.2.1 dX12_clear_4 (by decide) (fun c4911 => absurd c4911 (by decide)) (fun _ => ?_)
    refine lv_iconst (v := 0) C.1 C.2.1 dX12_clear_7 (by decide) ?_
    exact k_zret C hr hlk rfl Wd () (Or.inr (Or.inl (⟨c4906, c4907, rfl⟩))) [] rfl (by decide) [] rfl (by decide) (by decide) dX12_clear_8
  · refine lv_if_ne (tgt := 9) C.1 C.2.1 dX12_clear_4 (by decide) (fun _ => ?_) (fun c4912 => absurd c4912 (by decide))
    refine lv_aload_n C.1 C.2.1 dX12_clear_9 rfl (lv_at hl 0 rfl) ?_
    refine k_get C Wd KX12 0 50 rfl (by decide) fl_X12_75 rfl dX12_clear_10 ?_
    refine lv_iload_n C.1 C.2.1 dX12_clear_13 rfl (lv_at hl 1 rfl) ?_
    refine lv_iconst (v := 0) C.1 C.2.1 dX12_clear_14 (by decide) ?_
    refine k_iast C Wd 1 0 [(h0, .inr (12, [.ref h1, .ref h2, .ref h3, .ref h4, .int 0, .int 0, .ref h5, .int 0, .int 0, .int 0, .int 0, .int 0, .int 0, .int 0, .int 0, .int 0, .int 0, .int 0, .int 0, .int 0, .int (-1), .int 0, .int 0, .int 0, .ref h6, .ref h7, .ref h8, .ref h9, .ref h10, .ref h11, .int 0, .int 0, .int 0, .int 0, .ref h12, .ref h13, .ref h14, .int 0, .int 0, .int 0, .int 0, .ref h15, .ref h16, .int 0, .ref h17, .ref h18, .int 0, .ref h19, .int 0, .ref h20, .ref h21, .ref h22, .int 0, .ref h23, .ref h24, .ref h25])), (h21, .inl (a20, 6, .inl (fun _ => 0)))] rfl rfl (vp_in_iff.mpr ⟨by have z0 := kz_nlt c4908; have z1 := kz_nlt c4909; have t0 : (0 : Int32).toInt = 0 := (by decide); have t5 : (5 : Int32).toInt = 5 := (by decide); omega, by have z0 := kz_nlt c4908; have z1 := kz_nlt c4909; have t0 : (0 : Int32).toInt = 0 := (by decide); have t5 : (5 : Int32).toInt = 5 := (by decide); omega⟩) (upd0 _) rfl dX12_clear_15 (fun H locs Wd => ?_)
    refine lv_iconst (v := 1) C.1 C.2.1 dX12_clear_16 (by decide) ?_
    exact k_zret C hr hlk rfl Wd () (Or.inr (Or.inr (⟨c4908, c4909, rfl⟩))) [] rfl (by decide) [] rfl (by decide) (by decide) dX12_clear_17
set_option maxHeartbeats 4000000 in
set_option maxRecDepth 100000 in
theorem kcX12_makes (l : Launch) (D : va_G) (h0 h1 h2 h3 h4 h5 h6 h7 h8 h9 h10 h11 h12 h13 h14 h15 h16 h17 h18 h19 h20 h21 h22 h23 h24 h25 : Nat) (x0 : Int32) (a20 : ClassId) (sz : Nat)  (as0 : ¬ x0 < (0 : Int32)) (as1 : ¬ (5 : Int32) < x0): Met l yX12_makes (Cond.code yX12_makes cX12_makes 4 (some .boolean) :: gG) { frames := 1, cells := 0, slots := 0, locals := 64 } (cPre D [(a20, .int)] [(h0, .inr (12, [.ref h1, .ref h2, .ref h3, .ref h4, .int 0, .int 0, .ref h5, .int 0, .int 0, .int 0, .int 0, .int 0, .int 0, .int 0, .int 0, .int 0, .int 0, .int 0, .int 0, .int 0, .int (-1), .int 0, .int 0, .int 0, .ref h6, .ref h7, .ref h8, .ref h9, .ref h10, .ref h11, .int 0, .int 0, .int 0, .int 0, .ref h12, .ref h13, .ref h14, .int 0, .int 0, .int 0, .int 0, .ref h15, .ref h16, .int 0, .ref h17, .ref h18, .int 0, .ref h19, .int 0, .ref h20, .ref h21, .ref h22, .int 0, .ref h23, .ref h24, .ref h25])), (h21, .inl (a20, 6, .inl (fun _ => 0)))] sz [.ref h0, .int x0]) (vp_Si (fun r => r = 1)) 0 0 (fun _ => False) := by
  refine Met.ofW (cc := cX12_makes) (maxL := 4) (ret := (some .boolean)) (by decide) rfl ?_
  intro p e s m args below meth c s₁ B hml hv
  obtain ⟨rfl, aks, rfl, Wd⟩ := k_enter hv
  have C : CallFix p m c cX12_makes 4 s _ gG RX12 := ⟨B.exec, B.bytes, hml, findClass_of_methodNamed B.named, fun w h => atoms_spec (ws := Cond.code yX12_makes cX12_makes 4 (some .boolean) :: gG) B.pre w (List.mem_cons_of_mem _ h)⟩
  have hr := B.returns
  have hlk := B.notSynchronized
  obtain ⟨A, Wd⟩ : ∃ A, wX D [(a20, .int)] s [(h0, .inr (12, [.ref h1, .ref h2, .ref h3, .ref h4, .int 0, .int 0, .ref h5, .int 0, .int 0, .int 0, .int 0, .int 0, .int 0, .int 0, .int 0, .int 0, .int 0, .int 0, .int 0, .int 0, .int (-1), .int 0, .int 0, .int 0, .ref h6, .ref h7, .ref h8, .ref h9, .ref h10, .ref h11, .int 0, .int 0, .int 0, .int 0, .ref h12, .ref h13, .ref h14, .int 0, .int 0, .int 0, .int 0, .ref h15, .ref h16, .int 0, .ref h17, .ref h18, .int 0, .ref h19, .int 0, .ref h20, .ref h21, .ref h22, .int 0, .ref h23, .ref h24, .ref h25])), (h21, .inl (a20, 6, .inl (fun _ => 0)))] s.heap A s.heap [] := ⟨_, Wd⟩
  refine k_locals (Nat.le_of_ble_eq_true rfl) [(0, .ref h0), (1, .int x0)] rfl (fun ls hl => ?_)
  refine lv_iconst (v := 0) C.1 C.2.1 dX12_makes_0 (by decide) ?_
  refine lv_istore_n (lv' := [(2, .int 0), (0, .ref h0), (1, .int x0)]) C.1 C.2.1 dX12_makes_1 rfl hl (by decide) rfl (fun ls hl => ?_)
  refine lv_iload_n C.1 C.2.1 dX12_makes_2 rfl (lv_at hl 0 rfl) ?_
  refine lv_aload_n C.1 C.2.1 dX12_makes_3 rfl (lv_at hl 1 rfl) ?_
  refine k_get C Wd KX12 0 50 rfl (by decide) fl_X12_75 rfl dX12_makes_4 ?_
  refine lv_iload_n C.1 C.2.1 dX12_makes_7 rfl (lv_at hl 2 rfl) ?_
  refine k_iald (v := 0) C Wd 1 0 rfl rfl (vp_in_iff.mpr ⟨by have z0 := kz_nlt as0; have z1 := kz_nlt as1; have t0 : (0 : Int32).toInt = 0 := (by decide); have t5 : (5 : Int32).toInt = 5 := (by decide); omega, by have z0 := kz_nlt as0; have z1 := kz_nlt as1; have t0 : (0 : Int32).toInt = 0 := (by decide); have t5 : (5 : Int32).toInt = 5 := (by decide); omega⟩) rfl dX12_makes_8 ?_
  refine lv_icmp_ge (tgt := 127) C.1 C.2.1 dX12_makes_9 (by decide) (fun _ => ?_) (fun c4942 => absurd c4942 (by decide))
  refine lv_iconst (v := 1) C.1 C.2.1 dX12_makes_127 (by decide) ?_
  exact k_zretP C hr hlk rfl rfl dX12_makes_128
set_option maxHeartbeats 4000000 in
set_option maxRecDepth 100000 in
theorem kcX12_puts_v1 (l : Launch) (D : va_G) (h0 h1 h2 h3 h4 h5 h6 h7 h8 h9 h10 h11 h12 h13 h14 h15 h16 h17 h18 h19 h20 h21 h22 h23 h24 h25 : Nat) (x0 : Int32) (a1 : ClassId) (sz : Nat)  (as0 : ¬ x0 < (0 : Int32)) (as1 : ¬ (5 : Int32) < x0): Met l yX12_puts (Cond.code yX12_puts cX12_puts 3 none :: gG) { frames := 1, cells := 0, slots := 0, locals := 64 } (cPre D [(a1, .int)] [(h0, .inr (12, [.ref h1, .ref h2, .ref h3, .ref h4, .int 0, .int 0, .ref h5, .int 0, .int 0, .int 0, .int 0, .int 0, .int 0, .int 0, .int 0, .int 0, .int 0, .int 0, .int 0, .int 0, .int (-1), .int 0, .int 0, .int 0, .ref h6, .ref h7, .ref h8, .ref h9, .ref h10, .ref h11, .int 0, .int 0, .int 0, .int 0, .ref h12, .ref h13, .ref h14, .int 0, .int 0, .int 0, .int 0, .ref h15, .ref h16, .int 0, .ref h17, .ref h18, .int 0, .ref h19, .int 0, .ref h20, .ref h21, .ref h22, .int 0, .ref h23, .ref h24, .ref h25])), (h2, .inl (a1, 6, .inl (fun _ => 0)))] sz [.ref h0, .int x0]) (va_Qv (fun (_ : Unit) => True) (fun u t => cB D (va_A [(h0, .inr (12, [.ref h1, .ref h2, .ref h3, .ref h4, .int 0, .int 0, .ref h5, .int 0, .int 0, .int 0, .int 0, .int 0, .int 0, .int 0, .int 0, .int 0, .int 0, .int 0, .int 0, .int 0, .int (-1), .int 0, .int 0, .int 0, .ref h6, .ref h7, .ref h8, .ref h9, .ref h10, .ref h11, .int 0, .int 0, .int 0, .int 0, .ref h12, .ref h13, .ref h14, .int 0, .int 0, .int 0, .int 0, .ref h15, .ref h16, .int 0, .ref h17, .ref h18, .int 0, .ref h19, .int 0, .ref h20, .ref h21, .ref h22, .int 0, .ref h23, .ref h24, .ref h25])), (h2, .inl (a1, 6, .inl (fun _ => 0)))] sz) ((fun (_ : Unit) => ([] : List (ClassId × FieldType))) u) ((fun (_ : Unit) => ([(h0, .inr (12, [.ref h1, .ref h2, .ref h3, .ref h4, .int 0, .int 0, .ref h5, .int 0, .int 0, .int 0, .int 0, .int 0, .int 0, .int 0, .int 0, .int 0, .int 0, .int 0, .int 0, .int 0, .int (-1), .int 0, .int 0, .int 0, .ref h6, .ref h7, .ref h8, .ref h9, .ref h10, .ref h11, .int 0, .int 0, .int 0, .int 0, .ref h12, .ref h13, .ref h14, .int 0, .int 0, .int 0, .int 0, .ref h15, .ref h16, .int 0, .ref h17, .ref h18, .int 0, .ref h19, .int 0, .ref h20, .ref h21, .ref h22, .int 0, .ref h23, .ref h24, .ref h25])), (h2, .inl (a1, 6, .inl (fun _ => 0)))] : va_W)) u) t) (va_A [(h0, .inr (12, [.ref h1, .ref h2, .ref h3, .ref h4, .int 0, .int 0, .ref h5, .int 0, .int 0, .int 0, .int 0, .int 0, .int 0, .int 0, .int 0, .int 0, .int 0, .int 0, .int 0, .int 0, .int (-1), .int 0, .int 0, .int 0, .ref h6, .ref h7, .ref h8, .ref h9, .ref h10, .ref h11, .int 0, .int 0, .int 0, .int 0, .ref h12, .ref h13, .ref h14, .int 0, .int 0, .int 0, .int 0, .ref h15, .ref h16, .int 0, .ref h17, .ref h18, .int 0, .ref h19, .int 0, .ref h20, .ref h21, .ref h22, .int 0, .ref h23, .ref h24, .ref h25])), (h2, .inl (a1, 6, .inl (fun _ => 0)))] sz)) 0 0 (va_A [(h0, .inr (12, [.ref h1, .ref h2, .ref h3, .ref h4, .int 0, .int 0, .ref h5, .int 0, .int 0, .int 0, .int 0, .int 0, .int 0, .int 0, .int 0, .int 0, .int 0, .int 0, .int 0, .int 0, .int (-1), .int 0, .int 0, .int 0, .ref h6, .ref h7, .ref h8, .ref h9, .ref h10, .ref h11, .int 0, .int 0, .int 0, .int 0, .ref h12, .ref h13, .ref h14, .int 0, .int 0, .int 0, .int 0, .ref h15, .ref h16, .int 0, .ref h17, .ref h18, .int 0, .ref h19, .int 0, .ref h20, .ref h21, .ref h22, .int 0, .ref h23, .ref h24, .ref h25])), (h2, .inl (a1, 6, .inl (fun _ => 0)))] sz) := by
  refine Met.ofW (cc := cX12_puts) (maxL := 3) (ret := none) (by decide) rfl ?_
  intro p e s m args below meth c s₁ B hml hv
  obtain ⟨rfl, aks, rfl, Wd⟩ := k_enter hv
  have C : CallFix p m c cX12_puts 3 s _ gG RX12 := ⟨B.exec, B.bytes, hml, findClass_of_methodNamed B.named, fun w h => atoms_spec (ws := Cond.code yX12_puts cX12_puts 3 none :: gG) B.pre w (List.mem_cons_of_mem _ h)⟩
  have hr := B.returns
  have hlk := B.notSynchronized
  generalize va_A [(h0, .inr (12, [.ref h1, .ref h2, .ref h3, .ref h4, .int 0, .int 0, .ref h5, .int 0, .int 0, .int 0, .int 0, .int 0, .int 0, .int 0, .int 0, .int 0, .int 0, .int 0, .int 0, .int 0, .int (-1), .int 0, .int 0, .int 0, .ref h6, .ref h7, .ref h8, .ref h9, .ref h10, .ref h11, .int 0, .int 0, .int 0, .int 0, .ref h12, .ref h13, .ref h14, .int 0, .int 0, .int 0, .int 0, .ref h15, .ref h16, .int 0, .ref h17, .ref h18, .int 0, .ref h19, .int 0, .ref h20, .ref h21, .ref h22, .int 0, .ref h23, .ref h24, .ref h25])), (h2, .inl (a1, 6, .inl (fun _ => 0)))] s.heap.size = A at Wd ⊢
  refine k_locals (Nat.le_of_ble_eq_true rfl) [(0, .ref h0), (1, .int x0)] rfl (fun ls hl => ?_)
  refine lv_aload_n C.1 C.2.1 dX12_puts_0 rfl (lv_at hl 0 rfl) ?_
  refine k_get C Wd KX12 0 1 rfl (by decide) fl_X12_13 rfl dX12_puts_1 ?_
  refine lv_iload_n C.1 C.2.1 dX12_puts_4 rfl (lv_at hl 1 rfl) ?_
  refine lv_aload_n C.1 C.2.1 dX12_puts_5 rfl (lv_at hl 0 rfl) ?_
  refine k_get C Wd KX12 0 4 rfl (by decide) fl_X12_98 rfl dX12_puts_6 ?_
  refine k_iast C Wd 1 0 [(h0, .inr (12, [.ref h1, .ref h2, .ref h3, .ref h4, .int 0, .int 0, .ref h5, .int 0, .int 0, .int 0, .int 0, .int 0, .int 0, .int 0, .int 0, .int 0, .int 0, .int 0, .int 0, .int 0, .int (-1), .int 0, .int 0, .int 0, .ref h6, .ref h7, .ref h8, .ref h9, .ref h10, .ref h11, .int 0, .int 0, .int 0, .int 0, .ref h12, .ref h13, .ref h14, .int 0, .int 0, .int 0, .int 0, .ref h15, .ref h16, .int 0, .ref h17, .ref h18, .int 0, .ref h19, .int 0, .ref h20, .ref h21, .ref h22, .int 0, .ref h23, .ref h24, .ref h25])), (h2, .inl (a1, 6, .inl (fun _ => 0)))] rfl rfl (vp_in_iff.mpr ⟨by have z0 := kz_nlt as0; have z1 := kz_nlt as1; have t0 : (0 : Int32).toInt = 0 := (by decide); have t5 : (5 : Int32).toInt = 5 := (by decide); omega, by have z0 := kz_nlt as0; have z1 := kz_nlt as1; have t0 : (0 : Int32).toInt = 0 := (by decide); have t5 : (5 : Int32).toInt = 5 := (by decide); omega⟩) (upd0 _) rfl dX12_puts_9 (fun H locs Wd => ?_)
  refine lv_iconst (v := 0) C.1 C.2.1 dX12_puts_10 (by decide) ?_
  refine lv_istore_n (lv' := [(2, .int 0), (0, .ref h0), (1, .int x0)]) C.1 C.2.1 dX12_puts_11 rfl hl (by decide) rfl (fun ls hl => ?_)
  refine lv_iload_n C.1 C.2.1 dX12_puts_12 rfl (lv_at hl 0 rfl) ?_
  refine lv_aload_n C.1 C.2.1 dX12_puts_13 rfl (lv_at hl 1 rfl) ?_
  refine k_get C Wd KX12 0 4 rfl (by decide) fl_X12_98 rfl dX12_puts_14 ?_
  refine lv_icmp_ge (tgt := 44) C.1 C.2.1 dX12_puts_17 (by decide) (fun _ => ?_) (fun c4946 => absurd c4946 (by decide))
  exact k_vret C hr hlk Wd () trivial [0, 1] rfl (by decide) [] rfl (by decide) (by decide) dX12_puts_44
set_option maxHeartbeats 4000000 in
set_option maxRecDepth 100000 in
theorem kcX12_make (l : Launch) (D : va_G) (h0 h1 h2 h3 h4 h5 h6 h7 h8 h9 h10 h11 h12 h13 h14 h15 h16 h17 h18 h19 h20 h21 h22 h23 h24 h25 : Nat) (x0 x1 x2 : Int32) (a1 a20 : ClassId) (sz : Nat)  : Met l yX12_make (Cond.code yX12_make cX12_make 4 (some .int) :: gG) { frames := 3, cells := 0, slots := 0, locals := 106 } (cPre D [(a1, .int), (a20, .int)] [(h0, .inr (12, [.ref h1, .ref h2, .ref h3, .ref h4, .int 0, .int 0, .ref h5, .int 0, .int 0, .int 0, .int 0, .int 0, .int 0, .int 0, .int 0, .int 0, .int 0, .int 0, .int 0, .int 0, .int (-1), .int 0, .int 0, .int 0, .ref h6, .ref h7, .ref h8, .ref h9, .ref h10, .ref h11, .int 0, .int 0, .int 0, .int 0, .ref h12, .ref h13, .ref h14, .int 0, .int 0, .int 0, .int 0, .ref h15, .ref h16, .int 0, .ref h17, .ref h18, .int 0, .ref h19, .int 0, .ref h20, .ref h21, .ref h22, .int 0, .ref h23, .ref h24, .ref h25])), (h2, .inl (a1, 6, .inl (fun _ => 0))), (h21, .inl (a20, 6, .inl (fun _ => 0)))] sz [.ref h0, .int x0, .int x1, .int x2]) (va_Qi (fun (r : Int32) (_ : Unit) => (x0 < (0 : Int32) ∧ r = (-1)) ∨ (¬ x0 < (0 : Int32) ∧ (5 : Int32) < x0 ∧ r = (-1)) ∨ (¬ x0 < (0 : Int32) ∧ ¬ (5 : Int32) < x0 ∧ x1 < (0 : Int32) ∧ r = (-1)) ∨ (¬ x0 < (0 : Int32) ∧ ¬ (5 : Int32) < x0 ∧ ¬ x1 < (0 : Int32) ∧ (5 : Int32) < x1 ∧ r = (-1)) ∨ (¬ x0 < (0 : Int32) ∧ ¬ (5 : Int32) < x0 ∧ ¬ x1 < (0 : Int32) ∧ ¬ (5 : Int32) < x1 ∧ x2 < (0 : Int32) ∧ r = (-1)) ∨ (¬ x0 < (0 : Int32) ∧ ¬ (5 : Int32) < x0 ∧ ¬ x1 < (0 : Int32) ∧ ¬ (5 : Int32) < x1 ∧ ¬ x2 < (0 : Int32) ∧ (5 : Int32) < x2 ∧ r = (-1)) ∨ (¬ x0 < (0 : Int32) ∧ ¬ (5 : Int32) < x0 ∧ ¬ x1 < (0 : Int32) ∧ ¬ (5 : Int32) < x1 ∧ ¬ x2 < (0 : Int32) ∧ ¬ (5 : Int32) < x2 ∧ r = 0)) (fun u t => cB D (va_A [(h0, .inr (12, [.ref h1, .ref h2, .ref h3, .ref h4, .int 0, .int 0, .ref h5, .int 0, .int 0, .int 0, .int 0, .int 0, .int 0, .int 0, .int 0, .int 0, .int 0, .int 0, .int 0, .int 0, .int (-1), .int 0, .int 0, .int 0, .ref h6, .ref h7, .ref h8, .ref h9, .ref h10, .ref h11, .int 0, .int 0, .int 0, .int 0, .ref h12, .ref h13, .ref h14, .int 0, .int 0, .int 0, .int 0, .ref h15, .ref h16, .int 0, .ref h17, .ref h18, .int 0, .ref h19, .int 0, .ref h20, .ref h21, .ref h22, .int 0, .ref h23, .ref h24, .ref h25])), (h2, .inl (a1, 6, .inl (fun _ => 0))), (h21, .inl (a20, 6, .inl (fun _ => 0)))] sz) ((fun (_ : Unit) => ([] : List (ClassId × FieldType))) u) ((fun (_ : Unit) => ([] : va_W)) u) t) (va_A [(h0, .inr (12, [.ref h1, .ref h2, .ref h3, .ref h4, .int 0, .int 0, .ref h5, .int 0, .int 0, .int 0, .int 0, .int 0, .int 0, .int 0, .int 0, .int 0, .int 0, .int 0, .int 0, .int 0, .int (-1), .int 0, .int 0, .int 0, .ref h6, .ref h7, .ref h8, .ref h9, .ref h10, .ref h11, .int 0, .int 0, .int 0, .int 0, .ref h12, .ref h13, .ref h14, .int 0, .int 0, .int 0, .int 0, .ref h15, .ref h16, .int 0, .ref h17, .ref h18, .int 0, .ref h19, .int 0, .ref h20, .ref h21, .ref h22, .int 0, .ref h23, .ref h24, .ref h25])), (h2, .inl (a1, 6, .inl (fun _ => 0))), (h21, .inl (a20, 6, .inl (fun _ => 0)))] sz)) 0 0 (va_A [(h0, .inr (12, [.ref h1, .ref h2, .ref h3, .ref h4, .int 0, .int 0, .ref h5, .int 0, .int 0, .int 0, .int 0, .int 0, .int 0, .int 0, .int 0, .int 0, .int 0, .int 0, .int 0, .int 0, .int (-1), .int 0, .int 0, .int 0, .ref h6, .ref h7, .ref h8, .ref h9, .ref h10, .ref h11, .int 0, .int 0, .int 0, .int 0, .ref h12, .ref h13, .ref h14, .int 0, .int 0, .int 0, .int 0, .ref h15, .ref h16, .int 0, .ref h17, .ref h18, .int 0, .ref h19, .int 0, .ref h20, .ref h21, .ref h22, .int 0, .ref h23, .ref h24, .ref h25])), (h2, .inl (a1, 6, .inl (fun _ => 0))), (h21, .inl (a20, 6, .inl (fun _ => 0)))] sz) := by
  refine Met.ofW (cc := cX12_make) (maxL := 4) (ret := (some .int)) (by decide) rfl ?_
  intro p e s m args below meth c s₁ B hml hv
  obtain ⟨rfl, aks, rfl, Wd⟩ := k_enter hv
  have C : CallFix p m c cX12_make 4 s _ gG RX12 := ⟨B.exec, B.bytes, hml, findClass_of_methodNamed B.named, fun w h => atoms_spec (ws := Cond.code yX12_make cX12_make 4 (some .int) :: gG) B.pre w (List.mem_cons_of_mem _ h)⟩
  have hr := B.returns
  have hlk := B.notSynchronized
  generalize va_A [(h0, .inr (12, [.ref h1, .ref h2, .ref h3, .ref h4, .int 0, .int 0, .ref h5, .int 0, .int 0, .int 0, .int 0, .int 0, .int 0, .int 0, .int 0, .int 0, .int 0, .int 0, .int 0, .int 0, .int (-1), .int 0, .int 0, .int 0, .ref h6, .ref h7, .ref h8, .ref h9, .ref h10, .ref h11, .int 0, .int 0, .int 0, .int 0, .ref h12, .ref h13, .ref h14, .int 0, .int 0, .int 0, .int 0, .ref h15, .ref h16, .int 0, .ref h17, .ref h18, .int 0, .ref h19, .int 0, .ref h20, .ref h21, .ref h22, .int 0, .ref h23, .ref h24, .ref h25])), (h2, .inl (a1, 6, .inl (fun _ => 0))), (h21, .inl (a20, 6, .inl (fun _ => 0)))] s.heap.size = A at Wd ⊢
  refine k_locals (Nat.le_of_ble_eq_true rfl) [(0, .ref h0), (1, .int x0), (2, .int x1), (3, .int x2)] rfl (fun ls hl => ?_)
  refine lv_iload_n C.1 C.2.1 dX12_make_0 rfl (lv_at hl 1 rfl) ?_
  refine k_pi (k_runS (rest := []) C aks Wd cs_X12_423 (kcX12_isPass l D x0 _ ) [] rfl (by decide) [] rfl rfl rfl ⟨(Nat.le_of_ble_eq_true rfl), (Nat.le_of_ble_eq_true rfl)⟩ hl.1 rfl rfl (Nat.le_of_ble_eq_true rfl) ⟨(Nat.le_of_ble_eq_true rfl), (Nat.le_of_ble_eq_true rfl)⟩ dX12_make_1) (fun r w4949 => ?_)
  rcases w4949 with ⟨c4950, rfl⟩ | ⟨c4951, c4952, rfl⟩ | ⟨c4953, c4954, rfl⟩
  · refine lv_if_eq (tgt := 21) C.1 C.2.1 dX12_make_4 (by decide) (fun _ => ?_) (fun c4955 => absurd c4955 (by decide))
    refine lv_iconst (v := (-1)) C.1 C.2.1 dX12_make_21 (by decide) ?_
    exact k_zret C hr hlk rfl Wd () (Or.inl (⟨c4950, rfl⟩)) [] rfl (by decide) [] rfl (by decide) (by decide) dX12_make_22
  · refine lv_if_eq (tgt := 21) C.1 C.2.1 dX12_make_4 (by decide) (fun _ => ?_) (fun c4956 => absurd c4956 (by decide))
    refine lv_iconst (v := (-1)) C.1 C.2.1 dX12_make_21 (by decide) ?_
    exact k_zret C hr hlk rfl Wd () (Or.inr (Or.inl (⟨c4951, c4952, rfl⟩))) [] rfl (by decide) [] rfl (by decide) (by decide) dX12_make_22
  · refine lv_if_eq (tgt := 21) C.1 C.2.1 dX12_make_4 (by decide) (fun c4957 => absurd c4957 (by decide)) (fun _ => ?_)
    refine lv_iload_n C.1 C.2.1 dX12_make_7 rfl (lv_at hl 2 rfl) ?_
    refine k_pi (k_runS (rest := []) C aks Wd cs_X12_249 (kcX12_isSlot l D x1 _ ) [] rfl (by decide) [] rfl rfl rfl ⟨(Nat.le_of_ble_eq_true rfl), (Nat.le_of_ble_eq_true rfl)⟩ hl.1 rfl rfl (Nat.le_of_ble_eq_true rfl) ⟨(Nat.le_of_ble_eq_true rfl), (Nat.le_of_ble_eq_true rfl)⟩ dX12_make_8) (fun r w4958 => ?_)
    rcases w4958 with ⟨c4959, rfl⟩ | ⟨c4960, c4961, rfl⟩ | ⟨c4962, c4963, rfl⟩
    · refine lv_if_eq (tgt := 21) C.1 C.2.1 dX12_make_11 (by decide) (fun _ => ?_) (fun c4964 => absurd c4964 (by decide))
      refine lv_iconst (v := (-1)) C.1 C.2.1 dX12_make_21 (by decide) ?_
      exact k_zret C hr hlk rfl Wd () (Or.inr (Or.inr (Or.inl (⟨c4953, c4954, c4959, rfl⟩)))) [] rfl (by decide) [] rfl (by decide) (by decide) dX12_make_22
    · refine lv_if_eq (tgt := 21) C.1 C.2.1 dX12_make_11 (by decide) (fun _ => ?_) (fun c4965 => absurd c4965 (by decide))
      refine lv_iconst (v := (-1)) C.1 C.2.1 dX12_make_21 (by decide) ?_
      exact k_zret C hr hlk rfl Wd () (Or.inr (Or.inr (Or.inr (Or.inl (⟨c4953, c4954, c4960, c4961, rfl⟩))))) [] rfl (by decide) [] rfl (by decide) (by decide) dX12_make_22
    · refine lv_if_eq (tgt := 21) C.1 C.2.1 dX12_make_11 (by decide) (fun c4966 => absurd c4966 (by decide)) (fun _ => ?_)
      refine lv_iload_n C.1 C.2.1 dX12_make_14 rfl (lv_at hl 3 rfl) ?_
      refine k_pi (k_runS (rest := []) C aks Wd cs_X12_249 (kcX12_isSlot l D x2 _ ) [] rfl (by decide) [] rfl rfl rfl ⟨(Nat.le_of_ble_eq_true rfl), (Nat.le_of_ble_eq_true rfl)⟩ hl.1 rfl rfl (Nat.le_of_ble_eq_true rfl) ⟨(Nat.le_of_ble_eq_true rfl), (Nat.le_of_ble_eq_true rfl)⟩ dX12_make_15) (fun r w4967 => ?_)
      rcases w4967 with ⟨c4968, rfl⟩ | ⟨c4969, c4970, rfl⟩ | ⟨c4971, c4972, rfl⟩
      · refine lv_if_ne (tgt := 23) C.1 C.2.1 dX12_make_18 (by decide) (fun c4973 => absurd c4973 (by decide)) (fun _ => ?_)
        refine lv_iconst (v := (-1)) C.1 C.2.1 dX12_make_21 (by decide) ?_
        exact k_zret C hr hlk rfl Wd () (Or.inr (Or.inr (Or.inr (Or.inr (Or.inl (⟨c4953, c4954, c4962, c4963, c4968, rfl⟩)))))) [] rfl (by decide) [] rfl (by decide) (by decide) dX12_make_22
      · refine lv_if_ne (tgt := 23) C.1 C.2.1 dX12_make_18 (by decide) (fun c4974 => absurd c4974 (by decide)) (fun _ => ?_)
        refine lv_iconst (v := (-1)) C.1 C.2.1 dX12_make_21 (by decide) ?_
        exact k_zret C hr hlk rfl Wd () (Or.inr (Or.inr (Or.inr (Or.inr (Or.inr (Or.inl (⟨c4953, c4954, c4962, c4963, c4969, c4970, rfl⟩))))))) [] rfl (by decide) [] rfl (by decide) (by decide) dX12_make_22
      · refine lv_if_ne (tgt := 23) C.1 C.2.1 dX12_make_18 (by decide) (fun _ => ?_) (fun c4975 => absurd c4975 (by decide))
        refine lv_aload_n C.1 C.2.1 dX12_make_23 rfl (lv_at hl 0 rfl) ?_
        refine lv_iload_n C.1 C.2.1 dX12_make_24 rfl (lv_at hl 2 rfl) ?_
        refine k_cv Wd [0, 1] [2] rfl (wr := [(h21, .inl (a20, 6, .inl (fun _ => 0)))]) rfl (by decide) (by decide) (cells' := 0) (slots' := 0) (by decide) (by decide) (k_runV (rest := []) C aks Wd cs_X12_271 (kcX12_takes l D h0 h1 h2 h3 h4 h5 h6 h7 h8 h9 h10 h11 h12 h13 h14 h15 h16 h17 h18 h19 h20 h21 h22 h23 h24 h25 x1 a1 _ c4962 c4963) [0, 1] rfl (by decide) [0] rfl 0 12 rfl rfl rfl rfl rfl ⟨(Nat.le_of_ble_eq_true rfl), (Nat.le_of_ble_eq_true rfl)⟩ hl.1 rfl rfl (Nat.le_of_ble_eq_true rfl) ⟨(Nat.le_of_ble_eq_true rfl), (Nat.le_of_ble_eq_true rfl)⟩ dX12_make_25) (fun _ H locs w4976 Wd => ?_)
        have Wd : wX D [(a1, .int), (a20, .int)] s [(h21, .inl (a20, 6, .inl (fun _ => 0))), (h0, .inr (12, [.ref h1, .ref h2, .ref h3, .ref h4, .int 0, .int 0, .ref h5, .int 0, .int 0, .int 0, .int 0, .int 0, .int 0, .int 0, .int 0, .int 0, .int 0, .int 0, .int 0, .int 0, .int (-1), .int 0, .int 0, .int 0, .ref h6, .ref h7, .ref h8, .ref h9, .ref h10, .ref h11, .int 0, .int 0, .int 0, .int 0, .ref h12, .ref h13, .ref h14, .int 0, .int 0, .int 0, .int 0, .ref h15, .ref h16, .int 0, .ref h17, .ref h18, .int 0, .ref h19, .int 0, .ref h20, .ref h21, .ref h22, .int 0, .ref h23, .ref h24, .ref h25])), (h2, .inl (a1, 6, .inl (fun _ => 0)))] _ A s.heap _ := Wd
        refine lv_aload_n C.1 C.2.1 dX12_make_28 rfl (lv_at hl 0 rfl) ?_
        refine lv_iload_n C.1 C.2.1 dX12_make_29 rfl (lv_at hl 1 rfl) ?_
        refine k_pi (k_runV (rest := []) C aks Wd cs_X12_439 (kcX12_makes l D h0 h1 h2 h3 h4 h5 h6 h7 h8 h9 h10 h11 h12 h13 h14 h15 h16 h17 h18 h19 h20 h21 h22 h23 h24 h25 x0 a20 _ c4953 c4954) [1, 0] rfl (by decide) [1] rfl 1 12 rfl rfl rfl rfl rfl ⟨(Nat.le_of_ble_eq_true rfl), (Nat.le_of_ble_eq_true rfl)⟩ hl.1 rfl rfl (Nat.le_of_ble_eq_true rfl) ⟨(Nat.le_of_ble_eq_true rfl), (Nat.le_of_ble_eq_true rfl)⟩ dX12_make_30) (fun r w4977 => ?_)
        obtain rfl := w4977
        refine lv_if_ne (tgt := 38) C.1 C.2.1 dX12_make_33 (by decide) (fun _ => ?_) (fun c4978 => absurd c4978 (by decide))
        refine lv_aload_n C.1 C.2.1 dX12_make_38 rfl (lv_at hl 0 rfl) ?_
        refine lv_iload_n C.1 C.2.1 dX12_make_39 rfl (lv_at hl 3 rfl) ?_
        refine k_cv Wd [1, 2] [0] rfl (wr := [(h21, .inl (a20, 6, .inl (fun _ => 0)))]) rfl (by decide) (by decide) (cells' := 0) (slots' := 0) (by decide) (by decide) (k_runV (rest := []) C aks Wd cs_X12_262 (kcX12_puts_v1 l D h0 h1 h2 h3 h4 h5 h6 h7 h8 h9 h10 h11 h12 h13 h14 h15 h16 h17 h18 h19 h20 h21 h22 h23 h24 h25 x2 a1 _ c4971 c4972) [1, 2] rfl (by decide) [0] rfl 1 12 rfl rfl rfl rfl rfl ⟨(Nat.le_of_ble_eq_true rfl), (Nat.le_of_ble_eq_true rfl)⟩ hl.1 rfl rfl (Nat.le_of_ble_eq_true rfl) ⟨(Nat.le_of_ble_eq_true rfl), (Nat.le_of_ble_eq_true rfl)⟩ dX12_make_40) (fun _ H locs w4979 Wd => ?_)
        have Wd : wX D [(a1, .int), (a20, .int)] s [(h21, .inl (a20, 6, .inl (fun _ => 0))), (h0, .inr (12, [.ref h1, .ref h2, .ref h3, .ref h4, .int 0, .int 0, .ref h5, .int 0, .int 0, .int 0, .int 0, .int 0, .int 0, .int 0, .int 0, .int 0, .int 0, .int 0, .int 0, .int 0, .int (-1), .int 0, .int 0, .int 0, .ref h6, .ref h7, .ref h8, .ref h9, .ref h10, .ref h11, .int 0, .int 0, .int 0, .int 0, .ref h12, .ref h13, .ref h14, .int 0, .int 0, .int 0, .int 0, .ref h15, .ref h16, .int 0, .ref h17, .ref h18, .int 0, .ref h19, .int 0, .ref h20, .ref h21, .ref h22, .int 0, .ref h23, .ref h24, .ref h25])), (h2, .inl (a1, 6, .inl (fun _ => 0)))] _ A s.heap _ := Wd
        refine lv_aload_n C.1 C.2.1 dX12_make_43 rfl (lv_at hl 0 rfl) ?_
        refine k_pi (k_runV (rest := []) C aks Wd cs_X12_265 (kcX12_statements_v1 l D h0 h1 h2 h3 h4 h5 h6 h7 h8 h9 h10 h11 h12 h13 h14 h15 h16 h17 h18 h19 h20 h21 h22 h23 h24 h25 _ ) [1] rfl (by decide) [] rfl 1 12 rfl rfl rfl rfl rfl ⟨(Nat.le_of_ble_eq_true rfl), (Nat.le_of_ble_eq_true rfl)⟩ hl.1 rfl rfl (Nat.le_of_ble_eq_true rfl) ⟨(Nat.le_of_ble_eq_true rfl), (Nat.le_of_ble_eq_true rfl)⟩ dX12_make_44) (fun r w4980 => ?_)
        obtain rfl := w4980
        exact k_zret C hr hlk rfl Wd () (Or.inr (Or.inr (Or.inr (Or.inr (Or.inr (Or.inr (⟨c4953, c4954, c4962, c4963, c4971, c4972, rfl⟩))))))) [] rfl (by decide) [] rfl (by decide) (by decide) dX12_make_47
