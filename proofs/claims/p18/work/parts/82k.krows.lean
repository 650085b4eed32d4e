set_option maxHeartbeats 4000000 in
set_option maxRecDepth 100000 in
theorem mk_W_isNumber : ∀ (D : va_G) (x0 : Int) (g_x0 : rng x0) (K : Int → Prop) (hw : wp5_W_isNumber x0 K) (l : Launch) (sz : Nat), Met l yX8_isNumber (Cond.code yX8_isNumber cX8_isNumber 1 (some .boolean) :: gG) { frames := 1, cells := 0, slots := 0, locals := 64 } (cPre D [] [] sz [.int (zI x0)]) (vp_Si (fun r => ∃ x : Int, r = zI x ∧ rng x ∧ K x)) 0 0 (fun _ => False) := by
  intro D x0 g_x0 K hw l sz
  refine Met.ofW (cc := cX8_isNumber) (maxL := 1) (ret := (some .boolean)) (by decide) rfl ?_
  intro p e s m args below meth c s₁ B hml hv
  obtain ⟨rfl, aks, rfl, Wd⟩ := k_enter hv
  have C : CallFix p m c cX8_isNumber 1 s _ gG RX8 := ⟨B.exec, B.bytes, hml, findClass_of_methodNamed B.named, fun w h => atoms_spec (ws := Cond.code yX8_isNumber cX8_isNumber 1 (some .boolean) :: gG) B.pre w (List.mem_cons_of_mem _ h)⟩
  have hr := B.returns
  have hlk := B.notSynchronized
  obtain ⟨A, Wd⟩ : ∃ A, wX D [] s [] s.heap A s.heap [] := ⟨_, Wd⟩
  refine k_locals (Nat.le_of_ble_eq_true rfl) [(0, .int (zI x0))] rfl (fun ls hl => ?_)
  unfold wp5_W_isNumber at hw
  refine lv_iload_n C.1 C.2.1 dX8_isNumber_0 rfl (lv_at hl 0 rfl) ?_
  refine lv_if_lt (tgt := 14) C.1 C.2.1 dX8_isNumber_1 (by decide) (fun c1 => ?_) (fun c1 => ?_)
  · have hw := hw.1 (z0_lt g_x0 c1)
    refine lv_iconst (v := zI 0) C.1 C.2.1 dX8_isNumber_14 (by decide) ?_
    exact k_zretP C hr hlk (by decide) ⟨_, rfl, (show rng 0 from by decide), hw⟩ dX8_isNumber_15
  · have hw := hw.2 (z0_nlt g_x0 c1)
    refine lv_iload_n C.1 C.2.1 dX8_isNumber_4 rfl (lv_at hl 0 rfl) ?_
    refine lv_bipush (v := zI 16) C.1 C.2.1 dX8_isNumber_5 (by decide) ?_
    refine lv_icmp_ge (tgt := 14) C.1 C.2.1 dX8_isNumber_7 (by decide) (fun c7 => ?_) (fun c7 => ?_)
    · have hw := hw.1 (z_le (show rng 16 from by decide) g_x0 c7)
      refine lv_iconst (v := zI 0) C.1 C.2.1 dX8_isNumber_14 (by decide) ?_
      exact k_zretP C hr hlk (by decide) ⟨_, rfl, (show rng 0 from by decide), hw⟩ dX8_isNumber_15
    · have hw := hw.2 (z_nle (show rng 16 from by decide) g_x0 c7)
      refine lv_iconst (v := zI 1) C.1 C.2.1 dX8_isNumber_10 (by decide) ?_
      refine lv_goto (tgt := 15) C.1 C.2.1 dX8_isNumber_11 (by decide) ?_
      exact k_zretP C hr hlk (by decide) ⟨_, rfl, (show rng 1 from by decide), hw⟩ dX8_isNumber_15
set_option maxHeartbeats 4000000 in
set_option maxRecDepth 100000 in
theorem mk_W_remove : ∀ (D : va_G) (ad : Nat → Nat) (ca : Nat → ClassId) (rf : Nat → Nat → Option Nat) (σ : Sg) (hS : rngK σ) (hRF : RFok ad rf) (n0 : Int) (x0 : Int) (x1 : Int) (h_n0 : 0 ≤ n0 ∧ n0 < 35) (g_x0 : rng x0) (g_x1 : rng x1) (K : Sg → Prop) (hw : wp5_W_remove σ n0 x0 x1 K) (l : Launch) (sz : Nat), Met l yX8_remove (Cond.code yX8_remove cX8_remove 3 none :: gG) { frames := 1, cells := 0, slots := 0, locals := 96 } (cPre D (tC ca) (wK ad ca rf σ) sz [.ref (ad (rowC n0.toNat)), .int (zI x0), .int (zI x1)]) (va_Qv (fun (u : Sg) => K u ∧ rngK u) (fun u t => cB D (va_A (wK ad ca rf σ) sz) [] (wK ad ca rf u) t) (va_A (wK ad ca rf σ) sz)) 0 0 (va_A (wK ad ca rf σ) sz) := by
  intro D ad ca rf σ hS hRF n0 x0 x1 h_n0 g_x0 g_x1 K hw l sz
  refine Met.ofW (cc := cX8_remove) (maxL := 3) (ret := none) (by decide) rfl ?_
  intro p e s m args below meth c s₁ B hml hv
  obtain ⟨rfl, aks, rfl, Wd⟩ := k_enter hv
  have C : CallFix p m c cX8_remove 3 s _ gG RX8 := ⟨B.exec, B.bytes, hml, findClass_of_methodNamed B.named, fun w h => atoms_spec (ws := Cond.code yX8_remove cX8_remove 3 none :: gG) B.pre w (List.mem_cons_of_mem _ h)⟩
  have hr := B.returns
  have hlk := B.notSynchronized
  generalize va_A (wK ad ca rf σ) s.heap.size = A at Wd ⊢
  replace Wd : wXK D ad ca rf s σ s.heap A s.heap [] := ⟨Wd, hS, hRF⟩
  refine k_locals (Nat.le_of_ble_eq_true rfl) [(0, .ref (ad (rowC n0.toNat))), (1, .int (zI x0)), (2, .int (zI x1))] rfl (fun ls hl => ?_)
  unfold wp5_W_remove at hw
  refine lv_iload_n C.1 C.2.1 dX8_remove_0 rfl (lv_at hl 1 rfl) ?_
  refine lv_if_lt (tgt := 48) C.1 C.2.1 dX8_remove_1 (by decide) (fun c1 => ?_) (fun c1 => ?_)
  · have hw := hw.1 (z0_lt g_x0 c1)
    exact k_retKv C hr hlk Wd hw dX8_remove_48
  · have hw := hw.2 (z0_nlt g_x0 c1)
    refine lv_iload_n C.1 C.2.1 dX8_remove_4 rfl (lv_at hl 1 rfl) ?_
    refine lv_iload_n C.1 C.2.1 dX8_remove_5 rfl (lv_at hl 2 rfl) ?_
    refine lv_icmp_ge (tgt := 48) C.1 C.2.1 dX8_remove_6 (by decide) (fun c6 => ?_) (fun c6 => ?_)
    · have hw := hw.1 (z_le g_x1 g_x0 c6)
      exact k_retKv C hr hlk Wd hw dX8_remove_48
    · have hw := hw.2 (z_nle g_x1 g_x0 c6)
      refine lv_iload_n C.1 C.2.1 dX8_remove_9 rfl (lv_at hl 2 rfl) ?_
      refine lv_aload_n C.1 C.2.1 dX8_remove_10 rfl (lv_at hl 0 rfl) ?_
      refine k_get (v := .int (zI (σ.2.2.1 0 n0))) C Wd.1 KX8 _ 1 (cxRow h_n0) (by decide) fl_X8_21 rfl dX8_remove_11 ?_
      refine lv_icmp_gt (tgt := 48) C.1 C.2.1 dX8_remove_14 (by decide) (fun c14 => ?_) (fun c14 => ?_)
      · have hw := hw.1 (z_lt (rgY hS (N := 35) h_n0) g_x1 c14)
        exact k_retKv C hr hlk Wd hw dX8_remove_48
      · have hw := hw.2 (z_nlt (rgY hS (N := 35) h_n0) g_x1 c14)
        refine lv_aload_n C.1 C.2.1 dX8_remove_17 rfl (lv_at hl 0 rfl) ?_
        refine k_get (v := .ref (ad ((rowC n0.toNat) + 1))) C Wd.1 KX8 _ 0 (cxRow h_n0) (by decide) fl_X8_15 rfl dX8_remove_18 ?_
        refine lv_iload_n C.1 C.2.1 dX8_remove_21 rfl (lv_at hl 2 rfl) ?_
        refine lv_aload_n C.1 C.2.1 dX8_remove_22 rfl (lv_at hl 0 rfl) ?_
        refine k_get (v := .ref (ad ((rowC n0.toNat) + 1))) C Wd.1 KX8 _ 0 (cxRow h_n0) (by decide) fl_X8_15 rfl dX8_remove_23 ?_
        refine lv_iload_n C.1 C.2.1 dX8_remove_26 rfl (lv_at hl 1 rfl) ?_
        refine lv_aload_n C.1 C.2.1 dX8_remove_27 rfl (lv_at hl 0 rfl) ?_
        refine k_get (v := .int (zI (σ.2.2.1 0 n0))) C Wd.1 KX8 _ 1 (cxRow h_n0) (by decide) fl_X8_21 rfl dX8_remove_28 ?_
        refine lv_iload_n C.1 C.2.1 dX8_remove_31 rfl (lv_at hl 2 rfl) ?_
        refine k_isub (v := zI ((σ.2.2.1 0 n0) - x1)) C (zI_isub _ _) dX8_remove_32 ?_
        obtain ⟨y33, hw⟩ := hw
        refine k_copyR (sp := x1) (dp := x0) (n := ((σ.2.2.1 0 n0) - x1)) C hl.1 Wd mlac_X8_25 nat_ac sta_ac ini_sys h_n0 h_n0 rfl rfl y33 (Nat.le_of_ble_eq_true rfl) (Nat.le_of_ble_eq_true rfl) dX8_remove_33 (fun H locs Wd => ?_)
        refine lv_aload_n C.1 C.2.1 dX8_remove_36 rfl (lv_at hl 0 rfl) ?_
        refine lv_dup C.1 C.2.1 dX8_remove_37 rfl ?_
        refine k_get (v := .int (zI (σ.2.2.1 0 n0))) C Wd.1 KX8 _ 1 (cxRow h_n0) (by decide) fl_X8_21 rfl dX8_remove_38 ?_
        refine lv_iload_n C.1 C.2.1 dX8_remove_41 rfl (lv_at hl 2 rfl) ?_
        refine lv_iload_n C.1 C.2.1 dX8_remove_42 rfl (lv_at hl 1 rfl) ?_
        refine k_isub (v := zI (x1 - x0)) C (zI_isub _ _) dX8_remove_43 ?_
        refine k_isub (v := zI ((σ.2.2.1 0 n0) - (x1 - x0))) C (zI_isub _ _) dX8_remove_44 ?_
        obtain ⟨g45_1, hw⟩ := hw
        refine k_putRL (n := n0) (v := ((σ.2.2.1 0 n0) - (x1 - x0))) C Wd h_n0 fl_X8_21 g45_1 dX8_remove_45 (fun H locs Wd => ?_)
        exact k_retKv C hr hlk Wd hw dX8_remove_48
set_option maxHeartbeats 4000000 in
set_option maxRecDepth 100000 in
theorem mk_A_foldOperations : ∀ (D : va_G) (ad : Nat → Nat) (ca : Nat → ClassId) (rf : Nat → Nat → Option Nat) (σ : Sg) (hS : rngK σ) (hRF : RFok ad rf) (x0 : Int) (g_x0 : 0 ≤ x0 ∧ x0 < 35) (K : Sg → Prop) (hw : wp5_A_foldOperations σ x0 K) (l : Launch) (sz : Nat), Met l yX0_foldOperations (Cond.code yX0_foldOperations cX0_foldOperations 6 none :: gG) { frames := 2, cells := 0, slots := 0, locals := 118 } (cPre D (tC ca) (wK ad ca rf σ) sz [.ref (ad 70), .ref (ad (rowC x0.toNat))]) (va_Qv (fun (u : Sg) => K u ∧ rngK u) (fun u t => cB D (va_A (wK ad ca rf σ) sz) [] (wK ad ca rf u) t) (va_A (wK ad ca rf σ) sz)) 0 0 (va_A (wK ad ca rf σ) sz) := by
  intro D ad ca rf σ hS hRF x0 g_x0 K hw l sz
  refine Met.ofW (cc := cX0_foldOperations) (maxL := 6) (ret := none) (by decide) rfl ?_
  intro p e s m args below meth c s₁ B hml hv
  obtain ⟨rfl, aks, rfl, Wd⟩ := k_enter hv
  have C : CallFix p m c cX0_foldOperations 6 s _ gG RX0 := ⟨B.exec, B.bytes, hml, findClass_of_methodNamed B.named, fun w h => atoms_spec (ws := Cond.code yX0_foldOperations cX0_foldOperations 6 none :: gG) B.pre w (List.mem_cons_of_mem _ h)⟩
  have hr := B.returns
  have hlk := B.notSynchronized
  generalize va_A (wK ad ca rf σ) s.heap.size = A at Wd ⊢
  replace Wd : wXK D ad ca rf s σ s.heap A s.heap [] := ⟨Wd, hS, hRF⟩
  refine k_locals (Nat.le_of_ble_eq_true rfl) [(0, .ref (ad 70)), (1, .ref (ad (rowC x0.toNat)))] rfl (fun ls hl => ?_)
  unfold wp5_A_foldOperations at hw
  refine lv_aload_n C.1 C.2.1 dX0_foldOperations_0 rfl (lv_at hl 1 rfl) ?_
  refine k_get (v := .int (zI (σ.2.2.1 0 x0))) C Wd.1 KX8 _ 1 (cxRow g_x0) (by decide) fl_X0_31 rfl dX0_foldOperations_1 ?_
  refine lv_iconst (v := zI 1) C.1 C.2.1 dX0_foldOperations_4 (by decide) ?_
  refine k_isub (v := zI ((σ.2.2.1 0 x0) - 1)) C (zI_isub _ _) dX0_foldOperations_5 ?_
  refine lv_istore_n (lv' := [(2, .int (zI ((σ.2.2.1 0 x0) - 1))), (0, .ref (ad 70)), (1, .ref (ad (rowC x0.toNat)))]) C.1 C.2.1 dX0_foldOperations_6 rfl hl (by decide) rfl (fun ls hl => ?_)
  replace hl := lv_sub hl [1, 2, 0] rfl
  obtain ⟨g6_12, hw⟩ := hw
  refine k_lp2 hw (fun (l2_7 : Int) (σ7 : Sg) H locs ls => rng l2_7 ∧ wXK D ad ca rf s σ7 H A s.heap locs ∧ lv_has ls 6 [(1, .ref (ad (rowC x0.toNat))), (2, .int (zI l2_7))]) (fun (l2_7 : Int) (σ7 : Sg) ls => F0 m 7 ls []) (fun L7 hL7 l2_7 σ7 hw H locs ls hi => ?_) _ _ _ ⟨g6_12, Wd, lv_sub hl [1, 2] rfl⟩
  obtain ⟨g_l2_7, Wd, hl⟩ := hi
  have hS_σ7 := Wd.2.1
  unfold wp5_A_foldOperations_7 at hw
  refine lv_iload_n C.1 C.2.1 dX0_foldOperations_7 rfl (lv_at hl 1 rfl) ?_
  refine lv_if_lt (tgt := 87) C.1 C.2.1 dX0_foldOperations_8 (by decide) (fun c8 => ?_) (fun c8 => ?_)
  · have hw := hw.1 (z0_lt g_l2_7 c8)
    exact k_retKv C hr hlk Wd hw dX0_foldOperations_87
  · have hw := hw.2 (z0_nlt g_l2_7 c8)
    refine lv_aload_n C.1 C.2.1 dX0_foldOperations_11 rfl (lv_at hl 0 rfl) ?_
    refine lv_iload_n C.1 C.2.1 dX0_foldOperations_12 rfl (lv_at hl 1 rfl) ?_
    refine k_pi (k_runVK (rest := []) C aks Wd cs_X0_35 (mk_W_cell D ad ca rf σ7 Wd.2.1 Wd.2.2 x0 l2_7 g_x0 g_l2_7 _ hw l _) (cxRow g_x0) rfl rfl rfl rfl ⟨(Nat.le_of_ble_eq_true rfl), (Nat.le_of_ble_eq_true rfl)⟩ hl.1 rfl rfl (Nat.le_of_ble_eq_true rfl) ⟨(Nat.le_of_ble_eq_true rfl), (Nat.le_of_ble_eq_true rfl)⟩ dX0_foldOperations_13) (fun y13 hy => ?_)
    obtain ⟨r13, rfl, g_r13, hw⟩ := hy
    refine lv_istore_n (lv' := [(3, .int (zI r13)), (1, .ref (ad (rowC x0.toNat))), (2, .int (zI l2_7))]) C.1 C.2.1 dX0_foldOperations_16 rfl hl (by decide) rfl (fun ls hl => ?_)
    replace hl := lv_sub hl [1, 2, 0] rfl
    refine lv_aload_n C.1 C.2.1 dX0_foldOperations_17 rfl (lv_at hl 0 rfl) ?_
    refine lv_iload_n C.1 C.2.1 dX0_foldOperations_18 rfl (lv_at hl 1 rfl) ?_
    refine lv_iconst (v := zI 1) C.1 C.2.1 dX0_foldOperations_19 (by decide) ?_
    refine k_iadd (v := zI (l2_7 + 1)) C (zI_iadd _ _) dX0_foldOperations_20 ?_
    obtain ⟨g21_13, hw⟩ := hw
    refine k_pi (k_runVK (rest := []) C aks Wd cs_X0_35 (mk_W_cell D ad ca rf σ7 Wd.2.1 Wd.2.2 x0 (l2_7 + 1) g_x0 g21_13 _ hw l _) (cxRow g_x0) rfl rfl rfl rfl ⟨(Nat.le_of_ble_eq_true rfl), (Nat.le_of_ble_eq_true rfl)⟩ hl.1 rfl rfl (Nat.le_of_ble_eq_true rfl) ⟨(Nat.le_of_ble_eq_true rfl), (Nat.le_of_ble_eq_true rfl)⟩ dX0_foldOperations_21) (fun y21 hy => ?_)
    obtain ⟨r21, rfl, g_r21, hw⟩ := hy
    refine lv_istore (lv' := [(4, .int (zI r21)), (1, .ref (ad (rowC x0.toNat))), (2, .int (zI l2_7)), (3, .int (zI r13))]) C.1 C.2.1 dX0_foldOperations_24 hl (by decide) rfl (fun ls hl => ?_)
    replace hl := lv_sub hl [1, 2, 3, 0] rfl
    refine lv_aload_n C.1 C.2.1 dX0_foldOperations_26 rfl (lv_at hl 0 rfl) ?_
    refine lv_iload_n C.1 C.2.1 dX0_foldOperations_27 rfl (lv_at hl 1 rfl) ?_
    refine lv_iconst (v := zI 2) C.1 C.2.1 dX0_foldOperations_28 (by decide) ?_
    refine k_iadd (v := zI (l2_7 + 2)) C (zI_iadd _ _) dX0_foldOperations_29 ?_
    obtain ⟨g30_14, hw⟩ := hw
    refine k_pi (k_runVK (rest := []) C aks Wd cs_X0_35 (mk_W_cell D ad ca rf σ7 Wd.2.1 Wd.2.2 x0 (l2_7 + 2) g_x0 g30_14 _ hw l _) (cxRow g_x0) rfl rfl rfl rfl ⟨(Nat.le_of_ble_eq_true rfl), (Nat.le_of_ble_eq_true rfl)⟩ hl.1 rfl rfl (Nat.le_of_ble_eq_true rfl) ⟨(Nat.le_of_ble_eq_true rfl), (Nat.le_of_ble_eq_true rfl)⟩ dX0_foldOperations_30) (fun y30 hy => ?_)
    obtain ⟨r30, rfl, g_r30, hw⟩ := hy
    refine lv_istore (lv' := [(5, .int (zI r30)), (1, .ref (ad (rowC x0.toNat))), (2, .int (zI l2_7)), (3, .int (zI r13)), (4, .int (zI r21))]) C.1 C.2.1 dX0_foldOperations_33 hl (by decide) rfl (fun ls hl => ?_)
    replace hl := lv_sub hl [1, 2, 3, 4, 0] rfl
    refine lv_iload_n C.1 C.2.1 dX0_foldOperations_35 rfl (lv_at hl 2 rfl) ?_
    refine k_pi (k_runS (rest := []) C aks Wd.1 cs_X0_54 (mk_W_isOperation D r13 g_r13 _ hw l _) [] rfl (by decide) [] rfl rfl rfl ⟨(Nat.le_of_ble_eq_true rfl), (Nat.le_of_ble_eq_true rfl)⟩ hl.1 rfl rfl (Nat.le_of_ble_eq_true rfl) ⟨(Nat.le_of_ble_eq_true rfl), (Nat.le_of_ble_eq_true rfl)⟩ dX0_foldOperations_36) (fun y36 hy => ?_)
    obtain ⟨r36, rfl, g_r36, hw⟩ := hy
    refine lv_if_eq (tgt := 81) C.1 C.2.1 dX0_foldOperations_39 (by decide) (fun c39 => ?_) (fun c39 => ?_)
    · have hw := hw.1 (z0_eq g_r36 c39)
      refine lv_iinc (v := zI (l2_7 - 1)) (lv' := [(2, .int (zI (l2_7 - 1))), (1, .ref (ad (rowC x0.toNat))), (3, .int (zI r13)), (4, .int (zI r21)), (5, .int (zI r30))]) C.1 C.2.1 dX0_foldOperations_81 hl (k := 1) rfl (zI_dec _ _ (by decide)) (by decide) rfl (fun ls hl => ?_)
      replace hl := lv_sub hl [1, 0, 2, 3, 4] rfl
      refine lv_goto (tgt := 7) C.1 C.2.1 dX0_foldOperations_84 (by decide) ?_
      obtain ⟨g84_15, hw⟩ := hw
      exact hL7 _ _ hw _ _ _ ⟨g84_15, Wd, lv_sub hl [0, 1] rfl⟩
    · have hw := hw.2 (z0_ne g_r36 c39)
      refine lv_iload C.1 C.2.1 dX0_foldOperations_42 (lv_at hl 3 rfl) ?_
      refine k_pi (k_runS (rest := []) C aks Wd.1 cs_X0_39 (mk_W_isNumber D r21 g_r21 _ hw l _) [] rfl (by decide) [] rfl rfl rfl ⟨(Nat.le_of_ble_eq_true rfl), (Nat.le_of_ble_eq_true rfl)⟩ hl.1 rfl rfl (Nat.le_of_ble_eq_true rfl) ⟨(Nat.le_of_ble_eq_true rfl), (Nat.le_of_ble_eq_true rfl)⟩ dX0_foldOperations_44) (fun y44 hy => ?_)
      obtain ⟨r44, rfl, g_r44, hw⟩ := hy
      refine lv_if_eq (tgt := 81) C.1 C.2.1 dX0_foldOperations_47 (by decide) (fun c47 => ?_) (fun c47 => ?_)
      · have hw := hw.1 (z0_eq g_r44 c47)
        refine lv_iinc (v := zI (l2_7 - 1)) (lv' := [(2, .int (zI (l2_7 - 1))), (1, .ref (ad (rowC x0.toNat))), (3, .int (zI r13)), (4, .int (zI r21)), (5, .int (zI r30))]) C.1 C.2.1 dX0_foldOperations_81 hl (k := 1) rfl (zI_dec _ _ (by decide)) (by decide) rfl (fun ls hl => ?_)
        replace hl := lv_sub hl [1, 0, 2, 3, 4] rfl
        refine lv_goto (tgt := 7) C.1 C.2.1 dX0_foldOperations_84 (by decide) ?_
        obtain ⟨g84_16, hw⟩ := hw
        exact hL7 _ _ hw _ _ _ ⟨g84_16, Wd, lv_sub hl [0, 1] rfl⟩
      · have hw := hw.2 (z0_ne g_r44 c47)
        refine lv_iload C.1 C.2.1 dX0_foldOperations_50 (lv_at hl 4 rfl) ?_
        refine k_pi (k_runS (rest := []) C aks Wd.1 cs_X0_39 (mk_W_isNumber D r30 g_r30 _ hw l _) [] rfl (by decide) [] rfl rfl rfl ⟨(Nat.le_of_ble_eq_true rfl), (Nat.le_of_ble_eq_true rfl)⟩ hl.1 rfl rfl (Nat.le_of_ble_eq_true rfl) ⟨(Nat.le_of_ble_eq_true rfl), (Nat.le_of_ble_eq_true rfl)⟩ dX0_foldOperations_52) (fun y52 hy => ?_)
        obtain ⟨r52, rfl, g_r52, hw⟩ := hy
        refine lv_if_eq (tgt := 81) C.1 C.2.1 dX0_foldOperations_55 (by decide) (fun c55 => ?_) (fun c55 => ?_)
        · have hw := hw.1 (z0_eq g_r52 c55)
          refine lv_iinc (v := zI (l2_7 - 1)) (lv' := [(2, .int (zI (l2_7 - 1))), (1, .ref (ad (rowC x0.toNat))), (3, .int (zI r13)), (4, .int (zI r21)), (5, .int (zI r30))]) C.1 C.2.1 dX0_foldOperations_81 hl (k := 1) rfl (zI_dec _ _ (by decide)) (by decide) rfl (fun ls hl => ?_)
          replace hl := lv_sub hl [1, 0, 2, 3, 4] rfl
          refine lv_goto (tgt := 7) C.1 C.2.1 dX0_foldOperations_84 (by decide) ?_
          obtain ⟨g84_17, hw⟩ := hw
          exact hL7 _ _ hw _ _ _ ⟨g84_17, Wd, lv_sub hl [0, 1] rfl⟩
        · have hw := hw.2 (z0_ne g_r52 c55)
          refine lv_aload_n C.1 C.2.1 dX0_foldOperations_58 rfl (lv_at hl 0 rfl) ?_
          refine lv_iload_n C.1 C.2.1 dX0_foldOperations_59 rfl (lv_at hl 1 rfl) ?_
          refine lv_iload_n C.1 C.2.1 dX0_foldOperations_60 rfl (lv_at hl 2 rfl) ?_
          refine lv_iload C.1 C.2.1 dX0_foldOperations_61 (lv_at hl 3 rfl) ?_
          refine lv_iload C.1 C.2.1 dX0_foldOperations_63 (lv_at hl 4 rfl) ?_
          refine k_pi (k_runS (rest := [.int (zI l2_7), .ref (ad (rowC x0.toNat))]) C aks Wd.1 cs_X0_57 (mk_W_result D r13 r21 r30 g_r13 g_r21 g_r30 _ hw l _) [] rfl (by decide) [] rfl rfl rfl ⟨(Nat.le_of_ble_eq_true rfl), (Nat.le_of_ble_eq_true rfl)⟩ hl.1 rfl rfl (Nat.le_of_ble_eq_true rfl) ⟨(Nat.le_of_ble_eq_true rfl), (Nat.le_of_ble_eq_true rfl)⟩ dX0_foldOperations_65) (fun y65 hy => ?_)
          obtain ⟨r65, rfl, g_r65, hw⟩ := hy
          refine k_cKv Wd (k_runVK (rest := []) C aks Wd cs_X0_61 (mk_W_change D ad ca rf σ7 Wd.2.1 Wd.2.2 x0 l2_7 r65 g_x0 g_l2_7 g_r65 _ hw l _) (cxRow g_x0) rfl rfl rfl rfl ⟨(Nat.le_of_ble_eq_true rfl), (Nat.le_of_ble_eq_true rfl)⟩ hl.1 rfl rfl (Nat.le_of_ble_eq_true rfl) ⟨(Nat.le_of_ble_eq_true rfl), (Nat.le_of_ble_eq_true rfl)⟩ dX0_foldOperations_68) (fun σr68 H locs hw Wd => ?_)
          have hS_σr68 := Wd.2.1
          refine lv_aload_n C.1 C.2.1 dX0_foldOperations_71 rfl (lv_at hl 0 rfl) ?_
          refine lv_iload_n C.1 C.2.1 dX0_foldOperations_72 rfl (lv_at hl 1 rfl) ?_
          refine lv_iconst (v := zI 1) C.1 C.2.1 dX0_foldOperations_73 (by decide) ?_
          refine k_iadd (v := zI (l2_7 + 1)) C (zI_iadd _ _) dX0_foldOperations_74 ?_
          refine lv_iload_n C.1 C.2.1 dX0_foldOperations_75 rfl (lv_at hl 1 rfl) ?_
          refine lv_iconst (v := zI 3) C.1 C.2.1 dX0_foldOperations_76 (by decide) ?_
          refine k_iadd (v := zI (l2_7 + 3)) C (zI_iadd _ _) dX0_foldOperations_77 ?_
          obtain ⟨g78_18, hw⟩ := hw
          refine k_cKv Wd (k_runVK (rest := []) C aks Wd cs_X0_65 (mk_W_remove D ad ca rf σr68 Wd.2.1 Wd.2.2 x0 (l2_7 + 1) (l2_7 + 3) g_x0 g21_13 g78_18 _ hw l _) (cxRow g_x0) rfl rfl rfl rfl ⟨(Nat.le_of_ble_eq_true rfl), (Nat.le_of_ble_eq_true rfl)⟩ hl.1 rfl rfl (Nat.le_of_ble_eq_true rfl) ⟨(Nat.le_of_ble_eq_true rfl), (Nat.le_of_ble_eq_true rfl)⟩ dX0_foldOperations_78) (fun σr78 H locs hw Wd => ?_)
          have hS_σr78 := Wd.2.1
          refine lv_iinc (v := zI (l2_7 - 1)) (lv' := [(2, .int (zI (l2_7 - 1))), (1, .ref (ad (rowC x0.toNat))), (3, .int (zI r13)), (4, .int (zI r21)), (5, .int (zI r30))]) C.1 C.2.1 dX0_foldOperations_81 hl (k := 1) rfl (zI_dec _ _ (by decide)) (by decide) rfl (fun ls hl => ?_)
          replace hl := lv_sub hl [1, 0, 2, 3, 4] rfl
          refine lv_goto (tgt := 7) C.1 C.2.1 dX0_foldOperations_84 (by decide) ?_
          obtain ⟨g84_19, hw⟩ := hw
          exact hL7 _ _ hw _ _ _ ⟨g84_19, Wd, lv_sub hl [0, 1] rfl⟩
set_option maxHeartbeats 4000000 in
set_option maxRecDepth 100000 in
theorem mk_W_closeOf : ∀ (D : va_G) (ad : Nat → Nat) (ca : Nat → ClassId) (rf : Nat → Nat → Option Nat) (σ : Sg) (hS : rngK σ) (hRF : RFok ad rf) (n0 : Int) (x0 : Int) (h_n0 : 0 ≤ n0 ∧ n0 < 35) (g_x0 : rng x0) (K : Int → Prop) (hw : wp5_W_closeOf σ n0 x0 K) (l : Launch) (sz : Nat), Met l yX8_closeOf (Cond.code yX8_closeOf cX8_closeOf 4 (some .int) :: gG) { frames := 2, cells := 0, slots := 0, locals := 96 } (cPre D (tC ca) (wK ad ca rf σ) sz [.ref (ad (rowC n0.toNat)), .int (zI x0)]) (vp_Si (fun r => ∃ x : Int, r = zI x ∧ rng x ∧ K x)) 0 0 (fun _ => False) := by
  intro D ad ca rf σ hS hRF n0 x0 h_n0 g_x0 K hw l sz
  refine Met.ofW (cc := cX8_closeOf) (maxL := 4) (ret := (some .int)) (by decide) rfl ?_
  intro p e s m args below meth c s₁ B hml hv
  obtain ⟨rfl, aks, rfl, Wd⟩ := k_enter hv
  have C : CallFix p m c cX8_closeOf 4 s _ gG RX8 := ⟨B.exec, B.bytes, hml, findClass_of_methodNamed B.named, fun w h => atoms_spec (ws := Cond.code yX8_closeOf cX8_closeOf 4 (some .int) :: gG) B.pre w (List.mem_cons_of_mem _ h)⟩
  have hr := B.returns
  have hlk := B.notSynchronized
  obtain ⟨A, Wd⟩ : ∃ A, wXK D ad ca rf s σ s.heap A s.heap [] := ⟨_, Wd, hS, hRF⟩
  refine k_locals (Nat.le_of_ble_eq_true rfl) [(0, .ref (ad (rowC n0.toNat))), (1, .int (zI x0))] rfl (fun ls hl => ?_)
  unfold wp5_W_closeOf at hw
  refine lv_iconst (v := zI 0) C.1 C.2.1 dX8_closeOf_0 (by decide) ?_
  refine lv_istore_n (lv' := [(2, .int (zI 0)), (0, .ref (ad (rowC n0.toNat))), (1, .int (zI x0))]) C.1 C.2.1 dX8_closeOf_1 rfl hl (by decide) rfl (fun ls hl => ?_)
  replace hl := lv_sub hl [1, 2, 0] rfl
  refine lv_iload_n C.1 C.2.1 dX8_closeOf_2 rfl (lv_at hl 1 rfl) ?_
  refine lv_iconst (v := zI 0) C.1 C.2.1 dX8_closeOf_3 (by decide) ?_
  refine k_mmax (v := zI (max x0 0)) C hl.1 ml_X8_9 st_Lib_Math_max_name in_J9 cd_max (Nat.le_of_ble_eq_true rfl) (Nat.le_of_ble_eq_true rfl) (Nat.le_of_ble_eq_true rfl) (Nat.le_of_ble_eq_true rfl) (zmax_eq _ _ g_x0 (show rng 0 from by decide)) dX8_closeOf_4 ?_
  refine lv_istore_n (lv' := [(3, .int (zI (max x0 0))), (0, .ref (ad (rowC n0.toNat))), (1, .int (zI x0)), (2, .int (zI 0))]) C.1 C.2.1 dX8_closeOf_7 rfl hl (by decide) rfl (fun ls hl => ?_)
  replace hl := lv_sub hl [1, 2, 3, 0] rfl
  refine k_lp2 hw (fun (l2_8 : Int) (l3_8 : Int) H locs ls => rng l2_8 ∧ rng l3_8 ∧ wXK D ad ca rf s σ H A s.heap locs ∧ H = s.heap ∧ locs = [] ∧ lv_has ls 4 [(0, .ref (ad (rowC n0.toNat))), (2, .int (zI l2_8)), (3, .int (zI l3_8))]) (fun (l2_8 : Int) (l3_8 : Int) ls => F0 m 8 ls []) (fun L8 hL8 l2_8 l3_8 hw H locs ls hi => ?_) _ _ _ ⟨(show rng 0 from by decide), (rng_max g_x0 (show rng 0 from by decide)), Wd, rfl, rfl, lv_sub hl [0, 2, 3] rfl⟩
  obtain ⟨g_l2_8, g_l3_8, Wd, rfl, rfl, hl⟩ := hi
  unfold wp5_W_closeOf_8 at hw
  refine lv_iload_n C.1 C.2.1 dX8_closeOf_8 rfl (lv_at hl 2 rfl) ?_
  refine lv_aload_n C.1 C.2.1 dX8_closeOf_9 rfl (lv_at hl 0 rfl) ?_
  refine k_get (v := .int (zI (σ.2.2.1 0 n0))) C Wd.1 KX8 _ 1 (cxRow h_n0) (by decide) fl_X8_21 rfl dX8_closeOf_10 ?_
  refine lv_icmp_ge (tgt := 60) C.1 C.2.1 dX8_closeOf_13 (by decide) (fun c13 => ?_) (fun c13 => ?_)
  · have hw := hw.1 (z_le (rgY hS (N := 35) h_n0) g_l3_8 c13)
    refine lv_aload_n C.1 C.2.1 dX8_closeOf_60 rfl (lv_at hl 0 rfl) ?_
    refine k_get (v := .int (zI (σ.2.2.1 0 n0))) C Wd.1 KX8 _ 1 (cxRow h_n0) (by decide) fl_X8_21 rfl dX8_closeOf_61 ?_
    exact k_zretP C hr hlk rfl ⟨_, rfl, (rgY hS (N := 35) h_n0), hw⟩ dX8_closeOf_64
  · have hw := hw.2 (z_nle (rgY hS (N := 35) h_n0) g_l3_8 c13)
    refine lv_aload_n C.1 C.2.1 dX8_closeOf_16 rfl (lv_at hl 0 rfl) ?_
    refine k_get (v := .ref (ad ((rowC n0.toNat) + 1))) C Wd.1 KX8 _ 0 (cxRow h_n0) (by decide) fl_X8_15 rfl dX8_closeOf_17 ?_
    refine lv_iload_n C.1 C.2.1 dX8_closeOf_20 rfl (lv_at hl 2 rfl) ?_
    obtain ⟨n21_0, hw⟩ := hw
    refine k_ialdK (g := (σ.2.2.2 0 n0)) C Wd (cxRowc h_n0) (tyR h_n0) (capN n21_0) (capL _) dX8_closeOf_21 ?_
    have ga21 : rng (σ.2.2.2 0 n0 l3_8) := rngL (rgZ (c := 0) Wd.2.1 h_n0) n21_0
    refine k_pi (k_runS (rest := []) C aks Wd.1 cs_X8_52 (mk_W_isBranch D (σ.2.2.2 0 n0 l3_8) ga21 _ hw l _) [] rfl (by decide) [] rfl rfl rfl ⟨(Nat.le_of_ble_eq_true rfl), (Nat.le_of_ble_eq_true rfl)⟩ hl.1 rfl rfl (Nat.le_of_ble_eq_true rfl) ⟨(Nat.le_of_ble_eq_true rfl), (Nat.le_of_ble_eq_true rfl)⟩ dX8_closeOf_22) (fun y22 hy => ?_)
    obtain ⟨r22, rfl, g_r22, hw⟩ := hy
    refine lv_if_eq (tgt := 34) C.1 C.2.1 dX8_closeOf_25 (by decide) (fun c25 => ?_) (fun c25 => ?_)
    · have hw := hw.1 (z0_eq g_r22 c25)
      refine lv_aload_n C.1 C.2.1 dX8_closeOf_34 rfl (lv_at hl 0 rfl) ?_
      refine k_get (v := .ref (ad ((rowC n0.toNat) + 1))) C Wd.1 KX8 _ 0 (cxRow h_n0) (by decide) fl_X8_15 rfl dX8_closeOf_35 ?_
      refine lv_iload_n C.1 C.2.1 dX8_closeOf_38 rfl (lv_at hl 2 rfl) ?_
      refine k_ialdK (g := (σ.2.2.2 0 n0)) C Wd (cxRowc h_n0) (tyR h_n0) (capN n21_0) (capL _) dX8_closeOf_39 ?_
      refine lv_bipush (v := zI 114) C.1 C.2.1 dX8_closeOf_40 (by decide) ?_
      refine lv_icmp_ne (tgt := 54) C.1 C.2.1 dX8_closeOf_42 (by decide) (fun c42 => ?_) (fun c42 => ?_)
      · have hw := hw.1 (z_ne ga21 (show rng 114 from by decide) c42)
        refine lv_iinc (v := zI (l3_8 + 1)) (lv' := [(3, .int (zI (l3_8 + 1))), (0, .ref (ad (rowC n0.toNat))), (2, .int (zI l2_8))]) C.1 C.2.1 dX8_closeOf_54 hl (k := 2) rfl (zI_inc _ _ (by decide)) (by decide) rfl (fun ls hl => ?_)
        replace hl := lv_sub hl [1, 2, 0] rfl
        refine lv_goto (tgt := 8) C.1 C.2.1 dX8_closeOf_57 (by decide) ?_
        obtain ⟨g57_4, hw⟩ := hw
        exact hL8 _ _ hw _ _ _ ⟨g_l2_8, g57_4, Wd, rfl, rfl, lv_sub hl [0, 1, 2] rfl⟩
      · have hw := hw.2 (z_eq ga21 (show rng 114 from by decide) c42)
        refine lv_iinc (v := zI (l2_8 - 1)) (lv' := [(2, .int (zI (l2_8 - 1))), (0, .ref (ad (rowC n0.toNat))), (3, .int (zI l3_8))]) C.1 C.2.1 dX8_closeOf_45 hl (k := 1) rfl (zI_dec _ _ (by decide)) (by decide) rfl (fun ls hl => ?_)
        replace hl := lv_sub hl [1, 0, 2] rfl
        refine lv_iload_n C.1 C.2.1 dX8_closeOf_48 rfl (lv_at hl 1 rfl) ?_
        obtain ⟨g49_5, hw⟩ := hw
        refine lv_if_ne (tgt := 54) C.1 C.2.1 dX8_closeOf_49 (by decide) (fun c49 => ?_) (fun c49 => ?_)
        · have hw := hw.1 (z0_ne g49_5 c49)
          refine lv_iinc (v := zI (l3_8 + 1)) (lv' := [(3, .int (zI (l3_8 + 1))), (0, .ref (ad (rowC n0.toNat))), (2, .int (zI (l2_8 - 1)))]) C.1 C.2.1 dX8_closeOf_54 hl (k := 2) rfl (zI_inc _ _ (by decide)) (by decide) rfl (fun ls hl => ?_)
          replace hl := lv_sub hl [1, 2, 0] rfl
          refine lv_goto (tgt := 8) C.1 C.2.1 dX8_closeOf_57 (by decide) ?_
          obtain ⟨g57_6, hw⟩ := hw
          exact hL8 _ _ hw _ _ _ ⟨g49_5, g57_6, Wd, rfl, rfl, lv_sub hl [0, 1, 2] rfl⟩
        · have hw := hw.2 (z0_eq g49_5 c49)
          refine lv_iload_n C.1 C.2.1 dX8_closeOf_52 rfl (lv_at hl 2 rfl) ?_
          exact k_zretP C hr hlk rfl ⟨_, rfl, g_l3_8, hw⟩ dX8_closeOf_53
    · have hw := hw.2 (z0_ne g_r22 c25)
      refine lv_iinc (v := zI (l2_8 + 1)) (lv' := [(2, .int (zI (l2_8 + 1))), (0, .ref (ad (rowC n0.toNat))), (3, .int (zI l3_8))]) C.1 C.2.1 dX8_closeOf_28 hl (k := 1) rfl (zI_inc _ _ (by decide)) (by decide) rfl (fun ls hl => ?_)
      replace hl := lv_sub hl [1, 0, 2] rfl
      refine lv_goto (tgt := 54) C.1 C.2.1 dX8_closeOf_31 (by decide) ?_
      refine lv_iinc (v := zI (l3_8 + 1)) (lv' := [(3, .int (zI (l3_8 + 1))), (0, .ref (ad (rowC n0.toNat))), (2, .int (zI (l2_8 + 1)))]) C.1 C.2.1 dX8_closeOf_54 hl (k := 2) rfl (zI_inc _ _ (by decide)) (by decide) rfl (fun ls hl => ?_)
      replace hl := lv_sub hl [1, 2, 0] rfl
      refine lv_goto (tgt := 8) C.1 C.2.1 dX8_closeOf_57 (by decide) ?_
      obtain ⟨g57_7, hw⟩ := hw
      obtain ⟨g57_8, hw⟩ := hw
      exact hL8 _ _ hw _ _ _ ⟨g57_7, g57_8, Wd, rfl, rfl, lv_sub hl [0, 1, 2] rfl⟩
set_option maxHeartbeats 4000000 in
set_option maxRecDepth 100000 in
theorem mk_W_elseOf : ∀ (D : va_G) (ad : Nat → Nat) (ca : Nat → ClassId) (rf : Nat → Nat → Option Nat) (σ : Sg) (hS : rngK σ) (hRF : RFok ad rf) (n0 : Int) (x0 : Int) (h_n0 : 0 ≤ n0 ∧ n0 < 35) (g_x0 : rng x0) (K : Int → Prop) (hw : wp5_W_elseOf σ n0 x0 K) (l : Launch) (sz : Nat), Met l yX8_elseOf (Cond.code yX8_elseOf cX8_elseOf 4 (some .int) :: gG) { frames := 2, cells := 0, slots := 0, locals := 96 } (cPre D (tC ca) (wK ad ca rf σ) sz [.ref (ad (rowC n0.toNat)), .int (zI x0)]) (vp_Si (fun r => ∃ x : Int, r = zI x ∧ rng x ∧ K x)) 0 0 (fun _ => False) := by
  intro D ad ca rf σ hS hRF n0 x0 h_n0 g_x0 K hw l sz
  refine Met.ofW (cc := cX8_elseOf) (maxL := 4) (ret := (some .int)) (by decide) rfl ?_
  intro p e s m args below meth c s₁ B hml hv
  obtain ⟨rfl, aks, rfl, Wd⟩ := k_enter hv
  have C : CallFix p m c cX8_elseOf 4 s _ gG RX8 := ⟨B.exec, B.bytes, hml, findClass_of_methodNamed B.named, fun w h => atoms_spec (ws := Cond.code yX8_elseOf cX8_elseOf 4 (some .int) :: gG) B.pre w (List.mem_cons_of_mem _ h)⟩
  have hr := B.returns
  have hlk := B.notSynchronized
  obtain ⟨A, Wd⟩ : ∃ A, wXK D ad ca rf s σ s.heap A s.heap [] := ⟨_, Wd, hS, hRF⟩
  refine k_locals (Nat.le_of_ble_eq_true rfl) [(0, .ref (ad (rowC n0.toNat))), (1, .int (zI x0))] rfl (fun ls hl => ?_)
  unfold wp5_W_elseOf at hw
  refine lv_iconst (v := zI 0) C.1 C.2.1 dX8_elseOf_0 (by decide) ?_
  refine lv_istore_n (lv' := [(2, .int (zI 0)), (0, .ref (ad (rowC n0.toNat))), (1, .int (zI x0))]) C.1 C.2.1 dX8_elseOf_1 rfl hl (by decide) rfl (fun ls hl => ?_)
  replace hl := lv_sub hl [1, 2, 0] rfl
  refine lv_iload_n C.1 C.2.1 dX8_elseOf_2 rfl (lv_at hl 1 rfl) ?_
  refine lv_iconst (v := zI 0) C.1 C.2.1 dX8_elseOf_3 (by decide) ?_
  refine k_mmax (v := zI (max x0 0)) C hl.1 ml_X8_9 st_Lib_Math_max_name in_J9 cd_max (Nat.le_of_ble_eq_true rfl) (Nat.le_of_ble_eq_true rfl) (Nat.le_of_ble_eq_true rfl) (Nat.le_of_ble_eq_true rfl) (zmax_eq _ _ g_x0 (show rng 0 from by decide)) dX8_elseOf_4 ?_
  refine lv_istore_n (lv' := [(3, .int (zI (max x0 0))), (0, .ref (ad (rowC n0.toNat))), (1, .int (zI x0)), (2, .int (zI 0))]) C.1 C.2.1 dX8_elseOf_7 rfl hl (by decide) rfl (fun ls hl => ?_)
  replace hl := lv_sub hl [1, 2, 3, 0] rfl
  refine k_lp2 hw (fun (l2_8 : Int) (l3_8 : Int) H locs ls => rng l2_8 ∧ rng l3_8 ∧ wXK D ad ca rf s σ H A s.heap locs ∧ H = s.heap ∧ locs = [] ∧ lv_has ls 4 [(0, .ref (ad (rowC n0.toNat))), (2, .int (zI l2_8)), (3, .int (zI l3_8))]) (fun (l2_8 : Int) (l3_8 : Int) ls => F0 m 8 ls []) (fun L8 hL8 l2_8 l3_8 hw H locs ls hi => ?_) _ _ _ ⟨(show rng 0 from by decide), (rng_max g_x0 (show rng 0 from by decide)), Wd, rfl, rfl, lv_sub hl [0, 2, 3] rfl⟩
  obtain ⟨g_l2_8, g_l3_8, Wd, rfl, rfl, hl⟩ := hi
  unfold wp5_W_elseOf_8 at hw
  refine lv_iload_n C.1 C.2.1 dX8_elseOf_8 rfl (lv_at hl 2 rfl) ?_
  refine lv_aload_n C.1 C.2.1 dX8_elseOf_9 rfl (lv_at hl 0 rfl) ?_
  refine k_get (v := .int (zI (σ.2.2.1 0 n0))) C Wd.1 KX8 _ 1 (cxRow h_n0) (by decide) fl_X8_21 rfl dX8_elseOf_10 ?_
  refine lv_icmp_ge (tgt := 75) C.1 C.2.1 dX8_elseOf_13 (by decide) (fun c13 => ?_) (fun c13 => ?_)
  · have hw := hw.1 (z_le (rgY hS (N := 35) h_n0) g_l3_8 c13)
    refine lv_aload_n C.1 C.2.1 dX8_elseOf_75 rfl (lv_at hl 0 rfl) ?_
    refine k_get (v := .int (zI (σ.2.2.1 0 n0))) C Wd.1 KX8 _ 1 (cxRow h_n0) (by decide) fl_X8_21 rfl dX8_elseOf_76 ?_
    exact k_zretP C hr hlk rfl ⟨_, rfl, (rgY hS (N := 35) h_n0), hw⟩ dX8_elseOf_79
  · have hw := hw.2 (z_nle (rgY hS (N := 35) h_n0) g_l3_8 c13)
    refine lv_aload_n C.1 C.2.1 dX8_elseOf_16 rfl (lv_at hl 0 rfl) ?_
    refine k_get (v := .ref (ad ((rowC n0.toNat) + 1))) C Wd.1 KX8 _ 0 (cxRow h_n0) (by decide) fl_X8_15 rfl dX8_elseOf_17 ?_
    refine lv_iload_n C.1 C.2.1 dX8_elseOf_20 rfl (lv_at hl 2 rfl) ?_
    obtain ⟨n21_0, hw⟩ := hw
    refine k_ialdK (g := (σ.2.2.2 0 n0)) C Wd (cxRowc h_n0) (tyR h_n0) (capN n21_0) (capL _) dX8_elseOf_21 ?_
    have ga21 : rng (σ.2.2.2 0 n0 l3_8) := rngL (rgZ (c := 0) Wd.2.1 h_n0) n21_0
    refine k_pi (k_runS (rest := []) C aks Wd.1 cs_X8_52 (mk_W_isBranch D (σ.2.2.2 0 n0 l3_8) ga21 _ hw l _) [] rfl (by decide) [] rfl rfl rfl ⟨(Nat.le_of_ble_eq_true rfl), (Nat.le_of_ble_eq_true rfl)⟩ hl.1 rfl rfl (Nat.le_of_ble_eq_true rfl) ⟨(Nat.le_of_ble_eq_true rfl), (Nat.le_of_ble_eq_true rfl)⟩ dX8_elseOf_22) (fun y22 hy => ?_)
    obtain ⟨r22, rfl, g_r22, hw⟩ := hy
    refine lv_if_eq (tgt := 34) C.1 C.2.1 dX8_elseOf_25 (by decide) (fun c25 => ?_) (fun c25 => ?_)
    · have hw := hw.1 (z0_eq g_r22 c25)
      refine lv_aload_n C.1 C.2.1 dX8_elseOf_34 rfl (lv_at hl 0 rfl) ?_
      refine k_get (v := .ref (ad ((rowC n0.toNat) + 1))) C Wd.1 KX8 _ 0 (cxRow h_n0) (by decide) fl_X8_15 rfl dX8_elseOf_35 ?_
      refine lv_iload_n C.1 C.2.1 dX8_elseOf_38 rfl (lv_at hl 2 rfl) ?_
      refine k_ialdK (g := (σ.2.2.2 0 n0)) C Wd (cxRowc h_n0) (tyR h_n0) (capN n21_0) (capL _) dX8_elseOf_39 ?_
      refine lv_bipush (v := zI 114) C.1 C.2.1 dX8_elseOf_40 (by decide) ?_
      refine lv_icmp_ne (tgt := 51) C.1 C.2.1 dX8_elseOf_42 (by decide) (fun c42 => ?_) (fun c42 => ?_)
      · have hw := hw.1 (z_ne ga21 (show rng 114 from by decide) c42)
        refine lv_aload_n C.1 C.2.1 dX8_elseOf_51 rfl (lv_at hl 0 rfl) ?_
        refine k_get (v := .ref (ad ((rowC n0.toNat) + 1))) C Wd.1 KX8 _ 0 (cxRow h_n0) (by decide) fl_X8_15 rfl dX8_elseOf_52 ?_
        refine lv_iload_n C.1 C.2.1 dX8_elseOf_55 rfl (lv_at hl 2 rfl) ?_
        refine k_ialdK (g := (σ.2.2.2 0 n0)) C Wd (cxRowc h_n0) (tyR h_n0) (capN n21_0) (capL _) dX8_elseOf_56 ?_
        refine lv_bipush (v := zI 113) C.1 C.2.1 dX8_elseOf_57 (by decide) ?_
        refine lv_icmp_ne (tgt := 69) C.1 C.2.1 dX8_elseOf_59 (by decide) (fun c59 => ?_) (fun c59 => ?_)
        · have hw := hw.1 (z_ne ga21 (show rng 113 from by decide) c59)
          refine lv_iinc (v := zI (l3_8 + 1)) (lv' := [(3, .int (zI (l3_8 + 1))), (0, .ref (ad (rowC n0.toNat))), (2, .int (zI l2_8))]) C.1 C.2.1 dX8_elseOf_69 hl (k := 2) rfl (zI_inc _ _ (by decide)) (by decide) rfl (fun ls hl => ?_)
          replace hl := lv_sub hl [1, 2, 0] rfl
          refine lv_goto (tgt := 8) C.1 C.2.1 dX8_elseOf_72 (by decide) ?_
          obtain ⟨g72_4, hw⟩ := hw
          exact hL8 _ _ hw _ _ _ ⟨g_l2_8, g72_4, Wd, rfl, rfl, lv_sub hl [0, 1, 2] rfl⟩
        · have hw := hw.2 (z_eq ga21 (show rng 113 from by decide) c59)
          refine lv_iload_n C.1 C.2.1 dX8_elseOf_62 rfl (lv_at hl 1 rfl) ?_
          refine lv_iconst (v := zI 1) C.1 C.2.1 dX8_elseOf_63 (by decide) ?_
          refine lv_icmp_ne (tgt := 69) C.1 C.2.1 dX8_elseOf_64 (by decide) (fun c64 => ?_) (fun c64 => ?_)
          · have hw := hw.1 (z_ne g_l2_8 (show rng 1 from by decide) c64)
            refine lv_iinc (v := zI (l3_8 + 1)) (lv' := [(3, .int (zI (l3_8 + 1))), (0, .ref (ad (rowC n0.toNat))), (2, .int (zI l2_8))]) C.1 C.2.1 dX8_elseOf_69 hl (k := 2) rfl (zI_inc _ _ (by decide)) (by decide) rfl (fun ls hl => ?_)
            replace hl := lv_sub hl [1, 2, 0] rfl
            refine lv_goto (tgt := 8) C.1 C.2.1 dX8_elseOf_72 (by decide) ?_
            obtain ⟨g72_5, hw⟩ := hw
            exact hL8 _ _ hw _ _ _ ⟨g_l2_8, g72_5, Wd, rfl, rfl, lv_sub hl [0, 1, 2] rfl⟩
          · have hw := hw.2 (z_eq g_l2_8 (show rng 1 from by decide) c64)
            refine lv_iload_n C.1 C.2.1 dX8_elseOf_67 rfl (lv_at hl 2 rfl) ?_
            exact k_zretP C hr hlk rfl ⟨_, rfl, g_l3_8, hw⟩ dX8_elseOf_68
      · have hw := hw.2 (z_eq ga21 (show rng 114 from by decide) c42)
        refine lv_iinc (v := zI (l2_8 - 1)) (lv' := [(2, .int (zI (l2_8 - 1))), (0, .ref (ad (rowC n0.toNat))), (3, .int (zI l3_8))]) C.1 C.2.1 dX8_elseOf_45 hl (k := 1) rfl (zI_dec _ _ (by decide)) (by decide) rfl (fun ls hl => ?_)
        replace hl := lv_sub hl [1, 0, 2] rfl
        refine lv_goto (tgt := 69) C.1 C.2.1 dX8_elseOf_48 (by decide) ?_
        refine lv_iinc (v := zI (l3_8 + 1)) (lv' := [(3, .int (zI (l3_8 + 1))), (0, .ref (ad (rowC n0.toNat))), (2, .int (zI (l2_8 - 1)))]) C.1 C.2.1 dX8_elseOf_69 hl (k := 2) rfl (zI_inc _ _ (by decide)) (by decide) rfl (fun ls hl => ?_)
        replace hl := lv_sub hl [1, 2, 0] rfl
        refine lv_goto (tgt := 8) C.1 C.2.1 dX8_elseOf_72 (by decide) ?_
        obtain ⟨g72_6, hw⟩ := hw
        obtain ⟨g72_7, hw⟩ := hw
        exact hL8 _ _ hw _ _ _ ⟨g72_6, g72_7, Wd, rfl, rfl, lv_sub hl [0, 1, 2] rfl⟩
    · have hw := hw.2 (z0_ne g_r22 c25)
      refine lv_iinc (v := zI (l2_8 + 1)) (lv' := [(2, .int (zI (l2_8 + 1))), (0, .ref (ad (rowC n0.toNat))), (3, .int (zI l3_8))]) C.1 C.2.1 dX8_elseOf_28 hl (k := 1) rfl (zI_inc _ _ (by decide)) (by decide) rfl (fun ls hl => ?_)
      replace hl := lv_sub hl [1, 0, 2] rfl
      refine lv_goto (tgt := 69) C.1 C.2.1 dX8_elseOf_31 (by decide) ?_
      refine lv_iinc (v := zI (l3_8 + 1)) (lv' := [(3, .int (zI (l3_8 + 1))), (0, .ref (ad (rowC n0.toNat))), (2, .int (zI (l2_8 + 1)))]) C.1 C.2.1 dX8_elseOf_69 hl (k := 2) rfl (zI_inc _ _ (by decide)) (by decide) rfl (fun ls hl => ?_)
      replace hl := lv_sub hl [1, 2, 0] rfl
      refine lv_goto (tgt := 8) C.1 C.2.1 dX8_elseOf_72 (by decide) ?_
      obtain ⟨g72_8, hw⟩ := hw
      obtain ⟨g72_9, hw⟩ := hw
      exact hL8 _ _ hw _ _ _ ⟨g72_8, g72_9, Wd, rfl, rfl, lv_sub hl [0, 1, 2] rfl⟩
set_option maxHeartbeats 4000000 in
set_option maxRecDepth 100000 in
theorem mk_A_foldBranch : ∀ (D : va_G) (ad : Nat → Nat) (ca : Nat → ClassId) (rf : Nat → Nat → Option Nat) (σ : Sg) (hS : rngK σ) (hRF : RFok ad rf) (x0 : Int) (x1 : Int) (x2 : Int) (g_x0 : 0 ≤ x0 ∧ x0 < 35) (g_x1 : rng x1) (g_x2 : rng x2) (K : Sg → Prop) (hw : wp5_A_foldBranch σ x0 x1 x2 K) (l : Launch) (sz : Nat), Met l yX0_foldBranch (Cond.code yX0_foldBranch cX0_foldBranch 6 none :: gG) { frames := 3, cells := 0, slots := 0, locals := 119 } (cPre D (tC ca) (wK ad ca rf σ) sz [.ref (ad 70), .ref (ad (rowC x0.toNat)), .int (zI x1), .int (zI x2)]) (va_Qv (fun (u : Sg) => K u ∧ rngK u) (fun u t => cB D (va_A (wK ad ca rf σ) sz) [] (wK ad ca rf u) t) (va_A (wK ad ca rf σ) sz)) 0 0 (va_A (wK ad ca rf σ) sz) := by
  intro D ad ca rf σ hS hRF x0 x1 x2 g_x0 g_x1 g_x2 K hw l sz
  refine Met.ofW (cc := cX0_foldBranch) (maxL := 6) (ret := none) (by decide) rfl ?_
  intro p e s m args below meth c s₁ B hml hv
  obtain ⟨rfl, aks, rfl, Wd⟩ := k_enter hv
  have C : CallFix p m c cX0_foldBranch 6 s _ gG RX0 := ⟨B.exec, B.bytes, hml, findClass_of_methodNamed B.named, fun w h => atoms_spec (ws := Cond.code yX0_foldBranch cX0_foldBranch 6 none :: gG) B.pre w (List.mem_cons_of_mem _ h)⟩
  have hr := B.returns
  have hlk := B.notSynchronized
  generalize va_A (wK ad ca rf σ) s.heap.size = A at Wd ⊢
  replace Wd : wXK D ad ca rf s σ s.heap A s.heap [] := ⟨Wd, hS, hRF⟩
  refine k_locals (Nat.le_of_ble_eq_true rfl) [(0, .ref (ad 70)), (1, .ref (ad (rowC x0.toNat))), (2, .int (zI x1)), (3, .int (zI x2))] rfl (fun ls hl => ?_)
  unfold wp5_A_foldBranch at hw
  refine lv_aload_n C.1 C.2.1 dX0_foldBranch_0 rfl (lv_at hl 1 rfl) ?_
  refine lv_iload_n C.1 C.2.1 dX0_foldBranch_1 rfl (lv_at hl 2 rfl) ?_
  refine k_pi (k_runVK (rest := []) C aks Wd cs_X0_68 (mk_W_closeOf D ad ca rf σ Wd.2.1 Wd.2.2 x0 x1 g_x0 g_x1 _ hw l _) (cxRow g_x0) rfl rfl rfl rfl ⟨(Nat.le_of_ble_eq_true rfl), (Nat.le_of_ble_eq_true rfl)⟩ hl.1 rfl rfl (Nat.le_of_ble_eq_true rfl) ⟨(Nat.le_of_ble_eq_true rfl), (Nat.le_of_ble_eq_true rfl)⟩ dX0_foldBranch_2) (fun y2 hy => ?_)
  obtain ⟨r2, rfl, g_r2, hw⟩ := hy
  refine lv_istore (lv' := [(4, .int (zI r2)), (0, .ref (ad 70)), (1, .ref (ad (rowC x0.toNat))), (2, .int (zI x1)), (3, .int (zI x2))]) C.1 C.2.1 dX0_foldBranch_5 hl (by decide) rfl (fun ls hl => ?_)
  replace hl := lv_sub hl [1, 2, 3, 4, 0] rfl
  refine lv_aload_n C.1 C.2.1 dX0_foldBranch_7 rfl (lv_at hl 1 rfl) ?_
  refine lv_iload_n C.1 C.2.1 dX0_foldBranch_8 rfl (lv_at hl 2 rfl) ?_
  refine k_pi (k_runVK (rest := []) C aks Wd cs_X0_35 (mk_W_cell D ad ca rf σ Wd.2.1 Wd.2.2 x0 x1 g_x0 g_x1 _ hw l _) (cxRow g_x0) rfl rfl rfl rfl ⟨(Nat.le_of_ble_eq_true rfl), (Nat.le_of_ble_eq_true rfl)⟩ hl.1 rfl rfl (Nat.le_of_ble_eq_true rfl) ⟨(Nat.le_of_ble_eq_true rfl), (Nat.le_of_ble_eq_true rfl)⟩ dX0_foldBranch_9) (fun y9 hy => ?_)
  obtain ⟨r9, rfl, g_r9, hw⟩ := hy
  refine lv_bipush (v := zI 115) C.1 C.2.1 dX0_foldBranch_12 (by decide) ?_
  refine lv_icmp_ne (tgt := 31) C.1 C.2.1 dX0_foldBranch_14 (by decide) (fun c14 => ?_) (fun c14 => ?_)
  · have hw := hw.1 (z_ne g_r9 (show rng 115 from by decide) c14)
    refine lv_aload_n C.1 C.2.1 dX0_foldBranch_31 rfl (lv_at hl 1 rfl) ?_
    refine lv_iload_n C.1 C.2.1 dX0_foldBranch_32 rfl (lv_at hl 2 rfl) ?_
    refine k_pi (k_runVK (rest := []) C aks Wd cs_X0_71 (mk_W_elseOf D ad ca rf σ Wd.2.1 Wd.2.2 x0 x1 g_x0 g_x1 _ hw l _) (cxRow g_x0) rfl rfl rfl rfl ⟨(Nat.le_of_ble_eq_true rfl), (Nat.le_of_ble_eq_true rfl)⟩ hl.1 rfl rfl (Nat.le_of_ble_eq_true rfl) ⟨(Nat.le_of_ble_eq_true rfl), (Nat.le_of_ble_eq_true rfl)⟩ dX0_foldBranch_33) (fun y33 hy => ?_)
    obtain ⟨r33, rfl, g_r33, hw⟩ := hy
    refine lv_istore (lv' := [(5, .int (zI r33)), (0, .ref (ad 70)), (1, .ref (ad (rowC x0.toNat))), (2, .int (zI x1)), (3, .int (zI x2)), (4, .int (zI r2))]) C.1 C.2.1 dX0_foldBranch_36 hl (by decide) rfl (fun ls hl => ?_)
    replace hl := lv_sub hl [1, 2, 3, 4, 5, 0] rfl
    refine lv_iload_n C.1 C.2.1 dX0_foldBranch_38 rfl (lv_at hl 3 rfl) ?_
    refine lv_if_eq (tgt := 63) C.1 C.2.1 dX0_foldBranch_39 (by decide) (fun c39 => ?_) (fun c39 => ?_)
    · have hw := hw.1 (z0_eq g_x2 c39)
      refine lv_aload_n C.1 C.2.1 dX0_foldBranch_63 rfl (lv_at hl 1 rfl) ?_
      refine lv_iload C.1 C.2.1 dX0_foldBranch_64 (lv_at hl 4 rfl) ?_
      refine lv_iload C.1 C.2.1 dX0_foldBranch_66 (lv_at hl 4 rfl) ?_
      refine lv_iconst (v := zI 1) C.1 C.2.1 dX0_foldBranch_68 (by decide) ?_
      refine k_iadd (v := zI (r2 + 1)) C (zI_iadd _ _) dX0_foldBranch_69 ?_
      obtain ⟨g70_5, hw⟩ := hw
      refine k_cKv Wd (k_runVK (rest := []) C aks Wd cs_X0_65 (mk_W_remove D ad ca rf σ Wd.2.1 Wd.2.2 x0 r2 (r2 + 1) g_x0 g_r2 g70_5 _ hw l _) (cxRow g_x0) rfl rfl rfl rfl ⟨(Nat.le_of_ble_eq_true rfl), (Nat.le_of_ble_eq_true rfl)⟩ hl.1 rfl rfl (Nat.le_of_ble_eq_true rfl) ⟨(Nat.le_of_ble_eq_true rfl), (Nat.le_of_ble_eq_true rfl)⟩ dX0_foldBranch_70) (fun σr70 H locs hw Wd => ?_)
      have hS_σr70 := Wd.2.1
      refine lv_aload_n C.1 C.2.1 dX0_foldBranch_73 rfl (lv_at hl 1 rfl) ?_
      refine lv_iload_n C.1 C.2.1 dX0_foldBranch_74 rfl (lv_at hl 2 rfl) ?_
      refine lv_iload C.1 C.2.1 dX0_foldBranch_75 (lv_at hl 5 rfl) ?_
      refine lv_iconst (v := zI 1) C.1 C.2.1 dX0_foldBranch_77 (by decide) ?_
      refine k_iadd (v := zI (r33 + 1)) C (zI_iadd _ _) dX0_foldBranch_78 ?_
      obtain ⟨g79_6, hw⟩ := hw
      refine k_cKv Wd (k_runVK (rest := []) C aks Wd cs_X0_65 (mk_W_remove D ad ca rf σr70 Wd.2.1 Wd.2.2 x0 x1 (r33 + 1) g_x0 g_x1 g79_6 _ hw l _) (cxRow g_x0) rfl rfl rfl rfl ⟨(Nat.le_of_ble_eq_true rfl), (Nat.le_of_ble_eq_true rfl)⟩ hl.1 rfl rfl (Nat.le_of_ble_eq_true rfl) ⟨(Nat.le_of_ble_eq_true rfl), (Nat.le_of_ble_eq_true rfl)⟩ dX0_foldBranch_79) (fun σr79 H locs hw Wd => ?_)
      have hS_σr79 := Wd.2.1
      exact k_retKv C hr hlk Wd hw dX0_foldBranch_82
    · have hw := hw.2 (z0_ne g_x2 c39)
      refine lv_aload_n C.1 C.2.1 dX0_foldBranch_42 rfl (lv_at hl 1 rfl) ?_
      refine lv_iload C.1 C.2.1 dX0_foldBranch_43 (lv_at hl 5 rfl) ?_
      refine lv_iload C.1 C.2.1 dX0_foldBranch_45 (lv_at hl 4 rfl) ?_
      refine lv_iconst (v := zI 1) C.1 C.2.1 dX0_foldBranch_47 (by decide) ?_
      refine k_iadd (v := zI (r2 + 1)) C (zI_iadd _ _) dX0_foldBranch_48 ?_
      obtain ⟨g49_7, hw⟩ := hw
      refine k_cKv Wd (k_runVK (rest := []) C aks Wd cs_X0_65 (mk_W_remove D ad ca rf σ Wd.2.1 Wd.2.2 x0 r33 (r2 + 1) g_x0 g_r33 g49_7 _ hw l _) (cxRow g_x0) rfl rfl rfl rfl ⟨(Nat.le_of_ble_eq_true rfl), (Nat.le_of_ble_eq_true rfl)⟩ hl.1 rfl rfl (Nat.le_of_ble_eq_true rfl) ⟨(Nat.le_of_ble_eq_true rfl), (Nat.le_of_ble_eq_true rfl)⟩ dX0_foldBranch_49) (fun σr49 H locs hw Wd => ?_)
      have hS_σr49 := Wd.2.1
      refine lv_aload_n C.1 C.2.1 dX0_foldBranch_52 rfl (lv_at hl 1 rfl) ?_
      refine lv_iload_n C.1 C.2.1 dX0_foldBranch_53 rfl (lv_at hl 2 rfl) ?_
      refine lv_iload_n C.1 C.2.1 dX0_foldBranch_54 rfl (lv_at hl 2 rfl) ?_
      refine lv_iconst (v := zI 4) C.1 C.2.1 dX0_foldBranch_55 (by decide) ?_
      refine k_iadd (v := zI (x1 + 4)) C (zI_iadd _ _) dX0_foldBranch_56 ?_
      obtain ⟨g57_8, hw⟩ := hw
      refine k_cKv Wd (k_runVK (rest := []) C aks Wd cs_X0_65 (mk_W_remove D ad ca rf σr49 Wd.2.1 Wd.2.2 x0 x1 (x1 + 4) g_x0 g_x1 g57_8 _ hw l _) (cxRow g_x0) rfl rfl rfl rfl ⟨(Nat.le_of_ble_eq_true rfl), (Nat.le_of_ble_eq_true rfl)⟩ hl.1 rfl rfl (Nat.le_of_ble_eq_true rfl) ⟨(Nat.le_of_ble_eq_true rfl), (Nat.le_of_ble_eq_true rfl)⟩ dX0_foldBranch_57) (fun σr57 H locs hw Wd => ?_)
      have hS_σr57 := Wd.2.1
      refine lv_goto (tgt := 82) C.1 C.2.1 dX0_foldBranch_60 (by decide) ?_
      exact k_retKv C hr hlk Wd hw dX0_foldBranch_82
  · have hw := hw.2 (z_eq g_r9 (show rng 115 from by decide) c14)
    refine lv_iload_n C.1 C.2.1 dX0_foldBranch_17 rfl (lv_at hl 3 rfl) ?_
    refine lv_if_ne (tgt := 30) C.1 C.2.1 dX0_foldBranch_18 (by decide) (fun c18 => ?_) (fun c18 => ?_)
    · have hw := hw.1 (z0_ne g_x2 c18)
      exact k_retKv C hr hlk Wd hw dX0_foldBranch_30
    · have hw := hw.2 (z0_eq g_x2 c18)
      refine lv_aload_n C.1 C.2.1 dX0_foldBranch_21 rfl (lv_at hl 1 rfl) ?_
      refine lv_iload_n C.1 C.2.1 dX0_foldBranch_22 rfl (lv_at hl 2 rfl) ?_
      refine lv_iload C.1 C.2.1 dX0_foldBranch_23 (lv_at hl 4 rfl) ?_
      refine lv_iconst (v := zI 1) C.1 C.2.1 dX0_foldBranch_25 (by decide) ?_
      refine k_iadd (v := zI (r2 + 1)) C (zI_iadd _ _) dX0_foldBranch_26 ?_
      obtain ⟨g27_9, hw⟩ := hw
      refine k_cKv Wd (k_runVK (rest := []) C aks Wd cs_X0_65 (mk_W_remove D ad ca rf σ Wd.2.1 Wd.2.2 x0 x1 (r2 + 1) g_x0 g_x1 g27_9 _ hw l _) (cxRow g_x0) rfl rfl rfl rfl ⟨(Nat.le_of_ble_eq_true rfl), (Nat.le_of_ble_eq_true rfl)⟩ hl.1 rfl rfl (Nat.le_of_ble_eq_true rfl) ⟨(Nat.le_of_ble_eq_true rfl), (Nat.le_of_ble_eq_true rfl)⟩ dX0_foldBranch_27) (fun σr27 H locs hw Wd => ?_)
      have hS_σr27 := Wd.2.1
      exact k_retKv C hr hlk Wd hw dX0_foldBranch_30
set_option maxHeartbeats 4000000 in
set_option maxRecDepth 100000 in
theorem mk_A_fold : ∀ (D : va_G) (ad : Nat → Nat) (ca : Nat → ClassId) (rf : Nat → Nat → Option Nat) (σ : Sg) (hS : rngK σ) (hRF : RFok ad rf) (x0 : Int) (g_x0 : 0 ≤ x0 ∧ x0 < 35) (K : Sg → Prop) (hw : wp5_A_fold σ x0 K) (l : Launch) (sz : Nat), Met l yX0_fold (Cond.code yX0_fold cX0_fold 4 none :: gG) { frames := 4, cells := 0, slots := 0, locals := 144 } (cPre D (tC ca) (wK ad ca rf σ) sz [.ref (ad 70), .ref (ad (rowC x0.toNat))]) (va_Qv (fun (u : Sg) => K u ∧ rngK u) (fun u t => cB D (va_A (wK ad ca rf σ) sz) [] (wK ad ca rf u) t) (va_A (wK ad ca rf σ) sz)) 0 0 (va_A (wK ad ca rf σ) sz) := by
  intro D ad ca rf σ hS hRF x0 g_x0 K hw l sz
  refine Met.ofW (cc := cX0_fold) (maxL := 4) (ret := none) (by decide) rfl ?_
  intro p e s m args below meth c s₁ B hml hv
  obtain ⟨rfl, aks, rfl, Wd⟩ := k_enter hv
  have C : CallFix p m c cX0_fold 4 s _ gG RX0 := ⟨B.exec, B.bytes, hml, findClass_of_methodNamed B.named, fun w h => atoms_spec (ws := Cond.code yX0_fold cX0_fold 4 none :: gG) B.pre w (List.mem_cons_of_mem _ h)⟩
  have hr := B.returns
  have hlk := B.notSynchronized
  generalize va_A (wK ad ca rf σ) s.heap.size = A at Wd ⊢
  replace Wd : wXK D ad ca rf s σ s.heap A s.heap [] := ⟨Wd, hS, hRF⟩
  refine k_locals (Nat.le_of_ble_eq_true rfl) [(0, .ref (ad 70)), (1, .ref (ad (rowC x0.toNat)))] rfl (fun ls hl => ?_)
  unfold wp5_A_fold at hw
  refine lv_aload_n C.1 C.2.1 dX0_fold_0 rfl (lv_at hl 0 rfl) ?_
  refine lv_aload_n C.1 C.2.1 dX0_fold_1 rfl (lv_at hl 1 rfl) ?_
  refine k_cKv Wd (k_runVK (rest := []) C aks Wd cs_X0_27 (mk_A_foldOperations D ad ca rf σ Wd.2.1 Wd.2.2 x0 g_x0 _ hw l _) (cx70 _) rfl rfl rfl rfl ⟨(Nat.le_of_ble_eq_true rfl), (Nat.le_of_ble_eq_true rfl)⟩ hl.1 rfl rfl (Nat.le_of_ble_eq_true rfl) ⟨(Nat.le_of_ble_eq_true rfl), (Nat.le_of_ble_eq_true rfl)⟩ dX0_fold_2) (fun σr2 H locs hw Wd => ?_)
  have hS_σr2 := Wd.2.1
  refine lv_aload_n C.1 C.2.1 dX0_fold_5 rfl (lv_at hl 1 rfl) ?_
  refine k_get (v := .int (zI (σr2.2.2.1 0 x0))) C Wd.1 KX8 _ 1 (cxRow g_x0) (by decide) fl_X0_31 rfl dX0_fold_6 ?_
  refine lv_iconst (v := zI 1) C.1 C.2.1 dX0_fold_9 (by decide) ?_
  refine k_isub (v := zI ((σr2.2.2.1 0 x0) - 1)) C (zI_isub _ _) dX0_fold_10 ?_
  refine lv_istore_n (lv' := [(2, .int (zI ((σr2.2.2.1 0 x0) - 1))), (0, .ref (ad 70)), (1, .ref (ad (rowC x0.toNat)))]) C.1 C.2.1 dX0_fold_11 rfl hl (by decide) rfl (fun ls hl => ?_)
  replace hl := lv_sub hl [1, 2, 0] rfl
  obtain ⟨g11_18, hw⟩ := hw
  refine k_lp2 hw (fun (l2_12 : Int) (σ12 : Sg) H locs ls => rng l2_12 ∧ wXK D ad ca rf s σ12 H A s.heap locs ∧ lv_has ls 4 [(0, .ref (ad 70)), (1, .ref (ad (rowC x0.toNat))), (2, .int (zI l2_12))]) (fun (l2_12 : Int) (σ12 : Sg) ls => F0 m 12 ls []) (fun L12 hL12 l2_12 σ12 hw H locs ls hi => ?_) _ _ _ ⟨g11_18, Wd, lv_sub hl [0, 1, 2] rfl⟩
  obtain ⟨g_l2_12, Wd, hl⟩ := hi
  have hS_σ12 := Wd.2.1
  unfold wp5_A_fold_12 at hw
  refine lv_iload_n C.1 C.2.1 dX0_fold_12 rfl (lv_at hl 2 rfl) ?_
  refine lv_if_lt (tgt := 99) C.1 C.2.1 dX0_fold_13 (by decide) (fun c13 => ?_) (fun c13 => ?_)
  · have hw := hw.1 (z0_lt g_l2_12 c13)
    exact k_retKv C hr hlk Wd hw dX0_fold_99
  · have hw := hw.2 (z0_nlt g_l2_12 c13)
    refine lv_aload_n C.1 C.2.1 dX0_fold_16 rfl (lv_at hl 1 rfl) ?_
    refine lv_iload_n C.1 C.2.1 dX0_fold_17 rfl (lv_at hl 2 rfl) ?_
    refine lv_iconst (v := zI 2) C.1 C.2.1 dX0_fold_18 (by decide) ?_
    refine k_iadd (v := zI (l2_12 + 2)) C (zI_iadd _ _) dX0_fold_19 ?_
    obtain ⟨g20_19, hw⟩ := hw
    refine k_pi (k_runVK (rest := []) C aks Wd cs_X0_35 (mk_W_cell D ad ca rf σ12 Wd.2.1 Wd.2.2 x0 (l2_12 + 2) g_x0 g20_19 _ hw l _) (cxRow g_x0) rfl rfl rfl rfl ⟨(Nat.le_of_ble_eq_true rfl), (Nat.le_of_ble_eq_true rfl)⟩ hl.1 rfl rfl (Nat.le_of_ble_eq_true rfl) ⟨(Nat.le_of_ble_eq_true rfl), (Nat.le_of_ble_eq_true rfl)⟩ dX0_fold_20) (fun y20 hy => ?_)
    obtain ⟨r20, rfl, g_r20, hw⟩ := hy
    refine k_pi (k_runS (rest := []) C aks Wd.1 cs_X0_39 (mk_W_isNumber D r20 g_r20 _ hw l _) [] rfl (by decide) [] rfl rfl rfl ⟨(Nat.le_of_ble_eq_true rfl), (Nat.le_of_ble_eq_true rfl)⟩ hl.1 rfl rfl (Nat.le_of_ble_eq_true rfl) ⟨(Nat.le_of_ble_eq_true rfl), (Nat.le_of_ble_eq_true rfl)⟩ dX0_fold_23) (fun y23 hy => ?_)
    obtain ⟨r23, rfl, g_r23, hw⟩ := hy
    refine k_cut1 (fun (s0_47 : Int) H locs ls => rng s0_47 ∧ wp5_A_fold_47 x0 l2_12 σ12 L12 s0_47 ∧ wXK D ad ca rf s σ12 H A s.heap locs ∧ lv_has ls 4 [(0, .ref (ad 70)), (1, .ref (ad (rowC x0.toNat))), (2, .int (zI l2_12))]) (fun (s0_47 : Int) ls => F0 m 47 ls [.int (zI s0_47)]) (fun s0_47 H locs ls hi => ?_) (fun J47 => ?_)
    · obtain ⟨g_s0_47, hw, Wd, hl⟩ := hi
      unfold wp5_A_fold_47 at hw
      refine lv_istore_n (lv' := [(3, .int (zI s0_47)), (0, .ref (ad 70)), (1, .ref (ad (rowC x0.toNat))), (2, .int (zI l2_12))]) C.1 C.2.1 dX0_fold_47 rfl hl (by decide) rfl (fun ls hl => ?_)
      replace hl := lv_sub hl [1, 2, 3, 0] rfl
      refine lv_aload_n C.1 C.2.1 dX0_fold_48 rfl (lv_at hl 1 rfl) ?_
      refine lv_iload_n C.1 C.2.1 dX0_fold_49 rfl (lv_at hl 2 rfl) ?_
      refine k_pi (k_runVK (rest := []) C aks Wd cs_X0_35 (mk_W_cell D ad ca rf σ12 Wd.2.1 Wd.2.2 x0 l2_12 g_x0 g_l2_12 _ hw l _) (cxRow g_x0) rfl rfl rfl rfl ⟨(Nat.le_of_ble_eq_true rfl), (Nat.le_of_ble_eq_true rfl)⟩ hl.1 rfl rfl (Nat.le_of_ble_eq_true rfl) ⟨(Nat.le_of_ble_eq_true rfl), (Nat.le_of_ble_eq_true rfl)⟩ dX0_fold_50) (fun y50 hy => ?_)
      obtain ⟨r50, rfl, g_r50, hw⟩ := hy
      refine k_pi (k_runS (rest := []) C aks Wd.1 cs_X0_43 (mk_W_isBranch D r50 g_r50 _ hw l _) [] rfl (by decide) [] rfl rfl rfl ⟨(Nat.le_of_ble_eq_true rfl), (Nat.le_of_ble_eq_true rfl)⟩ hl.1 rfl rfl (Nat.le_of_ble_eq_true rfl) ⟨(Nat.le_of_ble_eq_true rfl), (Nat.le_of_ble_eq_true rfl)⟩ dX0_fold_53) (fun y53 hy => ?_)
      obtain ⟨r53, rfl, g_r53, hw⟩ := hy
      refine lv_if_eq (tgt := 93) C.1 C.2.1 dX0_fold_56 (by decide) (fun c56 => ?_) (fun c56 => ?_)
      · have hw := hw.1 (z0_eq g_r53 c56)
        refine lv_iinc (v := zI (l2_12 - 1)) (lv' := [(2, .int (zI (l2_12 - 1))), (0, .ref (ad 70)), (1, .ref (ad (rowC x0.toNat))), (3, .int (zI s0_47))]) C.1 C.2.1 dX0_fold_93 hl (k := 2) rfl (zI_dec _ _ (by decide)) (by decide) rfl (fun ls hl => ?_)
        replace hl := lv_sub hl [1, 2, 0, 3] rfl
        refine lv_goto (tgt := 12) C.1 C.2.1 dX0_fold_96 (by decide) ?_
        obtain ⟨g96_20, hw⟩ := hw
        exact hL12 _ _ hw _ _ _ ⟨g96_20, Wd, lv_sub hl [0, 1, 2] rfl⟩
      · have hw := hw.2 (z0_ne g_r53 c56)
        refine lv_iload_n C.1 C.2.1 dX0_fold_59 rfl (lv_at hl 3 rfl) ?_
        refine lv_if_eq (tgt := 93) C.1 C.2.1 dX0_fold_60 (by decide) (fun c60 => ?_) (fun c60 => ?_)
        · have hw := hw.1 (z0_eq g_s0_47 c60)
          refine lv_iinc (v := zI (l2_12 - 1)) (lv' := [(2, .int (zI (l2_12 - 1))), (0, .ref (ad 70)), (1, .ref (ad (rowC x0.toNat))), (3, .int (zI s0_47))]) C.1 C.2.1 dX0_fold_93 hl (k := 2) rfl (zI_dec _ _ (by decide)) (by decide) rfl (fun ls hl => ?_)
          replace hl := lv_sub hl [1, 2, 0, 3] rfl
          refine lv_goto (tgt := 12) C.1 C.2.1 dX0_fold_96 (by decide) ?_
          obtain ⟨g96_21, hw⟩ := hw
          exact hL12 _ _ hw _ _ _ ⟨g96_21, Wd, lv_sub hl [0, 1, 2] rfl⟩
        · have hw := hw.2 (z0_ne g_s0_47 c60)
          refine lv_aload_n C.1 C.2.1 dX0_fold_63 rfl (lv_at hl 0 rfl) ?_
          refine lv_aload_n C.1 C.2.1 dX0_fold_64 rfl (lv_at hl 1 rfl) ?_
          refine lv_iload_n C.1 C.2.1 dX0_fold_65 rfl (lv_at hl 2 rfl) ?_
          refine lv_aload_n C.1 C.2.1 dX0_fold_66 rfl (lv_at hl 1 rfl) ?_
          refine lv_iload_n C.1 C.2.1 dX0_fold_67 rfl (lv_at hl 2 rfl) ?_
          refine lv_iconst (v := zI 1) C.1 C.2.1 dX0_fold_68 (by decide) ?_
          refine k_iadd (v := zI (l2_12 + 1)) C (zI_iadd _ _) dX0_fold_69 ?_
          obtain ⟨g70_22, hw⟩ := hw
          refine k_pi (k_runVK (rest := [.int (zI l2_12), .ref (ad (rowC x0.toNat)), .ref (ad 70)]) C aks Wd cs_X0_35 (mk_W_cell D ad ca rf σ12 Wd.2.1 Wd.2.2 x0 (l2_12 + 1) g_x0 g70_22 _ hw l _) (cxRow g_x0) rfl rfl rfl rfl ⟨(Nat.le_of_ble_eq_true rfl), (Nat.le_of_ble_eq_true rfl)⟩ hl.1 rfl rfl (Nat.le_of_ble_eq_true rfl) ⟨(Nat.le_of_ble_eq_true rfl), (Nat.le_of_ble_eq_true rfl)⟩ dX0_fold_70) (fun y70 hy => ?_)
          obtain ⟨r70, rfl, g_r70, hw⟩ := hy
          refine lv_aload_n C.1 C.2.1 dX0_fold_73 rfl (lv_at hl 1 rfl) ?_
          refine lv_iload_n C.1 C.2.1 dX0_fold_74 rfl (lv_at hl 2 rfl) ?_
          refine lv_iconst (v := zI 2) C.1 C.2.1 dX0_fold_75 (by decide) ?_
          refine k_iadd (v := zI (l2_12 + 2)) C (zI_iadd _ _) dX0_fold_76 ?_
          refine k_pi (k_runVK (rest := [.int (zI r70), .int (zI l2_12), .ref (ad (rowC x0.toNat)), .ref (ad 70)]) C aks Wd cs_X0_35 (mk_W_cell D ad ca rf σ12 Wd.2.1 Wd.2.2 x0 (l2_12 + 2) g_x0 g20_19 _ hw l _) (cxRow g_x0) rfl rfl rfl rfl ⟨(Nat.le_of_ble_eq_true rfl), (Nat.le_of_ble_eq_true rfl)⟩ hl.1 rfl rfl (Nat.le_of_ble_eq_true rfl) ⟨(Nat.le_of_ble_eq_true rfl), (Nat.le_of_ble_eq_true rfl)⟩ dX0_fold_77) (fun y77 hy => ?_)
          obtain ⟨r77, rfl, g_r77, hw⟩ := hy
          refine lv_aload_n C.1 C.2.1 dX0_fold_80 rfl (lv_at hl 1 rfl) ?_
          refine lv_iload_n C.1 C.2.1 dX0_fold_81 rfl (lv_at hl 2 rfl) ?_
          refine lv_iconst (v := zI 3) C.1 C.2.1 dX0_fold_82 (by decide) ?_
          refine k_iadd (v := zI (l2_12 + 3)) C (zI_iadd _ _) dX0_fold_83 ?_
          obtain ⟨g84_23, hw⟩ := hw
          refine k_pi (k_runVK (rest := [.int (zI r77), .int (zI r70), .int (zI l2_12), .ref (ad (rowC x0.toNat)), .ref (ad 70)]) C aks Wd cs_X0_35 (mk_W_cell D ad ca rf σ12 Wd.2.1 Wd.2.2 x0 (l2_12 + 3) g_x0 g84_23 _ hw l _) (cxRow g_x0) rfl rfl rfl rfl ⟨(Nat.le_of_ble_eq_true rfl), (Nat.le_of_ble_eq_true rfl)⟩ hl.1 rfl rfl (Nat.le_of_ble_eq_true rfl) ⟨(Nat.le_of_ble_eq_true rfl), (Nat.le_of_ble_eq_true rfl)⟩ dX0_fold_84) (fun y84 hy => ?_)
          obtain ⟨r84, rfl, g_r84, hw⟩ := hy
          refine k_pi (k_runS (rest := [.int (zI l2_12), .ref (ad (rowC x0.toNat)), .ref (ad 70)]) C aks Wd.1 cs_X0_46 (mk_W_holds D r70 r77 r84 g_r70 g_r77 g_r84 _ hw l _) [] rfl (by decide) [] rfl rfl rfl ⟨(Nat.le_of_ble_eq_true rfl), (Nat.le_of_ble_eq_true rfl)⟩ hl.1 rfl rfl (Nat.le_of_ble_eq_true rfl) ⟨(Nat.le_of_ble_eq_true rfl), (Nat.le_of_ble_eq_true rfl)⟩ dX0_fold_87) (fun y87 hy => ?_)
          obtain ⟨r87, rfl, g_r87, hw⟩ := hy
          refine k_cKv Wd (k_runVK (rest := []) C aks Wd cs_X0_50 (mk_A_foldBranch D ad ca rf σ12 Wd.2.1 Wd.2.2 x0 l2_12 r87 g_x0 g_l2_12 g_r87 _ hw l _) (cx70 _) rfl rfl rfl rfl ⟨(Nat.le_of_ble_eq_true rfl), (Nat.le_of_ble_eq_true rfl)⟩ hl.1 rfl rfl (Nat.le_of_ble_eq_true rfl) ⟨(Nat.le_of_ble_eq_true rfl), (Nat.le_of_ble_eq_true rfl)⟩ dX0_fold_90) (fun σr90 H locs hw Wd => ?_)
          have hS_σr90 := Wd.2.1
          refine lv_iinc (v := zI (l2_12 - 1)) (lv' := [(2, .int (zI (l2_12 - 1))), (0, .ref (ad 70)), (1, .ref (ad (rowC x0.toNat))), (3, .int (zI s0_47))]) C.1 C.2.1 dX0_fold_93 hl (k := 2) rfl (zI_dec _ _ (by decide)) (by decide) rfl (fun ls hl => ?_)
          replace hl := lv_sub hl [1, 2, 0, 3] rfl
          refine lv_goto (tgt := 12) C.1 C.2.1 dX0_fold_96 (by decide) ?_
          obtain ⟨g96_24, hw⟩ := hw
          exact hL12 _ _ hw _ _ _ ⟨g96_24, Wd, lv_sub hl [0, 1, 2] rfl⟩
    refine k_cut0 (fun H locs ls => wp5_A_fold_46 x0 l2_12 σ12 L12 ∧ wXK D ad ca rf s σ12 H A s.heap locs ∧ lv_has ls 4 [(0, .ref (ad 70)), (1, .ref (ad (rowC x0.toNat))), (2, .int (zI l2_12))]) (fun  ls => F0 m 46 ls []) (fun  H locs ls hi => ?_) (fun J46 => ?_)
    · obtain ⟨hw, Wd, hl⟩ := hi
      unfold wp5_A_fold_46 at hw
      refine lv_iconst (v := zI 0) C.1 C.2.1 dX0_fold_46 (by decide) ?_
      exact J47 0 _ _ _ ⟨(show rng 0 from by decide), hw, Wd, lv_sub hl [0, 1, 2] rfl⟩
    refine lv_if_eq (tgt := 46) C.1 C.2.1 dX0_fold_26 (by decide) (fun c26 => ?_) (fun c26 => ?_)
    · have hw := hw.1 (z0_eq g_r23 c26)
      exact J46  _ _ _ ⟨hw, Wd, lv_sub hl [0, 1, 2] rfl⟩
    · have hw := hw.2 (z0_ne g_r23 c26)
      refine lv_aload_n C.1 C.2.1 dX0_fold_29 rfl (lv_at hl 1 rfl) ?_
      refine lv_iload_n C.1 C.2.1 dX0_fold_30 rfl (lv_at hl 2 rfl) ?_
      refine lv_iconst (v := zI 3) C.1 C.2.1 dX0_fold_31 (by decide) ?_
      refine k_iadd (v := zI (l2_12 + 3)) C (zI_iadd _ _) dX0_fold_32 ?_
      obtain ⟨g33_25, hw⟩ := hw
      refine k_pi (k_runVK (rest := []) C aks Wd cs_X0_35 (mk_W_cell D ad ca rf σ12 Wd.2.1 Wd.2.2 x0 (l2_12 + 3) g_x0 g33_25 _ hw l _) (cxRow g_x0) rfl rfl rfl rfl ⟨(Nat.le_of_ble_eq_true rfl), (Nat.le_of_ble_eq_true rfl)⟩ hl.1 rfl rfl (Nat.le_of_ble_eq_true rfl) ⟨(Nat.le_of_ble_eq_true rfl), (Nat.le_of_ble_eq_true rfl)⟩ dX0_fold_33) (fun y33 hy => ?_)
      obtain ⟨r33, rfl, g_r33, hw⟩ := hy
      refine k_pi (k_runS (rest := []) C aks Wd.1 cs_X0_39 (mk_W_isNumber D r33 g_r33 _ hw l _) [] rfl (by decide) [] rfl rfl rfl ⟨(Nat.le_of_ble_eq_true rfl), (Nat.le_of_ble_eq_true rfl)⟩ hl.1 rfl rfl (Nat.le_of_ble_eq_true rfl) ⟨(Nat.le_of_ble_eq_true rfl), (Nat.le_of_ble_eq_true rfl)⟩ dX0_fold_36) (fun y36 hy => ?_)
      obtain ⟨r36, rfl, g_r36, hw⟩ := hy
      refine lv_if_eq (tgt := 46) C.1 C.2.1 dX0_fold_39 (by decide) (fun c39 => ?_) (fun c39 => ?_)
      · have hw := hw.1 (z0_eq g_r36 c39)
        exact J46  _ _ _ ⟨hw, Wd, lv_sub hl [0, 1, 2] rfl⟩
      · have hw := hw.2 (z0_ne g_r36 c39)
        refine lv_iconst (v := zI 1) C.1 C.2.1 dX0_fold_42 (by decide) ?_
        refine lv_goto (tgt := 47) C.1 C.2.1 dX0_fold_43 (by decide) ?_
        exact J47 1 _ _ _ ⟨(show rng 1 from by decide), hw, Wd, lv_sub hl [0, 1, 2] rfl⟩
set_option maxHeartbeats 4000000 in
set_option maxRecDepth 100000 in
theorem mk_F_begin_71 : ∀ (D : va_G) (ad : Nat → Nat) (ca : Nat → ClassId) (rf : Nat → Nat → Option Nat) (σ : Sg) (hS : rngK σ) (hRF : RFok ad rf) (x0 : Int) (x1 : Int) (g_x0 : rng x0) (g_x1 : rng x1) (K : Sg → Prop) (hw : wp5_F_begin σ 71 x0 x1 K) (l : Launch) (sz : Nat), Met l yX1_begin (Cond.code yX1_begin cX1_begin 3 none :: gG) { frames := 2, cells := 0, slots := 0, locals := 84 } (cPre D (tC ca) (wK ad ca rf σ) sz [.ref (ad 71), .int (zI x0), .int (zI x1)]) (va_Qv (fun (u : Sg) => K u ∧ rngK u) (fun u t => cB D (va_A (wK ad ca rf σ) sz) [] (wK ad ca rf u) t) (va_A (wK ad ca rf σ) sz)) 0 0 (va_A (wK ad ca rf σ) sz) := by
  intro D ad ca rf σ hS hRF x0 x1 g_x0 g_x1 K hw l sz
  refine Met.ofW (cc := cX1_begin) (maxL := 3) (ret := none) (by decide) rfl ?_
  intro p e s m args below meth c s₁ B hml hv
  obtain ⟨rfl, aks, rfl, Wd⟩ := k_enter hv
  have C : CallFix p m c cX1_begin 3 s _ gG RX1 := ⟨B.exec, B.bytes, hml, findClass_of_methodNamed B.named, fun w h => atoms_spec (ws := Cond.code yX1_begin cX1_begin 3 none :: gG) B.pre w (List.mem_cons_of_mem _ h)⟩
  have hr := B.returns
  have hlk := B.notSynchronized
  generalize va_A (wK ad ca rf σ) s.heap.size = A at Wd ⊢
  replace Wd : wXK D ad ca rf s σ s.heap A s.heap [] := ⟨Wd, hS, hRF⟩
  refine k_locals (Nat.le_of_ble_eq_true rfl) [(0, .ref (ad 71)), (1, .int (zI x0)), (2, .int (zI x1))] rfl (fun ls hl => ?_)
  unfold wp5_F_begin at hw
  refine lv_aload_n C.1 C.2.1 dX1_begin_0 rfl (lv_at hl 0 rfl) ?_
  refine k_get (v := .int (zI (σ.1 71 1))) C Wd.1 KX1 _ 1 (cx71 _) (by decide) fl_X1_57 rfl dX1_begin_1 ?_
  refine lv_bipush (v := zI 40) C.1 C.2.1 dX1_begin_4 (by decide) ?_
  refine lv_icmp_lt (tgt := 10) C.1 C.2.1 dX1_begin_6 (by decide) (fun c6 => ?_) (fun c6 => ?_)
  · have hw := hw.1 (z_lt (hS.1 71 1) (show rng 40 from by decide) c6)
    refine lv_aload_n C.1 C.2.1 dX1_begin_10 rfl (lv_at hl 0 rfl) ?_
    refine k_get (v := .ref (ad 72)) C Wd.1 KX1 _ 2 (cx71 _) (by decide) fl_X1_20 rfl dX1_begin_11 ?_
    refine lv_aload_n C.1 C.2.1 dX1_begin_14 rfl (lv_at hl 0 rfl) ?_
    refine k_get (v := .int (zI (σ.1 71 1))) C Wd.1 KX1 _ 1 (cx71 _) (by decide) fl_X1_57 rfl dX1_begin_15 ?_
    refine lv_iload_n C.1 C.2.1 dX1_begin_18 rfl (lv_at hl 1 rfl) ?_
    obtain ⟨n19_0, hw⟩ := hw
    refine k_iastF (g := (σ.2.1 72)) (i := (σ.1 71 1)) (v := x0) C Wd 72 (by decide) (cx72 _) (fun f => cx72a _ f) (tC_at (by decide) rfl) n19_0 (by decide) (ruZ (fun j => Wd.2.1.2.1 72 j) g_x0) dX1_begin_19 (fun H locs Wd => ?_)
    refine lv_aload_n C.1 C.2.1 dX1_begin_20 rfl (lv_at hl 0 rfl) ?_
    refine k_get (v := .ref (ad 73)) C Wd.1 KX1 _ 3 (cx71 _) (by decide) fl_X1_24 rfl dX1_begin_21 ?_
    refine lv_aload_n C.1 C.2.1 dX1_begin_24 rfl (lv_at hl 0 rfl) ?_
    refine k_get (v := .int (zI (σ.1 71 1))) C Wd.1 KX1 _ 1 (cx71 _) (by decide) fl_X1_57 rfl dX1_begin_25 ?_
    refine lv_iload_n C.1 C.2.1 dX1_begin_28 rfl (lv_at hl 2 rfl) ?_
    refine k_iastF (g := (σ.2.1 73)) (i := (σ.1 71 1)) (v := x1) C Wd 73 (by decide) (cx73 _) (fun f => cx73a _ f) (tC_at (by decide) rfl) n19_0 (by decide) (ruZ (fun j => Wd.2.1.2.1 73 j) g_x1) dX1_begin_29 (fun H locs Wd => ?_)
    refine lv_aload_n C.1 C.2.1 dX1_begin_30 rfl (lv_at hl 0 rfl) ?_
    refine k_get (v := .ref (ad 79)) C Wd.1 KX1 _ 9 (cx71 _) (by decide) fl_X1_42 rfl dX1_begin_31 ?_
    refine lv_aload_n C.1 C.2.1 dX1_begin_34 rfl (lv_at hl 0 rfl) ?_
    refine k_get (v := .int (zI (σ.1 71 1))) C Wd.1 KX1 _ 1 (cx71 _) (by decide) fl_X1_57 rfl dX1_begin_35 ?_
    refine lv_iload_n C.1 C.2.1 dX1_begin_38 rfl (lv_at hl 2 rfl) ?_
    refine k_pi (k_runS (rest := [.int (zI (σ.1 71 1)), .ref (ad 79)]) C aks Wd.1 cs_X1_100 (mk_W_isSet D x1 g_x1 _ hw l _) [] rfl (by decide) [] rfl rfl rfl ⟨(Nat.le_of_ble_eq_true rfl), (Nat.le_of_ble_eq_true rfl)⟩ hl.1 rfl rfl (Nat.le_of_ble_eq_true rfl) ⟨(Nat.le_of_ble_eq_true rfl), (Nat.le_of_ble_eq_true rfl)⟩ dX1_begin_39) (fun y39 hy => ?_)
    obtain ⟨r39, rfl, g_r39, hw⟩ := hy
    refine k_cut1 (fun (s0_55 : Int) H locs ls => rng s0_55 ∧ wp5_F_begin_55 K σ 71 x0 x1 s0_55 ∧ wXK D ad ca rf s (pF (pF σ 72 (uZ (σ.2.1 72) (σ.1 71 1) x0)) 73 (uZ (σ.2.1 73) (σ.1 71 1) x1)) H A s.heap locs ∧ lv_has ls 3 [(0, .ref (ad 71)), (1, .int (zI x0)), (2, .int (zI x1))]) (fun (s0_55 : Int) ls => F0 m 55 ls [.int (zI s0_55), .int (zI (σ.1 71 1)), .ref (ad 79)]) (fun s0_55 H locs ls hi => ?_) (fun J55 => ?_)
    · obtain ⟨g_s0_55, hw, Wd, hl⟩ := hi
      unfold wp5_F_begin_55 at hw
      refine k_iastF (g := (σ.2.1 79)) (i := (σ.1 71 1)) (v := s0_55) C Wd 79 (by decide) (cx79 _) (fun f => cx79a _ f) (tC_at (by decide) rfl) n19_0 (by decide) (ruZ (fun j => Wd.2.1.2.1 79 j) g_s0_55) dX1_begin_55 (fun H locs Wd => ?_)
      refine lv_aload_n C.1 C.2.1 dX1_begin_56 rfl (lv_at hl 0 rfl) ?_
      refine k_get (v := .ref (ad 74)) C Wd.1 KX1 _ 4 (cx71 _) (by decide) fl_X1_27 rfl dX1_begin_57 ?_
      refine lv_aload_n C.1 C.2.1 dX1_begin_60 rfl (lv_at hl 0 rfl) ?_
      refine k_get (v := .int (zI (σ.1 71 1))) C Wd.1 KX1 _ 1 (cx71 _) (by decide) fl_X1_57 rfl dX1_begin_61 ?_
      refine lv_iload_n C.1 C.2.1 dX1_begin_64 rfl (lv_at hl 2 rfl) ?_
      refine k_pi (k_runS (rest := [.int (zI (σ.1 71 1)), .ref (ad 74)]) C aks Wd.1 cs_X1_87 (mk_W_isBranch D x1 g_x1 _ hw l _) [] rfl (by decide) [] rfl rfl rfl ⟨(Nat.le_of_ble_eq_true rfl), (Nat.le_of_ble_eq_true rfl)⟩ hl.1 rfl rfl (Nat.le_of_ble_eq_true rfl) ⟨(Nat.le_of_ble_eq_true rfl), (Nat.le_of_ble_eq_true rfl)⟩ dX1_begin_65) (fun y65 hy => ?_)
      obtain ⟨r65, rfl, g_r65, hw⟩ := hy
      refine k_cut1 (fun (s0_80 : Int) H locs ls => rng s0_80 ∧ wp5_F_begin_80 K σ 71 x0 x1 s0_55 s0_80 ∧ wXK D ad ca rf s (pF (pF (pF σ 72 (uZ (σ.2.1 72) (σ.1 71 1) x0)) 73 (uZ (σ.2.1 73) (σ.1 71 1) x1)) 79 (uZ (σ.2.1 79) (σ.1 71 1) s0_55)) H A s.heap locs ∧ lv_has ls 3 [(0, .ref (ad 71))]) (fun (s0_80 : Int) ls => F0 m 80 ls [.int (zI s0_80), .int (zI (σ.1 71 1)), .ref (ad 74)]) (fun s0_80 H locs ls hi => ?_) (fun J80 => ?_)
      · obtain ⟨g_s0_80, hw, Wd, hl⟩ := hi
        unfold wp5_F_begin_80 at hw
        refine k_iastF (g := (σ.2.1 74)) (i := (σ.1 71 1)) (v := s0_80) C Wd 74 (by decide) (cx74 _) (fun f => cx74a _ f) (tC_at (by decide) rfl) n19_0 (by decide) (ruZ (fun j => Wd.2.1.2.1 74 j) g_s0_80) dX1_begin_80 (fun H locs Wd => ?_)
        refine lv_aload_n C.1 C.2.1 dX1_begin_81 rfl (lv_at hl 0 rfl) ?_
        refine k_get (v := .ref (ad 75)) C Wd.1 KX1 _ 5 (cx71 _) (by decide) fl_X1_30 rfl dX1_begin_82 ?_
        refine lv_aload_n C.1 C.2.1 dX1_begin_85 rfl (lv_at hl 0 rfl) ?_
        refine k_get (v := .int (zI (σ.1 71 1))) C Wd.1 KX1 _ 1 (cx71 _) (by decide) fl_X1_57 rfl dX1_begin_86 ?_
        refine lv_aload_n C.1 C.2.1 dX1_begin_89 rfl (lv_at hl 0 rfl) ?_
        refine k_get (v := .ref (ad 74)) C Wd.1 KX1 _ 4 (cx71 _) (by decide) fl_X1_27 rfl dX1_begin_90 ?_
        refine lv_aload_n C.1 C.2.1 dX1_begin_93 rfl (lv_at hl 0 rfl) ?_
        refine k_get (v := .int (zI (σ.1 71 1))) C Wd.1 KX1 _ 1 (cx71 _) (by decide) fl_X1_57 rfl dX1_begin_94 ?_
        refine k_ialdK (g := (uZ (σ.2.1 74) (σ.1 71 1) s0_80)) C Wd (cx74 _) (tC_at (by decide) rfl) n19_0 (by decide) dX1_begin_97 ?_
        have ga97 : rng ((uZ (σ.2.1 74) (σ.1 71 1) s0_80) (σ.1 71 1)) := rngL (fun j => (Wd.2.1).2.1 74 j) n19_0
        refine k_iastF (g := (σ.2.1 75)) (i := (σ.1 71 1)) (v := ((uZ (σ.2.1 74) (σ.1 71 1) s0_80) (σ.1 71 1))) C Wd 75 (by decide) (cx75 _) (fun f => cx75a _ f) (tC_at (by decide) rfl) n19_0 (by decide) (ruZ (fun j => Wd.2.1.2.1 75 j) ga97) dX1_begin_98 (fun H locs Wd => ?_)
        refine lv_aload_n C.1 C.2.1 dX1_begin_99 rfl (lv_at hl 0 rfl) ?_
        refine k_get (v := .ref (ad 78)) C Wd.1 KX1 _ 8 (cx71 _) (by decide) fl_X1_39 rfl dX1_begin_100 ?_
        refine lv_aload_n C.1 C.2.1 dX1_begin_103 rfl (lv_at hl 0 rfl) ?_
        refine k_get (v := .int (zI (σ.1 71 1))) C Wd.1 KX1 _ 1 (cx71 _) (by decide) fl_X1_57 rfl dX1_begin_104 ?_
        refine lv_iconst (v := zI 0) C.1 C.2.1 dX1_begin_107 (by decide) ?_
        refine k_iastF (g := (σ.2.1 78)) (i := (σ.1 71 1)) (v := 0) C Wd 78 (by decide) (cx78 _) (fun f => cx78a _ f) (tC_at (by decide) rfl) n19_0 (by decide) (ruZ (fun j => Wd.2.1.2.1 78 j) (show rng 0 from by decide)) dX1_begin_108 (fun H locs Wd => ?_)
        refine lv_aload_n C.1 C.2.1 dX1_begin_109 rfl (lv_at hl 0 rfl) ?_
        refine k_get (v := .ref (ad 76)) C Wd.1 KX1 _ 6 (cx71 _) (by decide) fl_X1_33 rfl dX1_begin_110 ?_
        refine lv_aload_n C.1 C.2.1 dX1_begin_113 rfl (lv_at hl 0 rfl) ?_
        refine k_get (v := .int (zI (σ.1 71 1))) C Wd.1 KX1 _ 1 (cx71 _) (by decide) fl_X1_57 rfl dX1_begin_114 ?_
        refine lv_iconst (v := zI (-1)) C.1 C.2.1 dX1_begin_117 (by decide) ?_
        refine k_iastF (g := (σ.2.1 76)) (i := (σ.1 71 1)) (v := (-1)) C Wd 76 (by decide) (cx76 _) (fun f => cx76a _ f) (tC_at (by decide) rfl) n19_0 (by decide) (ruZ (fun j => Wd.2.1.2.1 76 j) (show rng (-1) from by decide)) dX1_begin_118 (fun H locs Wd => ?_)
        refine lv_aload_n C.1 C.2.1 dX1_begin_119 rfl (lv_at hl 0 rfl) ?_
        refine k_get (v := .ref (ad 77)) C Wd.1 KX1 _ 7 (cx71 _) (by decide) fl_X1_36 rfl dX1_begin_120 ?_
        refine lv_aload_n C.1 C.2.1 dX1_begin_123 rfl (lv_at hl 0 rfl) ?_
        refine k_get (v := .int (zI (σ.1 71 1))) C Wd.1 KX1 _ 1 (cx71 _) (by decide) fl_X1_57 rfl dX1_begin_124 ?_
        refine lv_iconst (v := zI (-1)) C.1 C.2.1 dX1_begin_127 (by decide) ?_
        refine k_iastF (g := (σ.2.1 77)) (i := (σ.1 71 1)) (v := (-1)) C Wd 77 (by decide) (cx77 _) (fun f => cx77a _ f) (tC_at (by decide) rfl) n19_0 (by decide) (ruZ (fun j => Wd.2.1.2.1 77 j) (show rng (-1) from by decide)) dX1_begin_128 (fun H locs Wd => ?_)
        refine lv_aload_n C.1 C.2.1 dX1_begin_129 rfl (lv_at hl 0 rfl) ?_
        refine lv_dup C.1 C.2.1 dX1_begin_130 rfl ?_
        refine k_get (v := .int (zI (σ.1 71 1))) C Wd.1 KX1 _ 1 (cx71 _) (by decide) fl_X1_57 rfl dX1_begin_131 ?_
        refine lv_iconst (v := zI 1) C.1 C.2.1 dX1_begin_134 (by decide) ?_
        refine k_iadd (v := zI ((σ.1 71 1) + 1)) C (zI_iadd _ _) dX1_begin_135 ?_
        obtain ⟨g136_3, hw⟩ := hw
        refine k_putK (v := ((σ.1 71 1) + 1)) C Wd KX1 71 1 (by decide) (cx71 _) rfl (by decide) fl_X1_57 rfl rfl rfl (Nat.le_of_ble_eq_true rfl) g136_3 dX1_begin_136 (fun H locs Wd => ?_)
        exact k_retKv C hr hlk Wd hw dX1_begin_139
      refine lv_if_eq (tgt := 77) C.1 C.2.1 dX1_begin_68 (by decide) (fun c68 => ?_) (fun c68 => ?_)
      · have hw := hw.1 (z0_eq g_r65 c68)
        refine lv_iload_n C.1 C.2.1 dX1_begin_77 rfl (lv_at hl 1 rfl) ?_
        refine lv_iconst (v := zI 1) C.1 C.2.1 dX1_begin_78 (by decide) ?_
        refine k_iadd (v := zI (x0 + 1)) C (zI_iadd _ _) dX1_begin_79 ?_
        obtain ⟨g79_4, hw⟩ := hw
        exact J80 (x0 + 1) _ _ _ ⟨g79_4, hw, Wd, lv_sub hl [0] rfl⟩
      · have hw := hw.2 (z0_ne g_r65 c68)
        refine lv_iload_n C.1 C.2.1 dX1_begin_71 rfl (lv_at hl 1 rfl) ?_
        refine lv_iconst (v := zI 2) C.1 C.2.1 dX1_begin_72 (by decide) ?_
        refine k_iadd (v := zI (x0 + 2)) C (zI_iadd _ _) dX1_begin_73 ?_
        refine lv_goto (tgt := 80) C.1 C.2.1 dX1_begin_74 (by decide) ?_
        obtain ⟨g74_5, hw⟩ := hw
        exact J80 (x0 + 2) _ _ _ ⟨g74_5, hw, Wd, lv_sub hl [0] rfl⟩
    refine lv_if_eq (tgt := 54) C.1 C.2.1 dX1_begin_42 (by decide) (fun c42 => ?_) (fun c42 => ?_)
    · have hw := hw.1 (z0_eq g_r39 c42)
      refine lv_iconst (v := zI 0) C.1 C.2.1 dX1_begin_54 (by decide) ?_
      exact J55 0 _ _ _ ⟨(show rng 0 from by decide), hw, Wd, lv_sub hl [0, 1, 2] rfl⟩
    · have hw := hw.2 (z0_ne g_r39 c42)
      refine lv_iconst (v := zI 1) C.1 C.2.1 dX1_begin_45 (by decide) ?_
      refine lv_iload_n C.1 C.2.1 dX1_begin_46 rfl (lv_at hl 2 rfl) ?_
      refine lv_bipush (v := zI 100) C.1 C.2.1 dX1_begin_47 (by decide) ?_
      refine k_isub (v := zI (x1 - 100)) C (zI_isub _ _) dX1_begin_49 ?_
      refine k_ishl (v := zI (zishl 1 (x1 - 100))) C (zishl_eq _ _) dX1_begin_50 ?_
      refine lv_goto (tgt := 55) C.1 C.2.1 dX1_begin_51 (by decide) ?_
      exact J55 (zishl 1 (x1 - 100)) _ _ _ ⟨(rng_toInt _), hw, Wd, lv_sub hl [0, 1, 2] rfl⟩
  · have hw := hw.2 (z_nlt (hS.1 71 1) (show rng 40 from by decide) c6)
    exact k_retKv C hr hlk Wd hw dX1_begin_9
set_option maxHeartbeats 4000000 in
set_option maxRecDepth 100000 in
theorem mk_F_isHere_71 : ∀ (D : va_G) (ad : Nat → Nat) (ca : Nat → ClassId) (rf : Nat → Nat → Option Nat) (σ : Sg) (hS : rngK σ) (hRF : RFok ad rf) (x0 : Int) (g_x0 : rng x0) (K : Int → Prop) (hw : wp5_F_isHere σ 71 x0 K) (l : Launch) (sz : Nat), Met l yX1_isHere (Cond.code yX1_isHere cX1_isHere 2 (some .boolean) :: gG) { frames := 1, cells := 0, slots := 0, locals := 64 } (cPre D (tC ca) (wK ad ca rf σ) sz [.ref (ad 71), .int (zI x0)]) (vp_Si (fun r => ∃ x : Int, r = zI x ∧ rng x ∧ K x)) 0 0 (fun _ => False) := by
  intro D ad ca rf σ hS hRF x0 g_x0 K hw l sz
  refine Met.ofW (cc := cX1_isHere) (maxL := 2) (ret := (some .boolean)) (by decide) rfl ?_
  intro p e s m args below meth c s₁ B hml hv
  obtain ⟨rfl, aks, rfl, Wd⟩ := k_enter hv
  have C : CallFix p m c cX1_isHere 2 s _ gG RX1 := ⟨B.exec, B.bytes, hml, findClass_of_methodNamed B.named, fun w h => atoms_spec (ws := Cond.code yX1_isHere cX1_isHere 2 (some .boolean) :: gG) B.pre w (List.mem_cons_of_mem _ h)⟩
  have hr := B.returns
  have hlk := B.notSynchronized
  obtain ⟨A, Wd⟩ : ∃ A, wXK D ad ca rf s σ s.heap A s.heap [] := ⟨_, Wd, hS, hRF⟩
  refine k_locals (Nat.le_of_ble_eq_true rfl) [(0, .ref (ad 71)), (1, .int (zI x0))] rfl (fun ls hl => ?_)
  unfold wp5_F_isHere at hw
  refine lv_iload_n C.1 C.2.1 dX1_isHere_0 rfl (lv_at hl 1 rfl) ?_
  refine lv_if_lt (tgt := 22) C.1 C.2.1 dX1_isHere_1 (by decide) (fun c1 => ?_) (fun c1 => ?_)
  · have hw := hw.1 (z0_lt g_x0 c1)
    refine lv_iconst (v := zI 0) C.1 C.2.1 dX1_isHere_22 (by decide) ?_
    exact k_zretP C hr hlk (by decide) ⟨_, rfl, (show rng 0 from by decide), hw⟩ dX1_isHere_23
  · have hw := hw.2 (z0_nlt g_x0 c1)
    refine lv_iload_n C.1 C.2.1 dX1_isHere_4 rfl (lv_at hl 1 rfl) ?_
    refine lv_aload_n C.1 C.2.1 dX1_isHere_5 rfl (lv_at hl 0 rfl) ?_
    refine k_get (v := .int (zI (σ.1 71 1))) C Wd.1 KX1 _ 1 (cx71 _) (by decide) fl_X1_57 rfl dX1_isHere_6 ?_
    refine lv_icmp_ge (tgt := 22) C.1 C.2.1 dX1_isHere_9 (by decide) (fun c9 => ?_) (fun c9 => ?_)
    · have hw := hw.1 (z_le (hS.1 71 1) g_x0 c9)
      refine lv_iconst (v := zI 0) C.1 C.2.1 dX1_isHere_22 (by decide) ?_
      exact k_zretP C hr hlk (by decide) ⟨_, rfl, (show rng 0 from by decide), hw⟩ dX1_isHere_23
    · have hw := hw.2 (z_nle (hS.1 71 1) g_x0 c9)
      refine lv_iload_n C.1 C.2.1 dX1_isHere_12 rfl (lv_at hl 1 rfl) ?_
      refine lv_bipush (v := zI 40) C.1 C.2.1 dX1_isHere_13 (by decide) ?_
      refine lv_icmp_ge (tgt := 22) C.1 C.2.1 dX1_isHere_15 (by decide) (fun c15 => ?_) (fun c15 => ?_)
      · have hw := hw.1 (z_le (show rng 40 from by decide) g_x0 c15)
        refine lv_iconst (v := zI 0) C.1 C.2.1 dX1_isHere_22 (by decide) ?_
        exact k_zretP C hr hlk (by decide) ⟨_, rfl, (show rng 0 from by decide), hw⟩ dX1_isHere_23
      · have hw := hw.2 (z_nle (show rng 40 from by decide) g_x0 c15)
        refine lv_iconst (v := zI 1) C.1 C.2.1 dX1_isHere_18 (by decide) ?_
        refine lv_goto (tgt := 23) C.1 C.2.1 dX1_isHere_19 (by decide) ?_
        exact k_zretP C hr hlk (by decide) ⟨_, rfl, (show rng 1 from by decide), hw⟩ dX1_isHere_23
set_option maxHeartbeats 4000000 in
set_option maxRecDepth 100000 in
theorem mk_F_number_71 : ∀ (D : va_G) (ad : Nat → Nat) (ca : Nat → ClassId) (rf : Nat → Nat → Option Nat) (σ : Sg) (hS : rngK σ) (hRF : RFok ad rf) (K : Sg → Prop) (hw : wp5_F_number σ 71 K) (l : Launch) (sz : Nat), Met l yX1_number (Cond.code yX1_number cX1_number 4 none :: gG) { frames := 3, cells := 0, slots := 0, locals := 106 } (cPre D (tC ca) (wK ad ca rf σ) sz [.ref (ad 71)]) (va_Qv (fun (u : Sg) => K u ∧ rngK u) (fun u t => cB D (va_A (wK ad ca rf σ) sz) [] (wK ad ca rf u) t) (va_A (wK ad ca rf σ) sz)) 0 0 (va_A (wK ad ca rf σ) sz) := by
  intro D ad ca rf σ hS hRF  K hw l sz
  refine Met.ofW (cc := cX1_number) (maxL := 4) (ret := none) (by decide) rfl ?_
  intro p e s m args below meth c s₁ B hml hv
  obtain ⟨rfl, aks, rfl, Wd⟩ := k_enter hv
  have C : CallFix p m c cX1_number 4 s _ gG RX1 := ⟨B.exec, B.bytes, hml, findClass_of_methodNamed B.named, fun w h => atoms_spec (ws := Cond.code yX1_number cX1_number 4 none :: gG) B.pre w (List.mem_cons_of_mem _ h)⟩
  have hr := B.returns
  have hlk := B.notSynchronized
  generalize va_A (wK ad ca rf σ) s.heap.size = A at Wd ⊢
  replace Wd : wXK D ad ca rf s σ s.heap A s.heap [] := ⟨Wd, hS, hRF⟩
  refine k_locals (Nat.le_of_ble_eq_true rfl) [(0, .ref (ad 71))] rfl (fun ls hl => ?_)
  unfold wp5_F_number at hw
  refine lv_iconst (v := zI 0) C.1 C.2.1 dX1_number_0 (by decide) ?_
  refine lv_istore_n (lv' := [(1, .int (zI 0)), (0, .ref (ad 71))]) C.1 C.2.1 dX1_number_1 rfl hl (by decide) rfl (fun ls hl => ?_)
  replace hl := lv_sub hl [1, 0] rfl
  refine lv_aload_n C.1 C.2.1 dX1_number_2 rfl (lv_at hl 0 rfl) ?_
  refine lv_iconst (v := zI 0) C.1 C.2.1 dX1_number_3 (by decide) ?_
  refine k_putK (v := 0) C Wd KX1 71 1 (by decide) (cx71 _) rfl (by decide) fl_X1_57 rfl rfl rfl (Nat.le_of_ble_eq_true rfl) (show rng 0 from by decide) dX1_number_4 (fun H locs Wd => ?_)
  refine lv_iconst (v := zI 0) C.1 C.2.1 dX1_number_7 (by decide) ?_
  refine lv_istore_n (lv' := [(2, .int (zI 0)), (0, .ref (ad 71)), (1, .int (zI 0))]) C.1 C.2.1 dX1_number_8 rfl hl (by decide) rfl (fun ls hl => ?_)
  replace hl := lv_sub hl [1, 2, 0] rfl
  refine k_lp3 hw (fun (l1_9 : Int) (l2_9 : Int) (σ9 : Sg) H locs ls => rng l1_9 ∧ rng l2_9 ∧ wXK D ad ca rf s σ9 H A s.heap locs ∧ lv_has ls 4 [(0, .ref (ad 71)), (1, .int (zI l1_9)), (2, .int (zI l2_9))]) (fun (l1_9 : Int) (l2_9 : Int) (σ9 : Sg) ls => F0 m 9 ls []) (fun L9 hL9 l1_9 l2_9 σ9 hw H locs ls hi => ?_) _ _ _ ⟨(show rng 0 from by decide), (show rng 0 from by decide), Wd, lv_sub hl [0, 1, 2] rfl⟩
  obtain ⟨g_l1_9, g_l2_9, Wd, hl⟩ := hi
  have hS_σ9 := Wd.2.1
  unfold wp5_F_number_9 at hw
  refine lv_iload_n C.1 C.2.1 dX1_number_9 rfl (lv_at hl 2 rfl) ?_
  refine lv_aload_n C.1 C.2.1 dX1_number_10 rfl (lv_at hl 0 rfl) ?_
  obtain ⟨n11_0, hw⟩ := hw
  refine k_get (v := .ref (ad (rowC (σ9.1 71 0).toNat))) C Wd.1 KX1 _ 0 (cx71 _) (by decide) fl_X1_14 (congrArg some (rvW_ref n11_0)) dX1_number_11 ?_
  refine k_get (v := .int (zI (σ9.2.2.1 0 (σ9.1 71 0)))) C Wd.1 KX8 _ 1 (cxRow n11_0) (by decide) fl_X1_78 rfl dX1_number_14 ?_
  refine lv_icmp_ge (tgt := 235) C.1 C.2.1 dX1_number_17 (by decide) (fun c17 => ?_) (fun c17 => ?_)
  · have hw := hw.1 (z_le (rgY hS_σ9 (N := 35) n11_0) g_l2_9 c17)
    exact k_retKv C hr hlk Wd hw dX1_number_235
  · have hw := hw.2 (z_nle (rgY hS_σ9 (N := 35) n11_0) g_l2_9 c17)
    refine lv_iload_n C.1 C.2.1 dX1_number_20 rfl (lv_at hl 2 rfl) ?_
    refine lv_aload_n C.1 C.2.1 dX1_number_21 rfl (lv_at hl 0 rfl) ?_
    refine k_get (v := .ref (ad 83)) C Wd.1 KX1 _ 13 (cx71 _) (by decide) fl_X1_54 rfl dX1_number_22 ?_
    refine k_alen (v := zI 480) C Wd.1 83 83 (cx83 _) (tC_at (by decide) rfl) rfl dX1_number_25 ?_
    refine lv_icmp_ge (tgt := 235) C.1 C.2.1 dX1_number_26 (by decide) (fun c26 => ?_) (fun c26 => ?_)
    · have hw := hw.1 (z_le (show rng 480 from by decide) g_l2_9 c26)
      exact k_retKv C hr hlk Wd hw dX1_number_235
    · have hw := hw.2 (z_nle (show rng 480 from by decide) g_l2_9 c26)
      refine lv_aload_n C.1 C.2.1 dX1_number_29 rfl (lv_at hl 0 rfl) ?_
      refine k_get (v := .ref (ad (rowC (σ9.1 71 0).toNat))) C Wd.1 KX1 _ 0 (cx71 _) (by decide) fl_X1_14 (congrArg some (rvW_ref n11_0)) dX1_number_30 ?_
      refine lv_iload_n C.1 C.2.1 dX1_number_33 rfl (lv_at hl 2 rfl) ?_
      refine k_pi (k_runVK (rest := []) C aks Wd cs_X1_81 (mk_W_cell D ad ca rf σ9 Wd.2.1 Wd.2.2 (σ9.1 71 0) l2_9 n11_0 g_l2_9 _ hw l _) (cxRow n11_0) rfl rfl rfl rfl ⟨(Nat.le_of_ble_eq_true rfl), (Nat.le_of_ble_eq_true rfl)⟩ hl.1 rfl rfl (Nat.le_of_ble_eq_true rfl) ⟨(Nat.le_of_ble_eq_true rfl), (Nat.le_of_ble_eq_true rfl)⟩ dX1_number_34) (fun y34 hy => ?_)
      obtain ⟨r34, rfl, g_r34, hw⟩ := hy
      refine lv_istore_n (lv' := [(3, .int (zI r34)), (0, .ref (ad 71)), (1, .int (zI l1_9)), (2, .int (zI l2_9))]) C.1 C.2.1 dX1_number_37 rfl hl (by decide) rfl (fun ls hl => ?_)
      replace hl := lv_sub hl [1, 2, 3, 0] rfl
      refine lv_aload_n C.1 C.2.1 dX1_number_38 rfl (lv_at hl 0 rfl) ?_
      refine k_get (v := .ref (ad 83)) C Wd.1 KX1 _ 13 (cx71 _) (by decide) fl_X1_54 rfl dX1_number_39 ?_
      refine lv_iload_n C.1 C.2.1 dX1_number_42 rfl (lv_at hl 2 rfl) ?_
      refine lv_iconst (v := zI (-1)) C.1 C.2.1 dX1_number_43 (by decide) ?_
      obtain ⟨n44_0, hw⟩ := hw
      refine k_iastF (g := (σ9.2.1 83)) (i := l2_9) (v := (-1)) C Wd 83 (by decide) (cx83 _) (fun f => cx83a _ f) (tC_at (by decide) rfl) n44_0 (by decide) (ruZ (fun j => Wd.2.1.2.1 83 j) (show rng (-1) from by decide)) dX1_number_44 (fun H locs Wd => ?_)
      refine lv_iload_n C.1 C.2.1 dX1_number_45 rfl (lv_at hl 3 rfl) ?_
      refine k_pi (k_runS (rest := []) C aks Wd.1 cs_X1_84 (mk_W_isStatement D r34 g_r34 _ hw l _) [] rfl (by decide) [] rfl rfl rfl ⟨(Nat.le_of_ble_eq_true rfl), (Nat.le_of_ble_eq_true rfl)⟩ hl.1 rfl rfl (Nat.le_of_ble_eq_true rfl) ⟨(Nat.le_of_ble_eq_true rfl), (Nat.le_of_ble_eq_true rfl)⟩ dX1_number_46) (fun y46 hy => ?_)
      obtain ⟨r46, rfl, g_r46, hw⟩ := hy
      refine k_cut0 (fun H locs ls => wp5_F_number_109 71 l1_9 l2_9 r34 σ9 L9 ∧ wXK D ad ca rf s (pF σ9 83 (uZ (σ9.2.1 83) l2_9 (-1))) H A s.heap locs ∧ lv_has ls 4 [(0, .ref (ad 71)), (1, .int (zI l1_9)), (2, .int (zI l2_9)), (3, .int (zI r34))]) (fun  ls => F0 m 109 ls []) (fun  H locs ls hi => ?_) (fun J109 => ?_)
      · obtain ⟨hw, Wd, hl⟩ := hi
        unfold wp5_F_number_109 at hw
        refine lv_iload_n C.1 C.2.1 dX1_number_109 rfl (lv_at hl 3 rfl) ?_
        refine lv_bipush (v := zI 113) C.1 C.2.1 dX1_number_110 (by decide) ?_
        refine k_cut0 (fun H locs ls => wp5_F_number_136 71 l1_9 l2_9 r34 σ9 L9 ∧ wXK D ad ca rf s (pF σ9 83 (uZ (σ9.2.1 83) l2_9 (-1))) H A s.heap locs ∧ lv_has ls 4 [(0, .ref (ad 71)), (1, .int (zI l1_9)), (2, .int (zI l2_9)), (3, .int (zI r34))]) (fun  ls => F0 m 136 ls []) (fun  H locs ls hi => ?_) (fun J136 => ?_)
        · obtain ⟨hw, Wd, hl⟩ := hi
          unfold wp5_F_number_136 at hw
          refine lv_iload_n C.1 C.2.1 dX1_number_136 rfl (lv_at hl 3 rfl) ?_
          refine lv_bipush (v := zI 114) C.1 C.2.1 dX1_number_137 (by decide) ?_
          refine k_cut0 (fun H locs ls => wp5_F_number_164 71 l1_9 l2_9 r34 σ9 L9 ∧ wXK D ad ca rf s (pF σ9 83 (uZ (σ9.2.1 83) l2_9 (-1))) H A s.heap locs ∧ lv_has ls 4 [(0, .ref (ad 71)), (1, .int (zI l1_9)), (2, .int (zI l2_9)), (3, .int (zI r34))]) (fun  ls => F0 m 164 ls []) (fun  H locs ls hi => ?_) (fun J164 => ?_)
          · obtain ⟨hw, Wd, hl⟩ := hi
            unfold wp5_F_number_164 at hw
            refine lv_iload_n C.1 C.2.1 dX1_number_164 rfl (lv_at hl 3 rfl) ?_
            refine k_pi (k_runS (rest := []) C aks Wd.1 cs_X1_94 (mk_W_isExpression D r34 g_r34 _ hw l _) [] rfl (by decide) [] rfl rfl rfl ⟨(Nat.le_of_ble_eq_true rfl), (Nat.le_of_ble_eq_true rfl)⟩ hl.1 rfl rfl (Nat.le_of_ble_eq_true rfl) ⟨(Nat.le_of_ble_eq_true rfl), (Nat.le_of_ble_eq_true rfl)⟩ dX1_number_165) (fun y165 hy => ?_)
            obtain ⟨r165, rfl, g_r165, hw⟩ := hy
            refine lv_if_eq (tgt := 229) C.1 C.2.1 dX1_number_168 (by decide) (fun c168 => ?_) (fun c168 => ?_)
            · have hw := hw.1 (z0_eq g_r165 c168)
              refine lv_iinc (v := zI (l2_9 + 1)) (lv' := [(2, .int (zI (l2_9 + 1))), (0, .ref (ad 71)), (1, .int (zI l1_9)), (3, .int (zI r34))]) C.1 C.2.1 dX1_number_229 hl (k := 2) rfl (zI_inc _ _ (by decide)) (by decide) rfl (fun ls hl => ?_)
              replace hl := lv_sub hl [1, 2, 0, 3] rfl
              refine lv_goto (tgt := 9) C.1 C.2.1 dX1_number_232 (by decide) ?_
              obtain ⟨g232_13, hw⟩ := hw
              exact hL9 _ _ _ hw _ _ _ ⟨g_l1_9, g232_13, Wd, lv_sub hl [0, 1, 2] rfl⟩
            · have hw := hw.2 (z0_ne g_r165 c168)
              refine lv_aload_n C.1 C.2.1 dX1_number_171 rfl (lv_at hl 0 rfl) ?_
              refine lv_aload_n C.1 C.2.1 dX1_number_172 rfl (lv_at hl 0 rfl) ?_
              refine k_get (v := .int (zI (σ9.1 71 1))) C Wd.1 KX1 _ 1 (cx71 _) (by decide) fl_X1_57 rfl dX1_number_173 ?_
              refine lv_iconst (v := zI 1) C.1 C.2.1 dX1_number_176 (by decide) ?_
              refine k_isub (v := zI ((σ9.1 71 1) - 1)) C (zI_isub _ _) dX1_number_177 ?_
              obtain ⟨g178_14, hw⟩ := hw
              refine k_pi (k_runVK (rest := []) C aks Wd cs_X1_70 (mk_F_isHere_71 D ad ca rf (pF σ9 83 (uZ (σ9.2.1 83) l2_9 (-1))) Wd.2.1 Wd.2.2 ((σ9.1 71 1) - 1) g178_14 _ hw l _) (cx71 _) rfl rfl rfl rfl ⟨(Nat.le_of_ble_eq_true rfl), (Nat.le_of_ble_eq_true rfl)⟩ hl.1 rfl rfl (Nat.le_of_ble_eq_true rfl) ⟨(Nat.le_of_ble_eq_true rfl), (Nat.le_of_ble_eq_true rfl)⟩ dX1_number_178) (fun y178 hy => ?_)
              obtain ⟨r178, rfl, g_r178, hw⟩ := hy
              refine lv_if_eq (tgt := 229) C.1 C.2.1 dX1_number_181 (by decide) (fun c181 => ?_) (fun c181 => ?_)
              · have hw := hw.1 (z0_eq g_r178 c181)
                refine lv_iinc (v := zI (l2_9 + 1)) (lv' := [(2, .int (zI (l2_9 + 1))), (0, .ref (ad 71)), (1, .int (zI l1_9)), (3, .int (zI r34))]) C.1 C.2.1 dX1_number_229 hl (k := 2) rfl (zI_inc _ _ (by decide)) (by decide) rfl (fun ls hl => ?_)
                replace hl := lv_sub hl [1, 2, 0, 3] rfl
                refine lv_goto (tgt := 9) C.1 C.2.1 dX1_number_232 (by decide) ?_
                obtain ⟨g232_15, hw⟩ := hw
                exact hL9 _ _ _ hw _ _ _ ⟨g_l1_9, g232_15, Wd, lv_sub hl [0, 1, 2] rfl⟩
              · have hw := hw.2 (z0_ne g_r178 c181)
                refine lv_aload_n C.1 C.2.1 dX1_number_184 rfl (lv_at hl 0 rfl) ?_
                refine k_get (v := .ref (ad 75)) C Wd.1 KX1 _ 5 (cx71 _) (by decide) fl_X1_30 rfl dX1_number_185 ?_
                refine lv_aload_n C.1 C.2.1 dX1_number_188 rfl (lv_at hl 0 rfl) ?_
                refine k_get (v := .int (zI (σ9.1 71 1))) C Wd.1 KX1 _ 1 (cx71 _) (by decide) fl_X1_57 rfl dX1_number_189 ?_
                refine lv_iconst (v := zI 1) C.1 C.2.1 dX1_number_192 (by decide) ?_
                refine k_isub (v := zI ((σ9.1 71 1) - 1)) C (zI_isub _ _) dX1_number_193 ?_
                refine lv_iload_n C.1 C.2.1 dX1_number_194 rfl (lv_at hl 2 rfl) ?_
                refine lv_iconst (v := zI 1) C.1 C.2.1 dX1_number_195 (by decide) ?_
                refine k_iadd (v := zI (l2_9 + 1)) C (zI_iadd _ _) dX1_number_196 ?_
                obtain ⟨g197_16, hw⟩ := hw
                obtain ⟨n197_1, hw⟩ := hw
                refine k_iastF (g := (σ9.2.1 75)) (i := ((σ9.1 71 1) - 1)) (v := (l2_9 + 1)) C Wd 75 (by decide) (cx75 _) (fun f => cx75a _ f) (tC_at (by decide) rfl) n197_1 (by decide) (ruZ (fun j => Wd.2.1.2.1 75 j) g197_16) dX1_number_197 (fun H locs Wd => ?_)
                refine lv_aload_n C.1 C.2.1 dX1_number_198 rfl (lv_at hl 0 rfl) ?_
                refine k_get (v := .ref (ad 78)) C Wd.1 KX1 _ 8 (cx71 _) (by decide) fl_X1_39 rfl dX1_number_199 ?_
                refine lv_aload_n C.1 C.2.1 dX1_number_202 rfl (lv_at hl 0 rfl) ?_
                refine k_get (v := .int (zI (σ9.1 71 1))) C Wd.1 KX1 _ 1 (cx71 _) (by decide) fl_X1_57 rfl dX1_number_203 ?_
                refine lv_iconst (v := zI 1) C.1 C.2.1 dX1_number_206 (by decide) ?_
                refine k_isub (v := zI ((σ9.1 71 1) - 1)) C (zI_isub _ _) dX1_number_207 ?_
                refine lv_dup2_11 C.1 C.2.1 dX1_number_208 rfl rfl ?_
                refine k_ialdK (g := (σ9.2.1 78)) C Wd (cx78 _) (tC_at (by decide) rfl) n197_1 (by decide) dX1_number_209 ?_
                have ga209 : rng (σ9.2.1 78 ((σ9.1 71 1) - 1)) := rngL (fun j => (Wd.2.1).2.1 78 j) n197_1
                refine lv_iload_n C.1 C.2.1 dX1_number_210 rfl (lv_at hl 3 rfl) ?_
                refine k_pi (k_runS (rest := [.int (zI (σ9.2.1 78 ((σ9.1 71 1) - 1))), .int (zI ((σ9.1 71 1) - 1)), .ref (ad 78)]) C aks Wd.1 cs_X1_97 (mk_W_isRead D r34 g_r34 _ hw l _) [] rfl (by decide) [] rfl rfl rfl ⟨(Nat.le_of_ble_eq_true rfl), (Nat.le_of_ble_eq_true rfl)⟩ hl.1 rfl rfl (Nat.le_of_ble_eq_true rfl) ⟨(Nat.le_of_ble_eq_true rfl), (Nat.le_of_ble_eq_true rfl)⟩ dX1_number_211) (fun y211 hy => ?_)
                obtain ⟨r211, rfl, g_r211, hw⟩ := hy
                refine lv_if_eq (tgt := 226) C.1 C.2.1 dX1_number_214 (by decide) (fun c214 => ?_) (fun c214 => ?_)
                · have hw := hw.1 (z0_eq g_r211 c214)
                  refine lv_iconst (v := zI 0) C.1 C.2.1 dX1_number_226 (by decide) ?_
                  refine k_ior (v := zI (zior (σ9.2.1 78 ((σ9.1 71 1) - 1)) 0)) C (zior_eq _ _) dX1_number_227 ?_
                  refine k_iastF (g := (σ9.2.1 78)) (i := ((σ9.1 71 1) - 1)) (v := (zior (σ9.2.1 78 ((σ9.1 71 1) - 1)) 0)) C Wd 78 (by decide) (cx78 _) (fun f => cx78a _ f) (tC_at (by decide) rfl) n197_1 (by decide) (ruZ (fun j => Wd.2.1.2.1 78 j) (rng_toInt _)) dX1_number_228 (fun H locs Wd => ?_)
                  refine lv_iinc (v := zI (l2_9 + 1)) (lv' := [(2, .int (zI (l2_9 + 1))), (0, .ref (ad 71)), (1, .int (zI l1_9)), (3, .int (zI r34))]) C.1 C.2.1 dX1_number_229 hl (k := 2) rfl (zI_inc _ _ (by decide)) (by decide) rfl (fun ls hl => ?_)
                  replace hl := lv_sub hl [1, 2, 0, 3] rfl
                  refine lv_goto (tgt := 9) C.1 C.2.1 dX1_number_232 (by decide) ?_
                  exact hL9 _ _ _ hw _ _ _ ⟨g_l1_9, g197_16, Wd, lv_sub hl [0, 1, 2] rfl⟩
                · have hw := hw.2 (z0_ne g_r211 c214)
                  refine lv_iconst (v := zI 1) C.1 C.2.1 dX1_number_217 (by decide) ?_
                  refine lv_iload_n C.1 C.2.1 dX1_number_218 rfl (lv_at hl 3 rfl) ?_
                  refine lv_bipush (v := zI 20) C.1 C.2.1 dX1_number_219 (by decide) ?_
                  refine k_isub (v := zI (r34 - 20)) C (zI_isub _ _) dX1_number_221 ?_
                  refine k_ishl (v := zI (zishl 1 (r34 - 20))) C (zishl_eq _ _) dX1_number_222 ?_
                  refine lv_goto (tgt := 227) C.1 C.2.1 dX1_number_223 (by decide) ?_
                  refine k_ior (v := zI (zior (σ9.2.1 78 ((σ9.1 71 1) - 1)) (zishl 1 (r34 - 20)))) C (zior_eq _ _) dX1_number_227 ?_
                  refine k_iastF (g := (σ9.2.1 78)) (i := ((σ9.1 71 1) - 1)) (v := (zior (σ9.2.1 78 ((σ9.1 71 1) - 1)) (zishl 1 (r34 - 20)))) C Wd 78 (by decide) (cx78 _) (fun f => cx78a _ f) (tC_at (by decide) rfl) n197_1 (by decide) (ruZ (fun j => Wd.2.1.2.1 78 j) (rng_toInt _)) dX1_number_228 (fun H locs Wd => ?_)
                  refine lv_iinc (v := zI (l2_9 + 1)) (lv' := [(2, .int (zI (l2_9 + 1))), (0, .ref (ad 71)), (1, .int (zI l1_9)), (3, .int (zI r34))]) C.1 C.2.1 dX1_number_229 hl (k := 2) rfl (zI_inc _ _ (by decide)) (by decide) rfl (fun ls hl => ?_)
                  replace hl := lv_sub hl [1, 2, 0, 3] rfl
                  refine lv_goto (tgt := 9) C.1 C.2.1 dX1_number_232 (by decide) ?_
                  exact hL9 _ _ _ hw _ _ _ ⟨g_l1_9, g197_16, Wd, lv_sub hl [0, 1, 2] rfl⟩
          refine lv_icmp_ne (tgt := 164) C.1 C.2.1 dX1_number_139 (by decide) (fun c139 => ?_) (fun c139 => ?_)
          · have hw := hw.1 (z_ne g_r34 (show rng 114 from by decide) c139)
            exact J164  _ _ _ ⟨hw, Wd, lv_sub hl [0, 1, 2, 3] rfl⟩
          · have hw := hw.2 (z_eq g_r34 (show rng 114 from by decide) c139)
            refine lv_iload_n C.1 C.2.1 dX1_number_142 rfl (lv_at hl 1 rfl) ?_
            refine lv_if_le (tgt := 164) C.1 C.2.1 dX1_number_143 (by decide) (fun c143 => ?_) (fun c143 => ?_)
            · have hw := hw.1 (z0_le g_l1_9 c143)
              exact J164  _ _ _ ⟨hw, Wd, lv_sub hl [0, 1, 2, 3] rfl⟩
            · have hw := hw.2 (z0_nle g_l1_9 c143)
              refine lv_iinc (v := zI (l1_9 - 1)) (lv' := [(1, .int (zI (l1_9 - 1))), (0, .ref (ad 71)), (2, .int (zI l2_9)), (3, .int (zI r34))]) C.1 C.2.1 dX1_number_146 hl (k := 1) rfl (zI_dec _ _ (by decide)) (by decide) rfl (fun ls hl => ?_)
              replace hl := lv_sub hl [1, 0, 2, 3] rfl
              refine lv_aload_n C.1 C.2.1 dX1_number_149 rfl (lv_at hl 0 rfl) ?_
              refine k_get (v := .ref (ad 83)) C Wd.1 KX1 _ 13 (cx71 _) (by decide) fl_X1_54 rfl dX1_number_150 ?_
              refine lv_iload_n C.1 C.2.1 dX1_number_153 rfl (lv_at hl 2 rfl) ?_
              refine lv_aload_n C.1 C.2.1 dX1_number_154 rfl (lv_at hl 0 rfl) ?_
              refine k_get (v := .ref (ad 82)) C Wd.1 KX1 _ 12 (cx71 _) (by decide) fl_X1_51 rfl dX1_number_155 ?_
              refine lv_iload_n C.1 C.2.1 dX1_number_158 rfl (lv_at hl 1 rfl) ?_
              obtain ⟨n159_0, hw⟩ := hw
              refine k_ialdK (g := (σ9.2.1 82)) C Wd (cx82 _) (tC_at (by decide) rfl) n159_0 (by decide) dX1_number_159 ?_
              have ga159 : rng (σ9.2.1 82 (l1_9 - 1)) := rngL (fun j => (Wd.2.1).2.1 82 j) n159_0
              refine k_iastF (g := (uZ (σ9.2.1 83) l2_9 (-1))) (i := l2_9) (v := (σ9.2.1 82 (l1_9 - 1))) C Wd 83 (by decide) (cx83 _) (fun f => cx83a _ f) (tC_at (by decide) rfl) n44_0 (by decide) (ruZ (fun j => Wd.2.1.2.1 83 j) ga159) dX1_number_160 (fun H locs Wd => ?_)
              refine lv_goto (tgt := 229) C.1 C.2.1 dX1_number_161 (by decide) ?_
              refine lv_iinc (v := zI (l2_9 + 1)) (lv' := [(2, .int (zI (l2_9 + 1))), (0, .ref (ad 71)), (1, .int (zI (l1_9 - 1))), (3, .int (zI r34))]) C.1 C.2.1 dX1_number_229 hl (k := 2) rfl (zI_inc _ _ (by decide)) (by decide) rfl (fun ls hl => ?_)
              replace hl := lv_sub hl [1, 2, 0, 3] rfl
              refine lv_goto (tgt := 9) C.1 C.2.1 dX1_number_232 (by decide) ?_
              obtain ⟨g232_17, hw⟩ := hw
              obtain ⟨g232_18, hw⟩ := hw
              exact hL9 _ _ _ hw _ _ _ ⟨g232_17, g232_18, Wd, lv_sub hl [0, 1, 2] rfl⟩
        refine lv_icmp_ne (tgt := 136) C.1 C.2.1 dX1_number_112 (by decide) (fun c112 => ?_) (fun c112 => ?_)
        · have hw := hw.1 (z_ne g_r34 (show rng 113 from by decide) c112)
          exact J136  _ _ _ ⟨hw, Wd, lv_sub hl [0, 1, 2, 3] rfl⟩
        · have hw := hw.2 (z_eq g_r34 (show rng 113 from by decide) c112)
          refine lv_iload_n C.1 C.2.1 dX1_number_115 rfl (lv_at hl 1 rfl) ?_
          refine lv_if_le (tgt := 136) C.1 C.2.1 dX1_number_116 (by decide) (fun c116 => ?_) (fun c116 => ?_)
          · have hw := hw.1 (z0_le g_l1_9 c116)
            exact J136  _ _ _ ⟨hw, Wd, lv_sub hl [0, 1, 2, 3] rfl⟩
          · have hw := hw.2 (z0_nle g_l1_9 c116)
            refine lv_aload_n C.1 C.2.1 dX1_number_119 rfl (lv_at hl 0 rfl) ?_
            refine k_get (v := .ref (ad 83)) C Wd.1 KX1 _ 13 (cx71 _) (by decide) fl_X1_54 rfl dX1_number_120 ?_
            refine lv_iload_n C.1 C.2.1 dX1_number_123 rfl (lv_at hl 2 rfl) ?_
            refine lv_aload_n C.1 C.2.1 dX1_number_124 rfl (lv_at hl 0 rfl) ?_
            refine k_get (v := .ref (ad 82)) C Wd.1 KX1 _ 12 (cx71 _) (by decide) fl_X1_51 rfl dX1_number_125 ?_
            refine lv_iload_n C.1 C.2.1 dX1_number_128 rfl (lv_at hl 1 rfl) ?_
            refine lv_iconst (v := zI 1) C.1 C.2.1 dX1_number_129 (by decide) ?_
            refine k_isub (v := zI (l1_9 - 1)) C (zI_isub _ _) dX1_number_130 ?_
            obtain ⟨n131_0, hw⟩ := hw
            refine k_ialdK (g := (σ9.2.1 82)) C Wd (cx82 _) (tC_at (by decide) rfl) n131_0 (by decide) dX1_number_131 ?_
            have ga131 : rng (σ9.2.1 82 (l1_9 - 1)) := rngL (fun j => (Wd.2.1).2.1 82 j) n131_0
            refine k_iastF (g := (uZ (σ9.2.1 83) l2_9 (-1))) (i := l2_9) (v := (σ9.2.1 82 (l1_9 - 1))) C Wd 83 (by decide) (cx83 _) (fun f => cx83a _ f) (tC_at (by decide) rfl) n44_0 (by decide) (ruZ (fun j => Wd.2.1.2.1 83 j) ga131) dX1_number_132 (fun H locs Wd => ?_)
            refine lv_goto (tgt := 229) C.1 C.2.1 dX1_number_133 (by decide) ?_
            refine lv_iinc (v := zI (l2_9 + 1)) (lv' := [(2, .int (zI (l2_9 + 1))), (0, .ref (ad 71)), (1, .int (zI l1_9)), (3, .int (zI r34))]) C.1 C.2.1 dX1_number_229 hl (k := 2) rfl (zI_inc _ _ (by decide)) (by decide) rfl (fun ls hl => ?_)
            replace hl := lv_sub hl [1, 2, 0, 3] rfl
            refine lv_goto (tgt := 9) C.1 C.2.1 dX1_number_232 (by decide) ?_
            obtain ⟨g232_19, hw⟩ := hw
            exact hL9 _ _ _ hw _ _ _ ⟨g_l1_9, g232_19, Wd, lv_sub hl [0, 1, 2] rfl⟩
      refine lv_if_eq (tgt := 109) C.1 C.2.1 dX1_number_49 (by decide) (fun c49 => ?_) (fun c49 => ?_)
      · have hw := hw.1 (z0_eq g_r46 c49)
        exact J109  _ _ _ ⟨hw, Wd, lv_sub hl [0, 1, 2, 3] rfl⟩
      · have hw := hw.2 (z0_ne g_r46 c49)
        refine lv_aload_n C.1 C.2.1 dX1_number_52 rfl (lv_at hl 0 rfl) ?_
        refine k_get (v := .int (zI (σ9.1 71 1))) C Wd.1 KX1 _ 1 (cx71 _) (by decide) fl_X1_57 rfl dX1_number_53 ?_
        refine lv_bipush (v := zI 40) C.1 C.2.1 dX1_number_56 (by decide) ?_
        refine lv_icmp_ge (tgt := 109) C.1 C.2.1 dX1_number_58 (by decide) (fun c58 => ?_) (fun c58 => ?_)
        · have hw := hw.1 (z_le (show rng 40 from by decide) (hS_σ9.1 71 1) c58)
          exact J109  _ _ _ ⟨hw, Wd, lv_sub hl [0, 1, 2, 3] rfl⟩
        · have hw := hw.2 (z_nle (show rng 40 from by decide) (hS_σ9.1 71 1) c58)
          refine lv_aload_n C.1 C.2.1 dX1_number_61 rfl (lv_at hl 0 rfl) ?_
          refine k_get (v := .ref (ad 83)) C Wd.1 KX1 _ 13 (cx71 _) (by decide) fl_X1_54 rfl dX1_number_62 ?_
          refine lv_iload_n C.1 C.2.1 dX1_number_65 rfl (lv_at hl 2 rfl) ?_
          refine lv_aload_n C.1 C.2.1 dX1_number_66 rfl (lv_at hl 0 rfl) ?_
          refine k_get (v := .int (zI (σ9.1 71 1))) C Wd.1 KX1 _ 1 (cx71 _) (by decide) fl_X1_57 rfl dX1_number_67 ?_
          refine k_iastF (g := (uZ (σ9.2.1 83) l2_9 (-1))) (i := l2_9) (v := (σ9.1 71 1)) C Wd 83 (by decide) (cx83 _) (fun f => cx83a _ f) (tC_at (by decide) rfl) n44_0 (by decide) (ruZ (fun j => Wd.2.1.2.1 83 j) (hS_σ9.1 71 1)) dX1_number_70 (fun H locs Wd => ?_)
          refine lv_iload_n C.1 C.2.1 dX1_number_71 rfl (lv_at hl 3 rfl) ?_
          refine k_pi (k_runS (rest := []) C aks Wd.1 cs_X1_87 (mk_W_isBranch D r34 g_r34 _ hw l _) [] rfl (by decide) [] rfl rfl rfl ⟨(Nat.le_of_ble_eq_true rfl), (Nat.le_of_ble_eq_true rfl)⟩ hl.1 rfl rfl (Nat.le_of_ble_eq_true rfl) ⟨(Nat.le_of_ble_eq_true rfl), (Nat.le_of_ble_eq_true rfl)⟩ dX1_number_72) (fun y72 hy => ?_)
          obtain ⟨r72, rfl, g_r72, hw⟩ := hy
          refine k_cut2 (fun (l1_100 : Int) (σ100 : Sg) H locs ls => rng l1_100 ∧ wp5_F_number_100 71 l2_9 r34 L9 l1_100 σ100 ∧ wXK D ad ca rf s σ100 H A s.heap locs ∧ lv_has ls 4 [(0, .ref (ad 71)), (1, .int (zI l1_100)), (2, .int (zI l2_9)), (3, .int (zI r34))]) (fun (l1_100 : Int) (σ100 : Sg) ls => F0 m 100 ls []) (fun l1_100 σ100 H locs ls hi => ?_) (fun J100 => ?_)
          · obtain ⟨g_l1_100, hw, Wd, hl⟩ := hi
            have hS_σ100 := Wd.2.1
            unfold wp5_F_number_100 at hw
            refine lv_aload_n C.1 C.2.1 dX1_number_100 rfl (lv_at hl 0 rfl) ?_
            refine lv_iload_n C.1 C.2.1 dX1_number_101 rfl (lv_at hl 2 rfl) ?_
            refine lv_iload_n C.1 C.2.1 dX1_number_102 rfl (lv_at hl 3 rfl) ?_
            refine k_cKv Wd (k_runVK (rest := []) C aks Wd cs_X1_90 (mk_F_begin_71 D ad ca rf σ100 Wd.2.1 Wd.2.2 l2_9 r34 g_l2_9 g_r34 _ hw l _) (cx71 _) rfl rfl rfl rfl ⟨(Nat.le_of_ble_eq_true rfl), (Nat.le_of_ble_eq_true rfl)⟩ hl.1 rfl rfl (Nat.le_of_ble_eq_true rfl) ⟨(Nat.le_of_ble_eq_true rfl), (Nat.le_of_ble_eq_true rfl)⟩ dX1_number_103) (fun σr103 H locs hw Wd => ?_)
            have hS_σr103 := Wd.2.1
            refine lv_goto (tgt := 229) C.1 C.2.1 dX1_number_106 (by decide) ?_
            refine lv_iinc (v := zI (l2_9 + 1)) (lv' := [(2, .int (zI (l2_9 + 1))), (0, .ref (ad 71)), (1, .int (zI l1_100)), (3, .int (zI r34))]) C.1 C.2.1 dX1_number_229 hl (k := 2) rfl (zI_inc _ _ (by decide)) (by decide) rfl (fun ls hl => ?_)
            replace hl := lv_sub hl [1, 2, 0, 3] rfl
            refine lv_goto (tgt := 9) C.1 C.2.1 dX1_number_232 (by decide) ?_
            obtain ⟨g232_20, hw⟩ := hw
            exact hL9 _ _ _ hw _ _ _ ⟨g_l1_100, g232_20, Wd, lv_sub hl [0, 1, 2] rfl⟩
          refine lv_if_eq (tgt := 100) C.1 C.2.1 dX1_number_75 (by decide) (fun c75 => ?_) (fun c75 => ?_)
          · have hw := hw.1 (z0_eq g_r72 c75)
            exact J100 l1_9 (pF (pF σ9 83 (uZ (σ9.2.1 83) l2_9 (-1))) 83 (uZ (uZ (σ9.2.1 83) l2_9 (-1)) l2_9 (σ9.1 71 1))) _ _ _ ⟨g_l1_9, hw, Wd, lv_sub hl [0, 1, 2, 3] rfl⟩
          · have hw := hw.2 (z0_ne g_r72 c75)
            refine lv_iload_n C.1 C.2.1 dX1_number_78 rfl (lv_at hl 1 rfl) ?_
            refine lv_aload_n C.1 C.2.1 dX1_number_79 rfl (lv_at hl 0 rfl) ?_
            refine k_get (v := .ref (ad 82)) C Wd.1 KX1 _ 12 (cx71 _) (by decide) fl_X1_51 rfl dX1_number_80 ?_
            refine k_alen (v := zI 40) C Wd.1 82 82 (cx82 _) (tC_at (by decide) rfl) rfl dX1_number_83 ?_
            refine lv_icmp_ge (tgt := 100) C.1 C.2.1 dX1_number_84 (by decide) (fun c84 => ?_) (fun c84 => ?_)
            · have hw := hw.1 (z_le (show rng 40 from by decide) g_l1_9 c84)
              exact J100 l1_9 (pF (pF σ9 83 (uZ (σ9.2.1 83) l2_9 (-1))) 83 (uZ (uZ (σ9.2.1 83) l2_9 (-1)) l2_9 (σ9.1 71 1))) _ _ _ ⟨g_l1_9, hw, Wd, lv_sub hl [0, 1, 2, 3] rfl⟩
            · have hw := hw.2 (z_nle (show rng 40 from by decide) g_l1_9 c84)
              refine lv_aload_n C.1 C.2.1 dX1_number_87 rfl (lv_at hl 0 rfl) ?_
              refine k_get (v := .ref (ad 82)) C Wd.1 KX1 _ 12 (cx71 _) (by decide) fl_X1_51 rfl dX1_number_88 ?_
              refine lv_iload_n C.1 C.2.1 dX1_number_91 rfl (lv_at hl 1 rfl) ?_
              refine lv_aload_n C.1 C.2.1 dX1_number_92 rfl (lv_at hl 0 rfl) ?_
              refine k_get (v := .int (zI (σ9.1 71 1))) C Wd.1 KX1 _ 1 (cx71 _) (by decide) fl_X1_57 rfl dX1_number_93 ?_
              obtain ⟨n96_0, hw⟩ := hw
              refine k_iastF (g := (σ9.2.1 82)) (i := l1_9) (v := (σ9.1 71 1)) C Wd 82 (by decide) (cx82 _) (fun f => cx82a _ f) (tC_at (by decide) rfl) n96_0 (by decide) (ruZ (fun j => Wd.2.1.2.1 82 j) (hS_σ9.1 71 1)) dX1_number_96 (fun H locs Wd => ?_)
              refine lv_iinc (v := zI (l1_9 + 1)) (lv' := [(1, .int (zI (l1_9 + 1))), (0, .ref (ad 71)), (2, .int (zI l2_9)), (3, .int (zI r34))]) C.1 C.2.1 dX1_number_97 hl (k := 1) rfl (zI_inc _ _ (by decide)) (by decide) rfl (fun ls hl => ?_)
              replace hl := lv_sub hl [1, 0, 2, 3] rfl
              obtain ⟨g97_21, hw⟩ := hw
              exact J100 (l1_9 + 1) (pF (pF (pF σ9 83 (uZ (σ9.2.1 83) l2_9 (-1))) 83 (uZ (uZ (σ9.2.1 83) l2_9 (-1)) l2_9 (σ9.1 71 1))) 82 (uZ (σ9.2.1 82) l1_9 (σ9.1 71 1))) _ _ _ ⟨g97_21, hw, Wd, lv_sub hl [0, 1, 2, 3] rfl⟩
