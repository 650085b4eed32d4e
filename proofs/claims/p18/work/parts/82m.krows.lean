set_option maxHeartbeats 4000000 in
set_option maxRecDepth 100000 in
theorem mk_A_hastyCopy : ∀ (D : va_G) (ad : Nat → Nat) (ca : Nat → ClassId) (rf : Nat → Nat → Option Nat) (σ : Sg) (hS : rngK σ) (hRF : RFok ad rf) (x0 : Int) (g_x0 : 0 ≤ x0 ∧ x0 < 35) (K : Sg → Prop) (hw : wp5_A_hastyCopy σ x0 K) (l : Launch) (sz : Nat), Met l yX0_hastyCopy (Cond.code yX0_hastyCopy cX0_hastyCopy 5 none :: gG) { frames := 5, cells := 0, slots := 0, locals := 169 } (cPre D (tC ca) (wK ad ca rf σ) sz [.ref (ad 70), .ref (ad (rowC x0.toNat))]) (va_Qv (fun (u : Sg) => K u ∧ rngK u) (fun u t => cB D (va_A (wK ad ca rf σ) sz) [] (wK ad ca rf u) t) (va_A (wK ad ca rf σ) sz)) 0 0 (va_A (wK ad ca rf σ) sz) := by
  intro D ad ca rf σ hS hRF x0 g_x0 K hw l sz
  refine Met.ofW (cc := cX0_hastyCopy) (maxL := 5) (ret := none) (by decide) rfl ?_
  intro p e s m args below meth c s₁ B hml hv
  obtain ⟨rfl, aks, rfl, Wd⟩ := k_enter hv
  have C : CallFix p m c cX0_hastyCopy 5 s _ gG RX0 := ⟨B.exec, B.bytes, hml, findClass_of_methodNamed B.named, fun w h => atoms_spec (ws := Cond.code yX0_hastyCopy cX0_hastyCopy 5 none :: gG) B.pre w (List.mem_cons_of_mem _ h)⟩
  have hr := B.returns
  have hlk := B.notSynchronized
  generalize va_A (wK ad ca rf σ) s.heap.size = A at Wd ⊢
  replace Wd : wXK D ad ca rf s σ s.heap A s.heap [] := ⟨Wd, hS, hRF⟩
  refine k_locals (Nat.le_of_ble_eq_true rfl) [(0, .ref (ad 70)), (1, .ref (ad (rowC x0.toNat)))] rfl (fun ls hl => ?_)
  unfold wp5_A_hastyCopy at hw
  refine lv_iconst (v := zI 0) C.1 C.2.1 dX0_hastyCopy_0 (by decide) ?_
  refine lv_istore_n (lv' := [(2, .int (zI 0)), (0, .ref (ad 70)), (1, .ref (ad (rowC x0.toNat)))]) C.1 C.2.1 dX0_hastyCopy_1 rfl hl (by decide) rfl (fun ls hl => ?_)
  replace hl := lv_sub hl [1, 2, 0] rfl
  refine k_lp2 hw (fun (l2_2 : Int) (σ2 : Sg) H locs ls => rng l2_2 ∧ wXK D ad ca rf s σ2 H A s.heap locs ∧ lv_has ls 5 [(0, .ref (ad 70)), (1, .ref (ad (rowC x0.toNat))), (2, .int (zI l2_2))]) (fun (l2_2 : Int) (σ2 : Sg) ls => F0 m 2 ls []) (fun L2 hL2 l2_2 σ2 hw H locs ls hi => ?_) _ _ _ ⟨(show rng 0 from by decide), Wd, lv_sub hl [0, 1, 2] rfl⟩
  obtain ⟨g_l2_2, Wd, hl⟩ := hi
  have hS_σ2 := Wd.2.1
  unfold wp5_A_hastyCopy_2 at hw
  refine lv_iload_n C.1 C.2.1 dX0_hastyCopy_2 rfl (lv_at hl 2 rfl) ?_
  refine lv_aload_n C.1 C.2.1 dX0_hastyCopy_3 rfl (lv_at hl 1 rfl) ?_
  refine k_get (v := .int (zI (σ2.2.2.1 0 x0))) C Wd.1 KX8 _ 1 (cxRow g_x0) (by decide) fl_X0_31 rfl dX0_hastyCopy_4 ?_
  refine lv_icmp_ge (tgt := 78) C.1 C.2.1 dX0_hastyCopy_7 (by decide) (fun c7 => ?_) (fun c7 => ?_)
  · have hw := hw.1 (z_le (rgY hS_σ2 (N := 35) g_x0) g_l2_2 c7)
    exact k_retKv C hr hlk Wd hw dX0_hastyCopy_78
  · have hw := hw.2 (z_nle (rgY hS_σ2 (N := 35) g_x0) g_l2_2 c7)
    refine lv_aload_n C.1 C.2.1 dX0_hastyCopy_10 rfl (lv_at hl 1 rfl) ?_
    refine lv_iload_n C.1 C.2.1 dX0_hastyCopy_11 rfl (lv_at hl 2 rfl) ?_
    refine k_pi (k_runVK (rest := []) C aks Wd cs_X0_35 (mk_W_cell D ad ca rf σ2 Wd.2.1 Wd.2.2 x0 l2_2 g_x0 g_l2_2 _ hw l _) (cxRow g_x0) rfl rfl rfl rfl ⟨(Nat.le_of_ble_eq_true rfl), (Nat.le_of_ble_eq_true rfl)⟩ hl.1 rfl rfl (Nat.le_of_ble_eq_true rfl) ⟨(Nat.le_of_ble_eq_true rfl), (Nat.le_of_ble_eq_true rfl)⟩ dX0_hastyCopy_12) (fun y12 hy => ?_)
    obtain ⟨r12, rfl, g_r12, hw⟩ := hy
    refine lv_bipush (v := zI 100) C.1 C.2.1 dX0_hastyCopy_15 (by decide) ?_
    refine k_isub (v := zI (r12 - 100)) C (zI_isub _ _) dX0_hastyCopy_17 ?_
    refine lv_istore_n (lv' := [(3, .int (zI (r12 - 100))), (0, .ref (ad 70)), (1, .ref (ad (rowC x0.toNat))), (2, .int (zI l2_2))]) C.1 C.2.1 dX0_hastyCopy_18 rfl hl (by decide) rfl (fun ls hl => ?_)
    replace hl := lv_sub hl [1, 2, 3, 0] rfl
    refine lv_aload_n C.1 C.2.1 dX0_hastyCopy_19 rfl (lv_at hl 1 rfl) ?_
    refine lv_iload_n C.1 C.2.1 dX0_hastyCopy_20 rfl (lv_at hl 2 rfl) ?_
    refine lv_iconst (v := zI 1) C.1 C.2.1 dX0_hastyCopy_21 (by decide) ?_
    refine k_iadd (v := zI (l2_2 + 1)) C (zI_iadd _ _) dX0_hastyCopy_22 ?_
    obtain ⟨g23_12, hw⟩ := hw
    refine k_pi (k_runVK (rest := []) C aks Wd cs_X0_35 (mk_W_cell D ad ca rf σ2 Wd.2.1 Wd.2.2 x0 (l2_2 + 1) g_x0 g23_12 _ hw l _) (cxRow g_x0) rfl rfl rfl rfl ⟨(Nat.le_of_ble_eq_true rfl), (Nat.le_of_ble_eq_true rfl)⟩ hl.1 rfl rfl (Nat.le_of_ble_eq_true rfl) ⟨(Nat.le_of_ble_eq_true rfl), (Nat.le_of_ble_eq_true rfl)⟩ dX0_hastyCopy_23) (fun y23 hy => ?_)
    obtain ⟨r23, rfl, g_r23, hw⟩ := hy
    refine lv_bipush (v := zI 20) C.1 C.2.1 dX0_hastyCopy_26 (by decide) ?_
    refine k_isub (v := zI (r23 - 20)) C (zI_isub _ _) dX0_hastyCopy_28 ?_
    refine lv_istore (lv' := [(4, .int (zI (r23 - 20))), (0, .ref (ad 70)), (1, .ref (ad (rowC x0.toNat))), (2, .int (zI l2_2)), (3, .int (zI (r12 - 100)))]) C.1 C.2.1 dX0_hastyCopy_29 hl (by decide) rfl (fun ls hl => ?_)
    replace hl := lv_sub hl [1, 2, 3, 4, 0] rfl
    refine lv_aload_n C.1 C.2.1 dX0_hastyCopy_31 rfl (lv_at hl 1 rfl) ?_
    refine lv_iload_n C.1 C.2.1 dX0_hastyCopy_32 rfl (lv_at hl 2 rfl) ?_
    refine k_pi (k_runVK (rest := []) C aks Wd cs_X0_35 (mk_W_cell D ad ca rf σ2 Wd.2.1 Wd.2.2 x0 l2_2 g_x0 g_l2_2 _ hw l _) (cxRow g_x0) rfl rfl rfl rfl ⟨(Nat.le_of_ble_eq_true rfl), (Nat.le_of_ble_eq_true rfl)⟩ hl.1 rfl rfl (Nat.le_of_ble_eq_true rfl) ⟨(Nat.le_of_ble_eq_true rfl), (Nat.le_of_ble_eq_true rfl)⟩ dX0_hastyCopy_33) (fun y33 hy => ?_)
    obtain ⟨r33, rfl, g_r33, hw⟩ := hy
    refine k_pi (k_runS (rest := []) C aks Wd.1 cs_X0_99 (mk_W_isSet D r33 g_r33 _ hw l _) [] rfl (by decide) [] rfl rfl rfl ⟨(Nat.le_of_ble_eq_true rfl), (Nat.le_of_ble_eq_true rfl)⟩ hl.1 rfl rfl (Nat.le_of_ble_eq_true rfl) ⟨(Nat.le_of_ble_eq_true rfl), (Nat.le_of_ble_eq_true rfl)⟩ dX0_hastyCopy_36) (fun y36 hy => ?_)
    obtain ⟨r36, rfl, g_r36, hw⟩ := hy
    refine lv_if_eq (tgt := 72) C.1 C.2.1 dX0_hastyCopy_39 (by decide) (fun c39 => ?_) (fun c39 => ?_)
    · have hw := hw.1 (z0_eq g_r36 c39)
      refine lv_iinc (v := zI (l2_2 + 1)) (lv' := [(2, .int (zI (l2_2 + 1))), (0, .ref (ad 70)), (1, .ref (ad (rowC x0.toNat))), (3, .int (zI (r12 - 100))), (4, .int (zI (r23 - 20)))]) C.1 C.2.1 dX0_hastyCopy_72 hl (k := 2) rfl (zI_inc _ _ (by decide)) (by decide) rfl (fun ls hl => ?_)
      replace hl := lv_sub hl [1, 2, 0, 3, 4] rfl
      refine lv_goto (tgt := 2) C.1 C.2.1 dX0_hastyCopy_75 (by decide) ?_
      exact hL2 _ _ hw _ _ _ ⟨g23_12, Wd, lv_sub hl [0, 1, 2] rfl⟩
    · have hw := hw.2 (z0_ne g_r36 c39)
      refine lv_aload_n C.1 C.2.1 dX0_hastyCopy_42 rfl (lv_at hl 1 rfl) ?_
      refine lv_iload_n C.1 C.2.1 dX0_hastyCopy_43 rfl (lv_at hl 2 rfl) ?_
      refine lv_iconst (v := zI 1) C.1 C.2.1 dX0_hastyCopy_44 (by decide) ?_
      refine k_iadd (v := zI (l2_2 + 1)) C (zI_iadd _ _) dX0_hastyCopy_45 ?_
      refine k_pi (k_runVK (rest := []) C aks Wd cs_X0_35 (mk_W_cell D ad ca rf σ2 Wd.2.1 Wd.2.2 x0 (l2_2 + 1) g_x0 g23_12 _ hw l _) (cxRow g_x0) rfl rfl rfl rfl ⟨(Nat.le_of_ble_eq_true rfl), (Nat.le_of_ble_eq_true rfl)⟩ hl.1 rfl rfl (Nat.le_of_ble_eq_true rfl) ⟨(Nat.le_of_ble_eq_true rfl), (Nat.le_of_ble_eq_true rfl)⟩ dX0_hastyCopy_46) (fun y46 hy => ?_)
      obtain ⟨r46, rfl, g_r46, hw⟩ := hy
      refine k_pi (k_runS (rest := []) C aks Wd.1 cs_X0_105 (mk_W_isRead D r46 g_r46 _ hw l _) [] rfl (by decide) [] rfl rfl rfl ⟨(Nat.le_of_ble_eq_true rfl), (Nat.le_of_ble_eq_true rfl)⟩ hl.1 rfl rfl (Nat.le_of_ble_eq_true rfl) ⟨(Nat.le_of_ble_eq_true rfl), (Nat.le_of_ble_eq_true rfl)⟩ dX0_hastyCopy_49) (fun y49 hy => ?_)
      obtain ⟨r49, rfl, g_r49, hw⟩ := hy
      refine lv_if_eq (tgt := 72) C.1 C.2.1 dX0_hastyCopy_52 (by decide) (fun c52 => ?_) (fun c52 => ?_)
      · have hw := hw.1 (z0_eq g_r49 c52)
        refine lv_iinc (v := zI (l2_2 + 1)) (lv' := [(2, .int (zI (l2_2 + 1))), (0, .ref (ad 70)), (1, .ref (ad (rowC x0.toNat))), (3, .int (zI (r12 - 100))), (4, .int (zI (r23 - 20)))]) C.1 C.2.1 dX0_hastyCopy_72 hl (k := 2) rfl (zI_inc _ _ (by decide)) (by decide) rfl (fun ls hl => ?_)
        replace hl := lv_sub hl [1, 2, 0, 3, 4] rfl
        refine lv_goto (tgt := 2) C.1 C.2.1 dX0_hastyCopy_75 (by decide) ?_
        exact hL2 _ _ hw _ _ _ ⟨g23_12, Wd, lv_sub hl [0, 1, 2] rfl⟩
      · have hw := hw.2 (z0_ne g_r49 c52)
        refine lv_iload_n C.1 C.2.1 dX0_hastyCopy_55 rfl (lv_at hl 3 rfl) ?_
        refine lv_iload C.1 C.2.1 dX0_hastyCopy_56 (lv_at hl 4 rfl) ?_
        obtain ⟨g58_13, hw⟩ := hw
        obtain ⟨g58_14, hw⟩ := hw
        refine lv_icmp_eq (tgt := 72) C.1 C.2.1 dX0_hastyCopy_58 (by decide) (fun c58 => ?_) (fun c58 => ?_)
        · have hw := hw.1 (z_eq g58_13 g58_14 c58)
          refine lv_iinc (v := zI (l2_2 + 1)) (lv' := [(2, .int (zI (l2_2 + 1))), (0, .ref (ad 70)), (1, .ref (ad (rowC x0.toNat))), (3, .int (zI (r12 - 100))), (4, .int (zI (r23 - 20)))]) C.1 C.2.1 dX0_hastyCopy_72 hl (k := 2) rfl (zI_inc _ _ (by decide)) (by decide) rfl (fun ls hl => ?_)
          replace hl := lv_sub hl [1, 2, 0, 3, 4] rfl
          refine lv_goto (tgt := 2) C.1 C.2.1 dX0_hastyCopy_75 (by decide) ?_
          exact hL2 _ _ hw _ _ _ ⟨g23_12, Wd, lv_sub hl [0, 1, 2] rfl⟩
        · have hw := hw.2 (z_ne g58_13 g58_14 c58)
          refine lv_aload_n C.1 C.2.1 dX0_hastyCopy_61 rfl (lv_at hl 0 rfl) ?_
          refine lv_aload_n C.1 C.2.1 dX0_hastyCopy_62 rfl (lv_at hl 1 rfl) ?_
          refine lv_iload_n C.1 C.2.1 dX0_hastyCopy_63 rfl (lv_at hl 2 rfl) ?_
          refine lv_iconst (v := zI 2) C.1 C.2.1 dX0_hastyCopy_64 (by decide) ?_
          refine k_iadd (v := zI (l2_2 + 2)) C (zI_iadd _ _) dX0_hastyCopy_65 ?_
          refine lv_iload_n C.1 C.2.1 dX0_hastyCopy_66 rfl (lv_at hl 3 rfl) ?_
          refine lv_iload C.1 C.2.1 dX0_hastyCopy_67 (lv_at hl 4 rfl) ?_
          obtain ⟨g69_15, hw⟩ := hw
          refine k_cKv Wd (k_runVK (rest := []) C aks Wd cs_X0_108 (mk_A_copyBehind D ad ca rf σ2 Wd.2.1 Wd.2.2 x0 (l2_2 + 2) (r12 - 100) (r23 - 20) g_x0 g69_15 g58_13 g58_14 _ hw l _) (cx70 _) rfl rfl rfl rfl ⟨(Nat.le_of_ble_eq_true rfl), (Nat.le_of_ble_eq_true rfl)⟩ hl.1 rfl rfl (Nat.le_of_ble_eq_true rfl) ⟨(Nat.le_of_ble_eq_true rfl), (Nat.le_of_ble_eq_true rfl)⟩ dX0_hastyCopy_69) (fun σr69 H locs hw Wd => ?_)
          have hS_σr69 := Wd.2.1
          refine lv_iinc (v := zI (l2_2 + 1)) (lv' := [(2, .int (zI (l2_2 + 1))), (0, .ref (ad 70)), (1, .ref (ad (rowC x0.toNat))), (3, .int (zI (r12 - 100))), (4, .int (zI (r23 - 20)))]) C.1 C.2.1 dX0_hastyCopy_72 hl (k := 2) rfl (zI_inc _ _ (by decide)) (by decide) rfl (fun ls hl => ?_)
          replace hl := lv_sub hl [1, 2, 0, 3, 4] rfl
          refine lv_goto (tgt := 2) C.1 C.2.1 dX0_hastyCopy_75 (by decide) ?_
          exact hL2 _ _ hw _ _ _ ⟨g23_12, Wd, lv_sub hl [0, 1, 2] rfl⟩
set_option maxHeartbeats 4000000 in
set_option maxRecDepth 100000 in
theorem mk_A_unroll : ∀ (D : va_G) (ad : Nat → Nat) (ca : Nat → ClassId) (rf : Nat → Nat → Option Nat) (σ : Sg) (hS : rngK σ) (hRF : RFok ad rf) (x0 : Int) (g_x0 : 0 ≤ x0 ∧ x0 < 35) (K : Sg → Prop) (hw : wp5_A_unroll σ x0 K) (l : Launch) (sz : Nat), Met l yX0_unroll (Cond.code yX0_unroll cX0_unroll 4 none :: gG) { frames := 3, cells := 0, slots := 0, locals := 141 } (cPre D (tC ca) (wK ad ca rf σ) sz [.ref (ad 70), .ref (ad (rowC x0.toNat))]) (va_Qv (fun (u : Sg) => K u ∧ rngK u) (fun u t => cB D (va_A (wK ad ca rf σ) sz) [] (wK ad ca rf u) t) (va_A (wK ad ca rf σ) sz)) 0 0 (va_A (wK ad ca rf σ) sz) := by
  intro D ad ca rf σ hS hRF x0 g_x0 K hw l sz
  refine Met.ofW (cc := cX0_unroll) (maxL := 4) (ret := none) (by decide) rfl ?_
  intro p e s m args below meth c s₁ B hml hv
  obtain ⟨rfl, aks, rfl, Wd⟩ := k_enter hv
  have C : CallFix p m c cX0_unroll 4 s _ gG RX0 := ⟨B.exec, B.bytes, hml, findClass_of_methodNamed B.named, fun w h => atoms_spec (ws := Cond.code yX0_unroll cX0_unroll 4 none :: gG) B.pre w (List.mem_cons_of_mem _ h)⟩
  have hr := B.returns
  have hlk := B.notSynchronized
  generalize va_A (wK ad ca rf σ) s.heap.size = A at Wd ⊢
  replace Wd : wXK D ad ca rf s σ s.heap A s.heap [] := ⟨Wd, hS, hRF⟩
  refine k_locals (Nat.le_of_ble_eq_true rfl) [(0, .ref (ad 70)), (1, .ref (ad (rowC x0.toNat)))] rfl (fun ls hl => ?_)
  unfold wp5_A_unroll at hw
  refine lv_aload_n C.1 C.2.1 dX0_unroll_0 rfl (lv_at hl 0 rfl) ?_
  refine k_get (v := .ref (ad 121)) C Wd.1 KX0 _ 0 (cx70 _) (by decide) fl_X0_14 rfl dX0_unroll_1 ?_
  refine lv_iconst (v := zI 0) C.1 C.2.1 dX0_unroll_4 (by decide) ?_
  refine k_putRL (n := 10) (v := 0) C Wd (show (0 : Int) ≤ 10 ∧ (10 : Int) < 35 from by decide) fl_X0_31 (show rng 0 from by decide) dX0_unroll_5 (fun H locs Wd => ?_)
  refine lv_iconst (v := zI 0) C.1 C.2.1 dX0_unroll_8 (by decide) ?_
  refine lv_istore_n (lv' := [(2, .int (zI 0)), (0, .ref (ad 70)), (1, .ref (ad (rowC x0.toNat)))]) C.1 C.2.1 dX0_unroll_9 rfl hl (by decide) rfl (fun ls hl => ?_)
  replace hl := lv_sub hl [1, 2, 0] rfl
  refine k_lp2 hw (fun (l2_10 : Int) (σ10 : Sg) H locs ls => rng l2_10 ∧ wXK D ad ca rf s σ10 H A s.heap locs ∧ lv_has ls 4 [(0, .ref (ad 70)), (1, .ref (ad (rowC x0.toNat))), (2, .int (zI l2_10))]) (fun (l2_10 : Int) (σ10 : Sg) ls => F0 m 10 ls []) (fun L10 hL10 l2_10 σ10 hw H locs ls hi => ?_) _ _ _ ⟨(show rng 0 from by decide), Wd, lv_sub hl [0, 1, 2] rfl⟩
  obtain ⟨g_l2_10, Wd, hl⟩ := hi
  have hS_σ10 := Wd.2.1
  unfold wp5_A_unroll_10 at hw
  refine lv_iload_n C.1 C.2.1 dX0_unroll_10 rfl (lv_at hl 2 rfl) ?_
  refine lv_aload_n C.1 C.2.1 dX0_unroll_11 rfl (lv_at hl 1 rfl) ?_
  refine k_get (v := .int (zI (σ10.2.2.1 0 x0))) C Wd.1 KX8 _ 1 (cxRow g_x0) (by decide) fl_X0_31 rfl dX0_unroll_12 ?_
  refine lv_icmp_ge (tgt := 112) C.1 C.2.1 dX0_unroll_15 (by decide) (fun c15 => ?_) (fun c15 => ?_)
  · have hw := hw.1 (z_le (rgY hS_σ10 (N := 35) g_x0) g_l2_10 c15)
    refine lv_aload_n C.1 C.2.1 dX0_unroll_112 rfl (lv_at hl 1 rfl) ?_
    refine lv_aload_n C.1 C.2.1 dX0_unroll_113 rfl (lv_at hl 0 rfl) ?_
    refine k_get (v := .ref (ad 121)) C Wd.1 KX0 _ 0 (cx70 _) (by decide) fl_X0_14 rfl dX0_unroll_114 ?_
    refine k_cKv Wd (k_runVK (rest := []) C aks Wd cs_X0_135 (mk_W_copy D ad ca rf σ10 Wd.2.1 Wd.2.2 x0 10 g_x0 (show (0 : Int) ≤ 10 ∧ (10 : Int) < 35 from by decide) _ hw l _) (cxRow g_x0) rfl rfl rfl rfl ⟨(Nat.le_of_ble_eq_true rfl), (Nat.le_of_ble_eq_true rfl)⟩ hl.1 rfl rfl (Nat.le_of_ble_eq_true rfl) ⟨(Nat.le_of_ble_eq_true rfl), (Nat.le_of_ble_eq_true rfl)⟩ dX0_unroll_117) (fun σr117 H locs hw Wd => ?_)
    have hS_σr117 := Wd.2.1
    exact k_retKv C hr hlk Wd hw dX0_unroll_120
  · have hw := hw.2 (z_nle (rgY hS_σ10 (N := 35) g_x0) g_l2_10 c15)
    refine lv_aload_n C.1 C.2.1 dX0_unroll_18 rfl (lv_at hl 1 rfl) ?_
    refine lv_iload_n C.1 C.2.1 dX0_unroll_19 rfl (lv_at hl 2 rfl) ?_
    refine k_pi (k_runVK (rest := []) C aks Wd cs_X0_35 (mk_W_cell D ad ca rf σ10 Wd.2.1 Wd.2.2 x0 l2_10 g_x0 g_l2_10 _ hw l _) (cxRow g_x0) rfl rfl rfl rfl ⟨(Nat.le_of_ble_eq_true rfl), (Nat.le_of_ble_eq_true rfl)⟩ hl.1 rfl rfl (Nat.le_of_ble_eq_true rfl) ⟨(Nat.le_of_ble_eq_true rfl), (Nat.le_of_ble_eq_true rfl)⟩ dX0_unroll_20) (fun y20 hy => ?_)
    obtain ⟨r20, rfl, g_r20, hw⟩ := hy
    refine lv_bipush (v := zI 115) C.1 C.2.1 dX0_unroll_23 (by decide) ?_
    refine lv_icmp_ne (tgt := 94) C.1 C.2.1 dX0_unroll_25 (by decide) (fun c25 => ?_) (fun c25 => ?_)
    · have hw := hw.1 (z_ne g_r20 (show rng 115 from by decide) c25)
      refine lv_aload_n C.1 C.2.1 dX0_unroll_94 rfl (lv_at hl 0 rfl) ?_
      refine k_get (v := .ref (ad 121)) C Wd.1 KX0 _ 0 (cx70 _) (by decide) fl_X0_14 rfl dX0_unroll_95 ?_
      refine lv_aload_n C.1 C.2.1 dX0_unroll_98 rfl (lv_at hl 1 rfl) ?_
      refine lv_iload_n C.1 C.2.1 dX0_unroll_99 rfl (lv_at hl 2 rfl) ?_
      refine k_pi (k_runVK (rest := [.ref (ad 121)]) C aks Wd cs_X0_35 (mk_W_cell D ad ca rf σ10 Wd.2.1 Wd.2.2 x0 l2_10 g_x0 g_l2_10 _ hw l _) (cxRow g_x0) rfl rfl rfl rfl ⟨(Nat.le_of_ble_eq_true rfl), (Nat.le_of_ble_eq_true rfl)⟩ hl.1 rfl rfl (Nat.le_of_ble_eq_true rfl) ⟨(Nat.le_of_ble_eq_true rfl), (Nat.le_of_ble_eq_true rfl)⟩ dX0_unroll_100) (fun y100 hy => ?_)
      obtain ⟨r100, rfl, g_r100, hw⟩ := hy
      refine k_cKv Wd (k_runVK (rest := []) C aks Wd cs_X0_122 (mk_W_add D ad ca rf σ10 Wd.2.1 Wd.2.2 10 r100 (show (0 : Int) ≤ 10 ∧ (10 : Int) < 35 from by decide) g_r100 _ hw l _) (cxRow (show (0 : Int) ≤ 10 ∧ (10 : Int) < 35 from by decide)) rfl rfl rfl rfl ⟨(Nat.le_of_ble_eq_true rfl), (Nat.le_of_ble_eq_true rfl)⟩ hl.1 rfl rfl (Nat.le_of_ble_eq_true rfl) ⟨(Nat.le_of_ble_eq_true rfl), (Nat.le_of_ble_eq_true rfl)⟩ dX0_unroll_103) (fun σr103 H locs hw Wd => ?_)
      have hS_σr103 := Wd.2.1
      refine lv_iinc (v := zI (l2_10 + 1)) (lv' := [(2, .int (zI (l2_10 + 1))), (0, .ref (ad 70)), (1, .ref (ad (rowC x0.toNat)))]) C.1 C.2.1 dX0_unroll_106 hl (k := 2) rfl (zI_inc _ _ (by decide)) (by decide) rfl (fun ls hl => ?_)
      replace hl := lv_sub hl [1, 2, 0] rfl
      refine lv_goto (tgt := 10) C.1 C.2.1 dX0_unroll_109 (by decide) ?_
      obtain ⟨g109_7, hw⟩ := hw
      exact hL10 _ _ hw _ _ _ ⟨g109_7, Wd, lv_sub hl [0, 1, 2] rfl⟩
    · have hw := hw.2 (z_eq g_r20 (show rng 115 from by decide) c25)
      refine lv_aload_n C.1 C.2.1 dX0_unroll_28 rfl (lv_at hl 1 rfl) ?_
      refine lv_iload_n C.1 C.2.1 dX0_unroll_29 rfl (lv_at hl 2 rfl) ?_
      refine k_pi (k_runVK (rest := []) C aks Wd cs_X0_68 (mk_W_closeOf D ad ca rf σ10 Wd.2.1 Wd.2.2 x0 l2_10 g_x0 g_l2_10 _ hw l _) (cxRow g_x0) rfl rfl rfl rfl ⟨(Nat.le_of_ble_eq_true rfl), (Nat.le_of_ble_eq_true rfl)⟩ hl.1 rfl rfl (Nat.le_of_ble_eq_true rfl) ⟨(Nat.le_of_ble_eq_true rfl), (Nat.le_of_ble_eq_true rfl)⟩ dX0_unroll_30) (fun y30 hy => ?_)
      obtain ⟨r30, rfl, g_r30, hw⟩ := hy
      refine lv_istore_n (lv' := [(3, .int (zI r30)), (0, .ref (ad 70)), (1, .ref (ad (rowC x0.toNat))), (2, .int (zI l2_10))]) C.1 C.2.1 dX0_unroll_33 rfl hl (by decide) rfl (fun ls hl => ?_)
      replace hl := lv_sub hl [1, 2, 3, 0] rfl
      refine lv_aload_n C.1 C.2.1 dX0_unroll_34 rfl (lv_at hl 0 rfl) ?_
      refine k_get (v := .ref (ad 121)) C Wd.1 KX0 _ 0 (cx70 _) (by decide) fl_X0_14 rfl dX0_unroll_35 ?_
      refine lv_bipush (v := zI 112) C.1 C.2.1 dX0_unroll_38 (by decide) ?_
      refine k_cKv Wd (k_runVK (rest := []) C aks Wd cs_X0_122 (mk_W_add D ad ca rf σ10 Wd.2.1 Wd.2.2 10 112 (show (0 : Int) ≤ 10 ∧ (10 : Int) < 35 from by decide) (show rng 112 from by decide) _ hw l _) (cxRow (show (0 : Int) ≤ 10 ∧ (10 : Int) < 35 from by decide)) rfl rfl rfl rfl ⟨(Nat.le_of_ble_eq_true rfl), (Nat.le_of_ble_eq_true rfl)⟩ hl.1 rfl rfl (Nat.le_of_ble_eq_true rfl) ⟨(Nat.le_of_ble_eq_true rfl), (Nat.le_of_ble_eq_true rfl)⟩ dX0_unroll_40) (fun σr40 H locs hw Wd => ?_)
      have hS_σr40 := Wd.2.1
      refine lv_aload_n C.1 C.2.1 dX0_unroll_43 rfl (lv_at hl 0 rfl) ?_
      refine k_get (v := .ref (ad 121)) C Wd.1 KX0 _ 0 (cx70 _) (by decide) fl_X0_14 rfl dX0_unroll_44 ?_
      refine lv_aload_n C.1 C.2.1 dX0_unroll_47 rfl (lv_at hl 1 rfl) ?_
      refine lv_iload_n C.1 C.2.1 dX0_unroll_48 rfl (lv_at hl 2 rfl) ?_
      refine lv_iconst (v := zI 1) C.1 C.2.1 dX0_unroll_49 (by decide) ?_
      refine k_iadd (v := zI (l2_10 + 1)) C (zI_iadd _ _) dX0_unroll_50 ?_
      refine lv_iload_n C.1 C.2.1 dX0_unroll_51 rfl (lv_at hl 3 rfl) ?_
      obtain ⟨g52_8, hw⟩ := hw
      refine k_cKv Wd (k_runVK (rest := []) C aks Wd cs_X0_125 (mk_W_addPart D ad ca rf σr40 Wd.2.1 Wd.2.2 10 x0 (l2_10 + 1) r30 (show (0 : Int) ≤ 10 ∧ (10 : Int) < 35 from by decide) g_x0 g52_8 g_r30 _ hw l _) (cxRow (show (0 : Int) ≤ 10 ∧ (10 : Int) < 35 from by decide)) rfl rfl rfl rfl ⟨(Nat.le_of_ble_eq_true rfl), (Nat.le_of_ble_eq_true rfl)⟩ hl.1 rfl rfl (Nat.le_of_ble_eq_true rfl) ⟨(Nat.le_of_ble_eq_true rfl), (Nat.le_of_ble_eq_true rfl)⟩ dX0_unroll_52) (fun σr52 H locs hw Wd => ?_)
      have hS_σr52 := Wd.2.1
      refine lv_aload_n C.1 C.2.1 dX0_unroll_55 rfl (lv_at hl 0 rfl) ?_
      refine k_get (v := .ref (ad 121)) C Wd.1 KX0 _ 0 (cx70 _) (by decide) fl_X0_14 rfl dX0_unroll_56 ?_
      refine lv_aload_n C.1 C.2.1 dX0_unroll_59 rfl (lv_at hl 1 rfl) ?_
      refine lv_iload_n C.1 C.2.1 dX0_unroll_60 rfl (lv_at hl 2 rfl) ?_
      refine lv_iload_n C.1 C.2.1 dX0_unroll_61 rfl (lv_at hl 3 rfl) ?_
      refine lv_iconst (v := zI 1) C.1 C.2.1 dX0_unroll_62 (by decide) ?_
      refine k_iadd (v := zI (r30 + 1)) C (zI_iadd _ _) dX0_unroll_63 ?_
      obtain ⟨g64_9, hw⟩ := hw
      refine k_cKv Wd (k_runVK (rest := []) C aks Wd cs_X0_125 (mk_W_addPart D ad ca rf σr52 Wd.2.1 Wd.2.2 10 x0 l2_10 (r30 + 1) (show (0 : Int) ≤ 10 ∧ (10 : Int) < 35 from by decide) g_x0 g_l2_10 g64_9 _ hw l _) (cxRow (show (0 : Int) ≤ 10 ∧ (10 : Int) < 35 from by decide)) rfl rfl rfl rfl ⟨(Nat.le_of_ble_eq_true rfl), (Nat.le_of_ble_eq_true rfl)⟩ hl.1 rfl rfl (Nat.le_of_ble_eq_true rfl) ⟨(Nat.le_of_ble_eq_true rfl), (Nat.le_of_ble_eq_true rfl)⟩ dX0_unroll_64) (fun σr64 H locs hw Wd => ?_)
      have hS_σr64 := Wd.2.1
      refine lv_aload_n C.1 C.2.1 dX0_unroll_67 rfl (lv_at hl 0 rfl) ?_
      refine k_get (v := .ref (ad 121)) C Wd.1 KX0 _ 0 (cx70 _) (by decide) fl_X0_14 rfl dX0_unroll_68 ?_
      refine lv_bipush (v := zI 113) C.1 C.2.1 dX0_unroll_71 (by decide) ?_
      refine k_cKv Wd (k_runVK (rest := []) C aks Wd cs_X0_122 (mk_W_add D ad ca rf σr64 Wd.2.1 Wd.2.2 10 113 (show (0 : Int) ≤ 10 ∧ (10 : Int) < 35 from by decide) (show rng 113 from by decide) _ hw l _) (cxRow (show (0 : Int) ≤ 10 ∧ (10 : Int) < 35 from by decide)) rfl rfl rfl rfl ⟨(Nat.le_of_ble_eq_true rfl), (Nat.le_of_ble_eq_true rfl)⟩ hl.1 rfl rfl (Nat.le_of_ble_eq_true rfl) ⟨(Nat.le_of_ble_eq_true rfl), (Nat.le_of_ble_eq_true rfl)⟩ dX0_unroll_73) (fun σr73 H locs hw Wd => ?_)
      have hS_σr73 := Wd.2.1
      refine lv_aload_n C.1 C.2.1 dX0_unroll_76 rfl (lv_at hl 0 rfl) ?_
      refine k_get (v := .ref (ad 121)) C Wd.1 KX0 _ 0 (cx70 _) (by decide) fl_X0_14 rfl dX0_unroll_77 ?_
      refine lv_bipush (v := zI 114) C.1 C.2.1 dX0_unroll_80 (by decide) ?_
      refine k_cKv Wd (k_runVK (rest := []) C aks Wd cs_X0_122 (mk_W_add D ad ca rf σr73 Wd.2.1 Wd.2.2 10 114 (show (0 : Int) ≤ 10 ∧ (10 : Int) < 35 from by decide) (show rng 114 from by decide) _ hw l _) (cxRow (show (0 : Int) ≤ 10 ∧ (10 : Int) < 35 from by decide)) rfl rfl rfl rfl ⟨(Nat.le_of_ble_eq_true rfl), (Nat.le_of_ble_eq_true rfl)⟩ hl.1 rfl rfl (Nat.le_of_ble_eq_true rfl) ⟨(Nat.le_of_ble_eq_true rfl), (Nat.le_of_ble_eq_true rfl)⟩ dX0_unroll_82) (fun σr82 H locs hw Wd => ?_)
      have hS_σr82 := Wd.2.1
      refine lv_iload_n C.1 C.2.1 dX0_unroll_85 rfl (lv_at hl 2 rfl) ?_
      refine lv_iload_n C.1 C.2.1 dX0_unroll_86 rfl (lv_at hl 3 rfl) ?_
      refine k_mmax (v := zI (max l2_10 r30)) C hl.1 ml_X0_129 st_Lib_Math_max_name in_J9 cd_max (Nat.le_of_ble_eq_true rfl) (Nat.le_of_ble_eq_true rfl) (Nat.le_of_ble_eq_true rfl) (Nat.le_of_ble_eq_true rfl) (zmax_eq _ _ g_l2_10 g_r30) dX0_unroll_87 ?_
      refine lv_istore_n (lv' := [(2, .int (zI (max l2_10 r30))), (0, .ref (ad 70)), (1, .ref (ad (rowC x0.toNat))), (3, .int (zI r30))]) C.1 C.2.1 dX0_unroll_90 rfl hl (by decide) rfl (fun ls hl => ?_)
      replace hl := lv_sub hl [1, 2, 0, 3] rfl
      refine lv_goto (tgt := 106) C.1 C.2.1 dX0_unroll_91 (by decide) ?_
      refine lv_iinc (v := zI ((max l2_10 r30) + 1)) (lv' := [(2, .int (zI ((max l2_10 r30) + 1))), (0, .ref (ad 70)), (1, .ref (ad (rowC x0.toNat))), (3, .int (zI r30))]) C.1 C.2.1 dX0_unroll_106 hl (k := 2) rfl (zI_inc _ _ (by decide)) (by decide) rfl (fun ls hl => ?_)
      replace hl := lv_sub hl [1, 2, 0, 3] rfl
      refine lv_goto (tgt := 10) C.1 C.2.1 dX0_unroll_109 (by decide) ?_
      obtain ⟨g109_10, hw⟩ := hw
      exact hL10 _ _ hw _ _ _ ⟨g109_10, Wd, lv_sub hl [0, 1, 2] rfl⟩
set_option maxHeartbeats 4000000 in
set_option maxRecDepth 100000 in
theorem mk_P_applyRule_n0 : ∀ (D : va_G) (ad : Nat → Nat) (ca : Nat → ClassId) (rf : Nat → Nat → Option Nat) (σ : Sg) (hS : rngK σ) (hRF : RFok ad rf) (K : Int → Sg → Prop) (hw : wp5_P_applyRule_n0 σ K) (l : Launch) (sz : Nat), Met l yX4_applyRule (Cond.code yX4_applyRule cX4_applyRule 4 (some .boolean) :: gG) { frames := 1, cells := 0, slots := 0, locals := 64 } (cPre D (tC ca) (wK ad ca rf σ) sz [.ref (ad 31), .null]) (va_Qi (fun (r : Int32) (u : Sg) => (∃ x : Int, r = zI x ∧ rng x ∧ K x u) ∧ rngK u) (fun u t => cB D (va_A (wK ad ca rf σ) sz) [] (wK ad ca rf u) t) (va_A (wK ad ca rf σ) sz)) 0 0 (va_A (wK ad ca rf σ) sz) := by
  intro D ad ca rf σ hS hRF  K hw l sz
  refine Met.ofW (cc := cX4_applyRule) (maxL := 4) (ret := (some .boolean)) (by decide) rfl ?_
  intro p e s m args below meth c s₁ B hml hv
  obtain ⟨rfl, aks, rfl, Wd⟩ := k_enter hv
  have C : CallFix p m c cX4_applyRule 4 s _ gG RX4 := ⟨B.exec, B.bytes, hml, findClass_of_methodNamed B.named, fun w h => atoms_spec (ws := Cond.code yX4_applyRule cX4_applyRule 4 (some .boolean) :: gG) B.pre w (List.mem_cons_of_mem _ h)⟩
  have hr := B.returns
  have hlk := B.notSynchronized
  generalize va_A (wK ad ca rf σ) s.heap.size = A at Wd ⊢
  replace Wd : wXK D ad ca rf s σ s.heap A s.heap [] := ⟨Wd, hS, hRF⟩
  refine k_locals (Nat.le_of_ble_eq_true rfl) [(0, .ref (ad 31)), (1, .null)] rfl (fun ls hl => ?_)
  unfold wp5_P_applyRule_n0 at hw
  refine lv_aload_nN C.1 C.2.1 dX4_applyRule_0 rfl (lv_at hl 1 rfl) ?_
  refine lv_ifnonnullN C.1 C.2.1 dX4_applyRule_1 ?_
  refine lv_iconst (v := zI 0) C.1 C.2.1 dX4_applyRule_4 (by decide) ?_
  exact k_retKi C hr hlk (by decide) Wd ⟨_, rfl, (show rng 0 from by decide), hw⟩ dX4_applyRule_5
set_option maxHeartbeats 4000000 in
set_option maxRecDepth 100000 in
theorem mk_P_applyRule : ∀ (D : va_G) (ad : Nat → Nat) (ca : Nat → ClassId) (rf : Nat → Nat → Option Nat) (σ : Sg) (hS : rngK σ) (hRF : RFok ad rf) (x0 : Int) (g_x0 : 0 ≤ x0 ∧ x0 < 12) (K : Int → Sg → Prop) (hw : wp5_P_applyRule σ x0 K) (l : Launch) (sz : Nat), Met l yX4_applyRule (Cond.code yX4_applyRule cX4_applyRule 4 (some .boolean) :: gG) { frames := 5, cells := 0, slots := 0, locals := 171 } (cPre D (tC ca) (wK ad ca rf σ) sz [.ref (ad 31), .ref (ad (ruleC x0.toNat))]) (va_Qi (fun (r : Int32) (u : Sg) => (∃ x : Int, r = zI x ∧ rng x ∧ K x u) ∧ rngK u) (fun u t => cB D (va_A (wK ad ca rf σ) sz) [] (wK ad ca rf u) t) (va_A (wK ad ca rf σ) sz)) 0 0 (va_A (wK ad ca rf σ) sz) := by
  intro D ad ca rf σ hS hRF x0 g_x0 K hw l sz
  refine Met.ofW (cc := cX4_applyRule) (maxL := 4) (ret := (some .boolean)) (by decide) rfl ?_
  intro p e s m args below meth c s₁ B hml hv
  obtain ⟨rfl, aks, rfl, Wd⟩ := k_enter hv
  have C : CallFix p m c cX4_applyRule 4 s _ gG RX4 := ⟨B.exec, B.bytes, hml, findClass_of_methodNamed B.named, fun w h => atoms_spec (ws := Cond.code yX4_applyRule cX4_applyRule 4 (some .boolean) :: gG) B.pre w (List.mem_cons_of_mem _ h)⟩
  have hr := B.returns
  have hlk := B.notSynchronized
  generalize va_A (wK ad ca rf σ) s.heap.size = A at Wd ⊢
  replace Wd : wXK D ad ca rf s σ s.heap A s.heap [] := ⟨Wd, hS, hRF⟩
  refine k_locals (Nat.le_of_ble_eq_true rfl) [(0, .ref (ad 31)), (1, .ref (ad (ruleC x0.toNat)))] rfl (fun ls hl => ?_)
  unfold wp5_P_applyRule at hw
  refine lv_aload_n C.1 C.2.1 dX4_applyRule_0 rfl (lv_at hl 1 rfl) ?_
  refine lv_ifnonnull (tgt := 6) C.1 C.2.1 dX4_applyRule_1 (by decide) ?_
  refine lv_iconst (v := zI 0) C.1 C.2.1 dX4_applyRule_6 (by decide) ?_
  refine lv_istore_n (lv' := [(2, .int (zI 0)), (0, .ref (ad 31)), (1, .ref (ad (ruleC x0.toNat)))]) C.1 C.2.1 dX4_applyRule_7 rfl hl (by decide) rfl (fun ls hl => ?_)
  replace hl := lv_sub hl [1, 2, 0] rfl
  refine k_lp2 hw (fun (l2_8 : Int) (σ8 : Sg) H locs ls => rng l2_8 ∧ wXK D ad ca rf s σ8 H A s.heap locs ∧ lv_has ls 4 [(0, .ref (ad 31)), (1, .ref (ad (ruleC x0.toNat))), (2, .int (zI l2_8))]) (fun (l2_8 : Int) (σ8 : Sg) ls => F0 m 8 ls []) (fun L8 hL8 l2_8 σ8 hw H locs ls hi => ?_) _ _ _ ⟨(show rng 0 from by decide), Wd, lv_sub hl [0, 1, 2] rfl⟩
  obtain ⟨g_l2_8, Wd, hl⟩ := hi
  have hS_σ8 := Wd.2.1
  unfold wp5_P_applyRule_8 at hw
  refine lv_iload_n C.1 C.2.1 dX4_applyRule_8 rfl (lv_at hl 2 rfl) ?_
  refine lv_bipush (v := zI 50) C.1 C.2.1 dX4_applyRule_9 (by decide) ?_
  refine lv_icmp_ge (tgt := 72) C.1 C.2.1 dX4_applyRule_11 (by decide) (fun c11 => ?_) (fun c11 => ?_)
  · have hw := hw.1 (z_le (show rng 50 from by decide) g_l2_8 c11)
    refine lv_iconst (v := zI 1) C.1 C.2.1 dX4_applyRule_72 (by decide) ?_
    exact k_retKi C hr hlk (by decide) Wd ⟨_, rfl, (show rng 1 from by decide), hw⟩ dX4_applyRule_73
  · have hw := hw.2 (z_nle (show rng 50 from by decide) g_l2_8 c11)
    refine lv_aload_n C.1 C.2.1 dX4_applyRule_14 rfl (lv_at hl 1 rfl) ?_
    refine lv_aload_n C.1 C.2.1 dX4_applyRule_15 rfl (lv_at hl 0 rfl) ?_
    refine k_get (v := .ref (ad 119)) C Wd.1 KX4 _ 1 (cx31 _) (by decide) fl_X4_39 rfl dX4_applyRule_16 ?_
    refine lv_iconst (v := zI 0) C.1 C.2.1 dX4_applyRule_19 (by decide) ?_
    refine k_cKi Wd (k_runVK (rest := []) C aks Wd cs_X4_98 (mk_U_placeIn D ad ca rf σ8 Wd.2.1 Wd.2.2 x0 9 0 g_x0 (show (0 : Int) ≤ 9 ∧ (9 : Int) < 35 from by decide) (show rng 0 from by decide) _ hw l _) (cxRule g_x0) rfl rfl rfl rfl ⟨(Nat.le_of_ble_eq_true rfl), (Nat.le_of_ble_eq_true rfl)⟩ hl.1 rfl rfl (Nat.le_of_ble_eq_true rfl) ⟨(Nat.le_of_ble_eq_true rfl), (Nat.le_of_ble_eq_true rfl)⟩ dX4_applyRule_20) (fun r20 σr20 H locs g_r20 hw Wd => ?_)
    have hS_σr20 := Wd.2.1
    refine lv_istore_n (lv' := [(3, .int (zI r20)), (0, .ref (ad 31)), (1, .ref (ad (ruleC x0.toNat))), (2, .int (zI l2_8))]) C.1 C.2.1 dX4_applyRule_23 rfl hl (by decide) rfl (fun ls hl => ?_)
    replace hl := lv_sub hl [1, 2, 3, 0] rfl
    refine lv_iload_n C.1 C.2.1 dX4_applyRule_24 rfl (lv_at hl 3 rfl) ?_
    refine lv_iconst (v := zI (-1)) C.1 C.2.1 dX4_applyRule_25 (by decide) ?_
    refine lv_icmp_ne (tgt := 31) C.1 C.2.1 dX4_applyRule_26 (by decide) (fun c26 => ?_) (fun c26 => ?_)
    · have hw := hw.1 (z_ne g_r20 (show rng (-1) from by decide) c26)
      refine lv_aload_n C.1 C.2.1 dX4_applyRule_31 rfl (lv_at hl 1 rfl) ?_
      refine lv_aload_n C.1 C.2.1 dX4_applyRule_32 rfl (lv_at hl 0 rfl) ?_
      refine k_get (v := .ref (ad 119)) C Wd.1 KX4 _ 1 (cx31 _) (by decide) fl_X4_39 rfl dX4_applyRule_33 ?_
      refine lv_iload_n C.1 C.2.1 dX4_applyRule_36 rfl (lv_at hl 3 rfl) ?_
      refine lv_aload_n C.1 C.2.1 dX4_applyRule_37 rfl (lv_at hl 0 rfl) ?_
      refine k_get (v := .ref (ad 70)) C Wd.1 KX4 _ 8 (cx31 _) (by decide) fl_X4_30 rfl dX4_applyRule_38 ?_
      refine k_get (v := .ref (ad 121)) C Wd.1 KX0 _ 0 (cx70 _) (by decide) fl_X4_102 rfl dX4_applyRule_41 ?_
      refine k_cKi Wd (k_runVK (rest := []) C aks Wd cs_X4_105 (mk_U_rewrite D ad ca rf σr20 Wd.2.1 Wd.2.2 x0 9 r20 10 g_x0 (show (0 : Int) ≤ 9 ∧ (9 : Int) < 35 from by decide) g_r20 (show (0 : Int) ≤ 10 ∧ (10 : Int) < 35 from by decide) _ hw l _) (cxRule g_x0) rfl rfl rfl rfl ⟨(Nat.le_of_ble_eq_true rfl), (Nat.le_of_ble_eq_true rfl)⟩ hl.1 rfl rfl (Nat.le_of_ble_eq_true rfl) ⟨(Nat.le_of_ble_eq_true rfl), (Nat.le_of_ble_eq_true rfl)⟩ dX4_applyRule_44) (fun r44 σr44 H locs g_r44 hw Wd => ?_)
      have hS_σr44 := Wd.2.1
      refine lv_if_ne (tgt := 52) C.1 C.2.1 dX4_applyRule_47 (by decide) (fun c47 => ?_) (fun c47 => ?_)
      · have hw := hw.1 (z0_ne g_r44 c47)
        refine lv_aload_n C.1 C.2.1 dX4_applyRule_52 rfl (lv_at hl 0 rfl) ?_
        refine k_get (v := .ref (ad 119)) C Wd.1 KX4 _ 1 (cx31 _) (by decide) fl_X4_39 rfl dX4_applyRule_53 ?_
        refine lv_aload_n C.1 C.2.1 dX4_applyRule_56 rfl (lv_at hl 0 rfl) ?_
        refine k_get (v := .ref (ad 70)) C Wd.1 KX4 _ 8 (cx31 _) (by decide) fl_X4_30 rfl dX4_applyRule_57 ?_
        refine k_get (v := .ref (ad 121)) C Wd.1 KX0 _ 0 (cx70 _) (by decide) fl_X4_102 rfl dX4_applyRule_60 ?_
        refine k_cKv Wd (k_runVK (rest := []) C aks Wd cs_X4_67 (mk_W_copy D ad ca rf σr44 Wd.2.1 Wd.2.2 9 10 (show (0 : Int) ≤ 9 ∧ (9 : Int) < 35 from by decide) (show (0 : Int) ≤ 10 ∧ (10 : Int) < 35 from by decide) _ hw l _) (cxRow (show (0 : Int) ≤ 9 ∧ (9 : Int) < 35 from by decide)) rfl rfl rfl rfl ⟨(Nat.le_of_ble_eq_true rfl), (Nat.le_of_ble_eq_true rfl)⟩ hl.1 rfl rfl (Nat.le_of_ble_eq_true rfl) ⟨(Nat.le_of_ble_eq_true rfl), (Nat.le_of_ble_eq_true rfl)⟩ dX4_applyRule_63) (fun σr63 H locs hw Wd => ?_)
        have hS_σr63 := Wd.2.1
        refine lv_iinc (v := zI (l2_8 + 1)) (lv' := [(2, .int (zI (l2_8 + 1))), (0, .ref (ad 31)), (1, .ref (ad (ruleC x0.toNat))), (3, .int (zI r20))]) C.1 C.2.1 dX4_applyRule_66 hl (k := 2) rfl (zI_inc _ _ (by decide)) (by decide) rfl (fun ls hl => ?_)
        replace hl := lv_sub hl [1, 2, 0, 3] rfl
        refine lv_goto (tgt := 8) C.1 C.2.1 dX4_applyRule_69 (by decide) ?_
        obtain ⟨g69_2, hw⟩ := hw
        exact hL8 _ _ hw _ _ _ ⟨g69_2, Wd, lv_sub hl [0, 1, 2] rfl⟩
      · have hw := hw.2 (z0_eq g_r44 c47)
        refine lv_iconst (v := zI 0) C.1 C.2.1 dX4_applyRule_50 (by decide) ?_
        exact k_retKi C hr hlk (by decide) Wd ⟨_, rfl, (show rng 0 from by decide), hw⟩ dX4_applyRule_51
    · have hw := hw.2 (z_eq g_r20 (show rng (-1) from by decide) c26)
      refine lv_iconst (v := zI 1) C.1 C.2.1 dX4_applyRule_29 (by decide) ?_
      exact k_retKi C hr hlk (by decide) Wd ⟨_, rfl, (show rng 1 from by decide), hw⟩ dX4_applyRule_30
set_option maxHeartbeats 4000000 in
set_option maxRecDepth 100000 in
theorem mk_W_isTooLarge : ∀ (D : va_G) (ad : Nat → Nat) (ca : Nat → ClassId) (rf : Nat → Nat → Option Nat) (σ : Sg) (hS : rngK σ) (hRF : RFok ad rf) (n0 : Int) (h_n0 : 0 ≤ n0 ∧ n0 < 35) (K : Int → Prop) (hw : wp5_W_isTooLarge σ n0 K) (l : Launch) (sz : Nat), Met l yX8_isTooLarge (Cond.code yX8_isTooLarge cX8_isTooLarge 1 (some .boolean) :: gG) { frames := 3, cells := 0, slots := 0, locals := 106 } (cPre D (tC ca) (wK ad ca rf σ) sz [.ref (ad (rowC n0.toNat))]) (vp_Si (fun r => ∃ x : Int, r = zI x ∧ rng x ∧ K x)) 0 0 (fun _ => False) := by
  intro D ad ca rf σ hS hRF n0 h_n0 K hw l sz
  refine Met.ofW (cc := cX8_isTooLarge) (maxL := 1) (ret := (some .boolean)) (by decide) rfl ?_
  intro p e s m args below meth c s₁ B hml hv
  obtain ⟨rfl, aks, rfl, Wd⟩ := k_enter hv
  have C : CallFix p m c cX8_isTooLarge 1 s _ gG RX8 := ⟨B.exec, B.bytes, hml, findClass_of_methodNamed B.named, fun w h => atoms_spec (ws := Cond.code yX8_isTooLarge cX8_isTooLarge 1 (some .boolean) :: gG) B.pre w (List.mem_cons_of_mem _ h)⟩
  have hr := B.returns
  have hlk := B.notSynchronized
  obtain ⟨A, Wd⟩ : ∃ A, wXK D ad ca rf s σ s.heap A s.heap [] := ⟨_, Wd, hS, hRF⟩
  refine k_locals (Nat.le_of_ble_eq_true rfl) [(0, .ref (ad (rowC n0.toNat)))] rfl (fun ls hl => ?_)
  unfold wp5_W_isTooLarge at hw
  refine lv_aload_n C.1 C.2.1 dX8_isTooLarge_0 rfl (lv_at hl 0 rfl) ?_
  refine k_pi (k_runVK (rest := []) C aks Wd cs_X8_42 (mk_W_statements D ad ca rf σ Wd.2.1 Wd.2.2 n0 h_n0 _ hw l _) (cxRow h_n0) rfl rfl rfl rfl ⟨(Nat.le_of_ble_eq_true rfl), (Nat.le_of_ble_eq_true rfl)⟩ hl.1 rfl rfl (Nat.le_of_ble_eq_true rfl) ⟨(Nat.le_of_ble_eq_true rfl), (Nat.le_of_ble_eq_true rfl)⟩ dX8_isTooLarge_1) (fun y1 hy => ?_)
  obtain ⟨r1, rfl, g_r1, hw⟩ := hy
  refine lv_bipush (v := zI 40) C.1 C.2.1 dX8_isTooLarge_4 (by decide) ?_
  refine lv_icmp_gt (tgt := 19) C.1 C.2.1 dX8_isTooLarge_6 (by decide) (fun c6 => ?_) (fun c6 => ?_)
  · have hw := hw.1 (z_lt (show rng 40 from by decide) g_r1 c6)
    refine lv_iconst (v := zI 1) C.1 C.2.1 dX8_isTooLarge_19 (by decide) ?_
    refine lv_goto (tgt := 24) C.1 C.2.1 dX8_isTooLarge_20 (by decide) ?_
    exact k_zretP C hr hlk (by decide) ⟨_, rfl, (show rng 1 from by decide), hw⟩ dX8_isTooLarge_24
  · have hw := hw.2 (z_nlt (show rng 40 from by decide) g_r1 c6)
    refine lv_aload_n C.1 C.2.1 dX8_isTooLarge_9 rfl (lv_at hl 0 rfl) ?_
    refine k_pi (k_runVK (rest := []) C aks Wd cs_X8_46 (mk_W_expressions D ad ca rf σ Wd.2.1 Wd.2.2 n0 h_n0 _ hw l _) (cxRow h_n0) rfl rfl rfl rfl ⟨(Nat.le_of_ble_eq_true rfl), (Nat.le_of_ble_eq_true rfl)⟩ hl.1 rfl rfl (Nat.le_of_ble_eq_true rfl) ⟨(Nat.le_of_ble_eq_true rfl), (Nat.le_of_ble_eq_true rfl)⟩ dX8_isTooLarge_10) (fun y10 hy => ?_)
    obtain ⟨r10, rfl, g_r10, hw⟩ := hy
    refine lv_sipush (v := zI 300) C.1 C.2.1 dX8_isTooLarge_13 (zS (by decide) (by decide)) ?_
    refine lv_icmp_le (tgt := 23) C.1 C.2.1 dX8_isTooLarge_16 (by decide) (fun c16 => ?_) (fun c16 => ?_)
    · have hw := hw.1 (z_le g_r10 (show rng 300 from by decide) c16)
      refine lv_iconst (v := zI 0) C.1 C.2.1 dX8_isTooLarge_23 (by decide) ?_
      exact k_zretP C hr hlk (by decide) ⟨_, rfl, (show rng 0 from by decide), hw⟩ dX8_isTooLarge_24
    · have hw := hw.2 (z_nle g_r10 (show rng 300 from by decide) c16)
      refine lv_iconst (v := zI 1) C.1 C.2.1 dX8_isTooLarge_19 (by decide) ?_
      refine lv_goto (tgt := 24) C.1 C.2.1 dX8_isTooLarge_20 (by decide) ?_
      exact k_zretP C hr hlk (by decide) ⟨_, rfl, (show rng 1 from by decide), hw⟩ dX8_isTooLarge_24
set_option maxHeartbeats 4000000 in
set_option maxRecDepth 100000 in
theorem mk_P_makeOf : ∀ (D : va_G) (ad : Nat → Nat) (ca : Nat → ClassId) (rf : Nat → Nat → Option Nat) (σ : Sg) (hS : rngK σ) (hRF : RFok ad rf) (x0 : Int) (x1 : Int) (g_x0 : rng x0) (g_x1 : 0 ≤ x1 ∧ x1 < 35) (K : Int → Sg → Prop) (hw : wp5_P_makeOf σ x0 x1 K) (l : Launch) (sz : Nat), Met l yX4_makeOf (Cond.code yX4_makeOf cX4_makeOf 5 (some .boolean) :: gG) { frames := 6, cells := 0, slots := 0, locals := 194 } (cPre D (tC ca) (wK ad ca rf σ) sz [.ref (ad 31), .int (zI x0), .ref (ad (rowC x1.toNat))]) (va_Qi (fun (r : Int32) (u : Sg) => (∃ x : Int, r = zI x ∧ rng x ∧ K x u) ∧ rngK u) (fun u t => cB D (va_A (wK ad ca rf σ) sz) [] (wK ad ca rf u) t) (va_A (wK ad ca rf σ) sz)) 0 0 (va_A (wK ad ca rf σ) sz) := by
  intro D ad ca rf σ hS hRF x0 x1 g_x0 g_x1 K hw l sz
  refine Met.ofW (cc := cX4_makeOf) (maxL := 5) (ret := (some .boolean)) (by decide) rfl ?_
  intro p e s m args below meth c s₁ B hml hv
  obtain ⟨rfl, aks, rfl, Wd⟩ := k_enter hv
  have C : CallFix p m c cX4_makeOf 5 s _ gG RX4 := ⟨B.exec, B.bytes, hml, findClass_of_methodNamed B.named, fun w h => atoms_spec (ws := Cond.code yX4_makeOf cX4_makeOf 5 (some .boolean) :: gG) B.pre w (List.mem_cons_of_mem _ h)⟩
  have hr := B.returns
  have hlk := B.notSynchronized
  generalize va_A (wK ad ca rf σ) s.heap.size = A at Wd ⊢
  replace Wd : wXK D ad ca rf s σ s.heap A s.heap [] := ⟨Wd, hS, hRF⟩
  refine k_locals (Nat.le_of_ble_eq_true rfl) [(0, .ref (ad 31)), (1, .int (zI x0)), (2, .ref (ad (rowC x1.toNat)))] rfl (fun ls hl => ?_)
  unfold wp5_P_makeOf at hw
  refine lv_iload_n C.1 C.2.1 dX4_makeOf_0 rfl (lv_at hl 1 rfl) ?_
  refine k_pi (k_runS (rest := []) C aks Wd.1 cs_X4_63 (mk_P_isPass D x0 g_x0 _ hw l _) [] rfl (by decide) [] rfl rfl rfl ⟨(Nat.le_of_ble_eq_true rfl), (Nat.le_of_ble_eq_true rfl)⟩ hl.1 rfl rfl (Nat.le_of_ble_eq_true rfl) ⟨(Nat.le_of_ble_eq_true rfl), (Nat.le_of_ble_eq_true rfl)⟩ dX4_makeOf_1) (fun y1 hy => ?_)
  obtain ⟨r1, rfl, g_r1, hw⟩ := hy
  refine lv_if_ne (tgt := 9) C.1 C.2.1 dX4_makeOf_4 (by decide) (fun c4 => ?_) (fun c4 => ?_)
  · have hw := hw.1 (z0_ne g_r1 c4)
    refine lv_aload_n C.1 C.2.1 dX4_makeOf_9 rfl (lv_at hl 0 rfl) ?_
    refine k_get (v := .ref (ad 119)) C Wd.1 KX4 _ 1 (cx31 _) (by decide) fl_X4_39 rfl dX4_makeOf_10 ?_
    refine lv_aload_n C.1 C.2.1 dX4_makeOf_13 rfl (lv_at hl 2 rfl) ?_
    refine k_cKv Wd (k_runVK (rest := []) C aks Wd cs_X4_67 (mk_W_copy D ad ca rf σ Wd.2.1 Wd.2.2 9 x1 (show (0 : Int) ≤ 9 ∧ (9 : Int) < 35 from by decide) g_x1 _ hw l _) (cxRow (show (0 : Int) ≤ 9 ∧ (9 : Int) < 35 from by decide)) rfl rfl rfl rfl ⟨(Nat.le_of_ble_eq_true rfl), (Nat.le_of_ble_eq_true rfl)⟩ hl.1 rfl rfl (Nat.le_of_ble_eq_true rfl) ⟨(Nat.le_of_ble_eq_true rfl), (Nat.le_of_ble_eq_true rfl)⟩ dX4_makeOf_14) (fun σr14 H locs hw Wd => ?_)
    have hS_σr14 := Wd.2.1
    refine lv_iconst (v := zI 0) C.1 C.2.1 dX4_makeOf_17 (by decide) ?_
    refine lv_istore_n (lv' := [(3, .int (zI 0)), (0, .ref (ad 31)), (1, .int (zI x0)), (2, .ref (ad (rowC x1.toNat)))]) C.1 C.2.1 dX4_makeOf_18 rfl hl (by decide) rfl (fun ls hl => ?_)
    replace hl := lv_sub hl [1, 2, 3, 0] rfl
    refine k_lp2 hw (fun (l3_19 : Int) (σ19 : Sg) H locs ls => rng l3_19 ∧ wXK D ad ca rf s σ19 H A s.heap locs ∧ lv_has ls 5 [(0, .ref (ad 31)), (1, .int (zI x0)), (3, .int (zI l3_19))]) (fun (l3_19 : Int) (σ19 : Sg) ls => F0 m 19 ls []) (fun L19 hL19 l3_19 σ19 hw H locs ls hi => ?_) _ _ _ ⟨(show rng 0 from by decide), Wd, lv_sub hl [0, 1, 3] rfl⟩
    obtain ⟨g_l3_19, Wd, hl⟩ := hi
    have hS_σ19 := Wd.2.1
    unfold wp5_P_makeOf_19 at hw
    refine lv_iload_n C.1 C.2.1 dX4_makeOf_19 rfl (lv_at hl 2 rfl) ?_
    refine lv_aload_n C.1 C.2.1 dX4_makeOf_20 rfl (lv_at hl 0 rfl) ?_
    refine k_get (v := .ref (ad 69)) C Wd.1 KX4 _ 7 (cx31 _) (by decide) fl_X4_23 rfl dX4_makeOf_21 ?_
    refine lv_iload_n C.1 C.2.1 dX4_makeOf_24 rfl (lv_at hl 1 rfl) ?_
    obtain ⟨n25_0, hw⟩ := hw
    refine k_ialdK (g := (σ19.2.1 69)) C Wd (cx69 _) (tC_at (by decide) rfl) n25_0 (by decide) dX4_makeOf_25 ?_
    have ga25 : rng (σ19.2.1 69 x0) := rngL (fun j => (Wd.2.1).2.1 69 j) n25_0
    refine lv_icmp_ge (tgt := 191) C.1 C.2.1 dX4_makeOf_26 (by decide) (fun c26 => ?_) (fun c26 => ?_)
    · have hw := hw.1 (z_le ga25 g_l3_19 c26)
      refine lv_iconst (v := zI 1) C.1 C.2.1 dX4_makeOf_191 (by decide) ?_
      exact k_retKi C hr hlk (by decide) Wd ⟨_, rfl, (show rng 1 from by decide), hw⟩ dX4_makeOf_192
    · have hw := hw.2 (z_nle ga25 g_l3_19 c26)
      refine lv_iload_n C.1 C.2.1 dX4_makeOf_29 rfl (lv_at hl 2 rfl) ?_
      refine lv_bipush (v := zI 8) C.1 C.2.1 dX4_makeOf_30 (by decide) ?_
      refine lv_icmp_ge (tgt := 191) C.1 C.2.1 dX4_makeOf_32 (by decide) (fun c32 => ?_) (fun c32 => ?_)
      · have hw := hw.1 (z_le (show rng 8 from by decide) g_l3_19 c32)
        refine lv_iconst (v := zI 1) C.1 C.2.1 dX4_makeOf_191 (by decide) ?_
        exact k_retKi C hr hlk (by decide) Wd ⟨_, rfl, (show rng 1 from by decide), hw⟩ dX4_makeOf_192
      · have hw := hw.2 (z_nle (show rng 8 from by decide) g_l3_19 c32)
        refine lv_iconst (v := zI 1) C.1 C.2.1 dX4_makeOf_35 (by decide) ?_
        refine lv_istore (lv' := [(4, .int (zI 1)), (0, .ref (ad 31)), (1, .int (zI x0)), (3, .int (zI l3_19))]) C.1 C.2.1 dX4_makeOf_36 hl (by decide) rfl (fun ls hl => ?_)
        replace hl := lv_sub hl [1, 2, 3, 0] rfl
        refine lv_aload_n C.1 C.2.1 dX4_makeOf_38 rfl (lv_at hl 0 rfl) ?_
        refine k_get (v := .ref (ad 68)) C Wd.1 KX4 _ 6 (cx31 _) (by decide) fl_X4_20 rfl dX4_makeOf_39 ?_
        refine lv_iload_n C.1 C.2.1 dX4_makeOf_42 rfl (lv_at hl 1 rfl) ?_
        refine k_item (i := x0) C Wd n25_0 dX4_makeOf_43 ?_
        refine lv_iload_n C.1 C.2.1 dX4_makeOf_44 rfl (lv_at hl 2 rfl) ?_
        obtain ⟨n45_0, hw⟩ := hw
        refine k_ialdK (g := (σ19.2.2.2 1 x0)) C Wd (cxItem n25_0) (tyI n25_0) n45_0 (by decide) dX4_makeOf_45 ?_
        have ga45 : rng (σ19.2.2.2 1 x0 l3_19) := rngL (rgZ (c := 1) Wd.2.1 n25_0) n45_0
        refine k_cut2 (fun (l4_168 : Int) (σ168 : Sg) H locs ls => rng l4_168 ∧ wp5_P_makeOf_168 K l3_19 L19 l4_168 σ168 ∧ wXK D ad ca rf s σ168 H A s.heap locs ∧ lv_has ls 5 [(0, .ref (ad 31)), (1, .int (zI x0)), (3, .int (zI l3_19)), (4, .int (zI l4_168))]) (fun (l4_168 : Int) (σ168 : Sg) ls => F0 m 168 ls []) (fun l4_168 σ168 H locs ls hi => ?_) (fun J168 => ?_)
        · obtain ⟨g_l4_168, hw, Wd, hl⟩ := hi
          have hS_σ168 := Wd.2.1
          unfold wp5_P_makeOf_168 at hw
          refine lv_iload C.1 C.2.1 dX4_makeOf_168 (lv_at hl 3 rfl) ?_
          refine lv_if_eq (tgt := 183) C.1 C.2.1 dX4_makeOf_170 (by decide) (fun c170 => ?_) (fun c170 => ?_)
          · have hw := hw.1 (z0_eq g_l4_168 c170)
            refine lv_iconst (v := zI 0) C.1 C.2.1 dX4_makeOf_183 (by decide) ?_
            exact k_retKi C hr hlk (by decide) Wd ⟨_, rfl, (show rng 0 from by decide), hw⟩ dX4_makeOf_184
          · have hw := hw.2 (z0_ne g_l4_168 c170)
            refine lv_aload_n C.1 C.2.1 dX4_makeOf_173 rfl (lv_at hl 0 rfl) ?_
            refine k_get (v := .ref (ad 119)) C Wd.1 KX4 _ 1 (cx31 _) (by decide) fl_X4_39 rfl dX4_makeOf_174 ?_
            refine k_pi (k_runVK (rest := []) C aks Wd cs_X4_94 (mk_W_isTooLarge D ad ca rf σ168 Wd.2.1 Wd.2.2 9 (show (0 : Int) ≤ 9 ∧ (9 : Int) < 35 from by decide) _ hw l _) (cxRow (show (0 : Int) ≤ 9 ∧ (9 : Int) < 35 from by decide)) rfl rfl rfl rfl ⟨(Nat.le_of_ble_eq_true rfl), (Nat.le_of_ble_eq_true rfl)⟩ hl.1 rfl rfl (Nat.le_of_ble_eq_true rfl) ⟨(Nat.le_of_ble_eq_true rfl), (Nat.le_of_ble_eq_true rfl)⟩ dX4_makeOf_177) (fun y177 hy => ?_)
            obtain ⟨r177, rfl, g_r177, hw⟩ := hy
            refine lv_if_eq (tgt := 185) C.1 C.2.1 dX4_makeOf_180 (by decide) (fun c180 => ?_) (fun c180 => ?_)
            · have hw := hw.1 (z0_eq g_r177 c180)
              refine lv_iinc (v := zI (l3_19 + 1)) (lv' := [(3, .int (zI (l3_19 + 1))), (0, .ref (ad 31)), (1, .int (zI x0)), (4, .int (zI l4_168))]) C.1 C.2.1 dX4_makeOf_185 hl (k := 2) rfl (zI_inc _ _ (by decide)) (by decide) rfl (fun ls hl => ?_)
              replace hl := lv_sub hl [1, 2, 0, 3] rfl
              refine lv_goto (tgt := 19) C.1 C.2.1 dX4_makeOf_188 (by decide) ?_
              obtain ⟨g188_5, hw⟩ := hw
              exact hL19 _ _ hw _ _ _ ⟨g188_5, Wd, lv_sub hl [0, 1, 2] rfl⟩
            · have hw := hw.2 (z0_ne g_r177 c180)
              refine lv_iconst (v := zI 0) C.1 C.2.1 dX4_makeOf_183 (by decide) ?_
              exact k_retKi C hr hlk (by decide) Wd ⟨_, rfl, (show rng 0 from by decide), hw⟩ dX4_makeOf_184
        by_cases c46_20 : (σ19.2.2.2 1 x0 l3_19) = 20
        · have hw := hw.1 c46_20
          refine lv_tableIn (off := 34) (tgt := 80) C.1 C.2.1 dX4_makeOf_46 (by rw [zI_toInt ga45]; omega) (by rw [zI_toInt ga45]; omega) (by rw [zI_toInt ga45, c46_20]; rfl) (by decide) ?_
          refine lv_aload_n C.1 C.2.1 dX4_makeOf_80 rfl (lv_at hl 0 rfl) ?_
          refine k_get (v := .ref (ad 70)) C Wd.1 KX4 _ 8 (cx31 _) (by decide) fl_X4_30 rfl dX4_makeOf_81 ?_
          refine lv_aload_n C.1 C.2.1 dX4_makeOf_84 rfl (lv_at hl 0 rfl) ?_
          refine k_get (v := .ref (ad 119)) C Wd.1 KX4 _ 1 (cx31 _) (by decide) fl_X4_39 rfl dX4_makeOf_85 ?_
          refine k_cKv Wd (k_runVK (rest := []) C aks Wd cs_X4_71 (mk_A_fold D ad ca rf σ19 Wd.2.1 Wd.2.2 9 (show (0 : Int) ≤ 9 ∧ (9 : Int) < 35 from by decide) _ hw l _) (cx70 _) rfl rfl rfl rfl ⟨(Nat.le_of_ble_eq_true rfl), (Nat.le_of_ble_eq_true rfl)⟩ hl.1 rfl rfl (Nat.le_of_ble_eq_true rfl) ⟨(Nat.le_of_ble_eq_true rfl), (Nat.le_of_ble_eq_true rfl)⟩ dX4_makeOf_88) (fun σr88 H locs hw Wd => ?_)
          have hS_σr88 := Wd.2.1
          refine lv_goto (tgt := 168) C.1 C.2.1 dX4_makeOf_91 (by decide) ?_
          exact J168 1 σr88 _ _ _ ⟨(show rng 1 from by decide), hw, Wd, lv_sub hl [0, 1, 2, 3] rfl⟩
        by_cases c46_21 : (σ19.2.2.2 1 x0 l3_19) = 21
        · have hw := hw.2.1 c46_21
          refine lv_tableIn (off := 48) (tgt := 94) C.1 C.2.1 dX4_makeOf_46 (by rw [zI_toInt ga45]; omega) (by rw [zI_toInt ga45]; omega) (by rw [zI_toInt ga45, c46_21]; rfl) (by decide) ?_
          refine lv_aload_n C.1 C.2.1 dX4_makeOf_94 rfl (lv_at hl 0 rfl) ?_
          refine k_get (v := .ref (ad 70)) C Wd.1 KX4 _ 8 (cx31 _) (by decide) fl_X4_30 rfl dX4_makeOf_95 ?_
          refine lv_aload_n C.1 C.2.1 dX4_makeOf_98 rfl (lv_at hl 0 rfl) ?_
          refine k_get (v := .ref (ad 119)) C Wd.1 KX4 _ 1 (cx31 _) (by decide) fl_X4_39 rfl dX4_makeOf_99 ?_
          refine k_cKv Wd (k_runVK (rest := []) C aks Wd cs_X4_74 (mk_A_dead D ad ca rf σ19 Wd.2.1 Wd.2.2 9 (show (0 : Int) ≤ 9 ∧ (9 : Int) < 35 from by decide) _ hw l _) (cx70 _) rfl rfl rfl rfl ⟨(Nat.le_of_ble_eq_true rfl), (Nat.le_of_ble_eq_true rfl)⟩ hl.1 rfl rfl (Nat.le_of_ble_eq_true rfl) ⟨(Nat.le_of_ble_eq_true rfl), (Nat.le_of_ble_eq_true rfl)⟩ dX4_makeOf_102) (fun σr102 H locs hw Wd => ?_)
          have hS_σr102 := Wd.2.1
          refine lv_goto (tgt := 168) C.1 C.2.1 dX4_makeOf_105 (by decide) ?_
          exact J168 1 σr102 _ _ _ ⟨(show rng 1 from by decide), hw, Wd, lv_sub hl [0, 1, 2, 3] rfl⟩
        by_cases c46_22 : (σ19.2.2.2 1 x0 l3_19) = 22
        · have hw := hw.2.2.1 c46_22
          refine lv_tableIn (off := 62) (tgt := 108) C.1 C.2.1 dX4_makeOf_46 (by rw [zI_toInt ga45]; omega) (by rw [zI_toInt ga45]; omega) (by rw [zI_toInt ga45, c46_22]; rfl) (by decide) ?_
          refine lv_aload_n C.1 C.2.1 dX4_makeOf_108 rfl (lv_at hl 0 rfl) ?_
          refine k_get (v := .ref (ad 70)) C Wd.1 KX4 _ 8 (cx31 _) (by decide) fl_X4_30 rfl dX4_makeOf_109 ?_
          refine lv_aload_n C.1 C.2.1 dX4_makeOf_112 rfl (lv_at hl 0 rfl) ?_
          refine k_get (v := .ref (ad 119)) C Wd.1 KX4 _ 1 (cx31 _) (by decide) fl_X4_39 rfl dX4_makeOf_113 ?_
          refine k_cKv Wd (k_runVK (rest := []) C aks Wd cs_X4_77 (mk_A_hastyDead D ad ca rf σ19 Wd.2.1 Wd.2.2 9 (show (0 : Int) ≤ 9 ∧ (9 : Int) < 35 from by decide) _ hw l _) (cx70 _) rfl rfl rfl rfl ⟨(Nat.le_of_ble_eq_true rfl), (Nat.le_of_ble_eq_true rfl)⟩ hl.1 rfl rfl (Nat.le_of_ble_eq_true rfl) ⟨(Nat.le_of_ble_eq_true rfl), (Nat.le_of_ble_eq_true rfl)⟩ dX4_makeOf_116) (fun σr116 H locs hw Wd => ?_)
          have hS_σr116 := Wd.2.1
          refine lv_goto (tgt := 168) C.1 C.2.1 dX4_makeOf_119 (by decide) ?_
          exact J168 1 σr116 _ _ _ ⟨(show rng 1 from by decide), hw, Wd, lv_sub hl [0, 1, 2, 3] rfl⟩
        by_cases c46_23 : (σ19.2.2.2 1 x0 l3_19) = 23
        · have hw := hw.2.2.2.1 c46_23
          refine lv_tableIn (off := 76) (tgt := 122) C.1 C.2.1 dX4_makeOf_46 (by rw [zI_toInt ga45]; omega) (by rw [zI_toInt ga45]; omega) (by rw [zI_toInt ga45, c46_23]; rfl) (by decide) ?_
          refine lv_aload_n C.1 C.2.1 dX4_makeOf_122 rfl (lv_at hl 0 rfl) ?_
          refine k_get (v := .ref (ad 70)) C Wd.1 KX4 _ 8 (cx31 _) (by decide) fl_X4_30 rfl dX4_makeOf_123 ?_
          refine lv_aload_n C.1 C.2.1 dX4_makeOf_126 rfl (lv_at hl 0 rfl) ?_
          refine k_get (v := .ref (ad 119)) C Wd.1 KX4 _ 1 (cx31 _) (by decide) fl_X4_39 rfl dX4_makeOf_127 ?_
          refine k_cKv Wd (k_runVK (rest := []) C aks Wd cs_X4_80 (mk_A_hastyCopy D ad ca rf σ19 Wd.2.1 Wd.2.2 9 (show (0 : Int) ≤ 9 ∧ (9 : Int) < 35 from by decide) _ hw l _) (cx70 _) rfl rfl rfl rfl ⟨(Nat.le_of_ble_eq_true rfl), (Nat.le_of_ble_eq_true rfl)⟩ hl.1 rfl rfl (Nat.le_of_ble_eq_true rfl) ⟨(Nat.le_of_ble_eq_true rfl), (Nat.le_of_ble_eq_true rfl)⟩ dX4_makeOf_130) (fun σr130 H locs hw Wd => ?_)
          have hS_σr130 := Wd.2.1
          refine lv_goto (tgt := 168) C.1 C.2.1 dX4_makeOf_133 (by decide) ?_
          exact J168 1 σr130 _ _ _ ⟨(show rng 1 from by decide), hw, Wd, lv_sub hl [0, 1, 2, 3] rfl⟩
        by_cases c46_24 : (σ19.2.2.2 1 x0 l3_19) = 24
        · have hw := hw.2.2.2.2.1 c46_24
          refine lv_tableIn (off := 90) (tgt := 136) C.1 C.2.1 dX4_makeOf_46 (by rw [zI_toInt ga45]; omega) (by rw [zI_toInt ga45]; omega) (by rw [zI_toInt ga45, c46_24]; rfl) (by decide) ?_
          refine lv_aload_n C.1 C.2.1 dX4_makeOf_136 rfl (lv_at hl 0 rfl) ?_
          refine k_get (v := .ref (ad 70)) C Wd.1 KX4 _ 8 (cx31 _) (by decide) fl_X4_30 rfl dX4_makeOf_137 ?_
          refine lv_aload_n C.1 C.2.1 dX4_makeOf_140 rfl (lv_at hl 0 rfl) ?_
          refine k_get (v := .ref (ad 119)) C Wd.1 KX4 _ 1 (cx31 _) (by decide) fl_X4_39 rfl dX4_makeOf_141 ?_
          refine k_cKv Wd (k_runVK (rest := []) C aks Wd cs_X4_83 (mk_A_unroll D ad ca rf σ19 Wd.2.1 Wd.2.2 9 (show (0 : Int) ≤ 9 ∧ (9 : Int) < 35 from by decide) _ hw l _) (cx70 _) rfl rfl rfl rfl ⟨(Nat.le_of_ble_eq_true rfl), (Nat.le_of_ble_eq_true rfl)⟩ hl.1 rfl rfl (Nat.le_of_ble_eq_true rfl) ⟨(Nat.le_of_ble_eq_true rfl), (Nat.le_of_ble_eq_true rfl)⟩ dX4_makeOf_144) (fun σr144 H locs hw Wd => ?_)
          have hS_σr144 := Wd.2.1
          refine lv_goto (tgt := 168) C.1 C.2.1 dX4_makeOf_147 (by decide) ?_
          exact J168 1 σr144 _ _ _ ⟨(show rng 1 from by decide), hw, Wd, lv_sub hl [0, 1, 2, 3] rfl⟩
        have hw := hw.2.2.2.2.2 (by omega)
        refine lv_tableOut (tgt := 150) C.1 C.2.1 dX4_makeOf_46 (by rw [zI_toInt ga45]; omega) (by decide) ?_
        refine lv_aload_n C.1 C.2.1 dX4_makeOf_150 rfl (lv_at hl 0 rfl) ?_
        refine lv_aload_n C.1 C.2.1 dX4_makeOf_151 rfl (lv_at hl 0 rfl) ?_
        refine lv_aload_n C.1 C.2.1 dX4_makeOf_152 rfl (lv_at hl 0 rfl) ?_
        refine k_get (v := .ref (ad 68)) C Wd.1 KX4 _ 6 (cx31 _) (by decide) fl_X4_20 rfl dX4_makeOf_153 ?_
        refine lv_iload_n C.1 C.2.1 dX4_makeOf_156 rfl (lv_at hl 1 rfl) ?_
        refine k_item (i := x0) C Wd n25_0 dX4_makeOf_157 ?_
        refine lv_iload_n C.1 C.2.1 dX4_makeOf_158 rfl (lv_at hl 2 rfl) ?_
        refine k_ialdK (g := (σ19.2.2.2 1 x0)) C Wd (cxItem n25_0) (tyI n25_0) n45_0 (by decide) dX4_makeOf_159 ?_
        refine k_pq (k_runVK (rest := [.ref (ad 31)]) C aks Wd cs_X4_86 (mk_P_ruleAt D ad ca rf σ19 Wd.2.1 Wd.2.2 (σ19.2.2.2 1 x0 l3_19) ga45 _ hw l _) (cx31 _) rfl rfl rfl rfl ⟨(Nat.le_of_ble_eq_true rfl), (Nat.le_of_ble_eq_true rfl)⟩ hl.1 rfl rfl (Nat.le_of_ble_eq_true rfl) ⟨(Nat.le_of_ble_eq_true rfl), (Nat.le_of_ble_eq_true rfl)⟩ dX4_makeOf_160) (fun y160 hy => ?_)
        obtain ⟨r160, rfl, hw⟩ := hy
        by_cases c160 : r160 < 0
        · have hw := hw.1 c160
          rw [rfO_null c160]
          show W p l e _ s m _ below meth c _ _ _ _ _ (F0 m _ ls (.null :: [.ref (ad 31)]))
          refine k_cKi Wd (k_runVK (rest := []) C aks Wd cs_X4_90 (mk_P_applyRule_n0 D ad ca rf σ19 Wd.2.1 Wd.2.2   _ hw l _) (cx31 _) rfl rfl rfl rfl ⟨(Nat.le_of_ble_eq_true rfl), (Nat.le_of_ble_eq_true rfl)⟩ hl.1 rfl rfl (Nat.le_of_ble_eq_true rfl) ⟨(Nat.le_of_ble_eq_true rfl), (Nat.le_of_ble_eq_true rfl)⟩ dX4_makeOf_163) (fun r163 σr163 H locs g_r163 hw Wd => ?_)
          have hS_σr163 := Wd.2.1
          refine lv_istore (lv' := [(4, .int (zI r163)), (0, .ref (ad 31)), (1, .int (zI x0)), (3, .int (zI l3_19))]) C.1 C.2.1 dX4_makeOf_166 hl (by decide) rfl (fun ls hl => ?_)
          replace hl := lv_sub hl [1, 2, 3, 0] rfl
          exact J168 r163 σr163 _ _ _ ⟨g_r163, hw, Wd, lv_sub hl [0, 1, 2, 3] rfl⟩
        · have hw := hw.2 (Int.not_lt.mp c160)
          rw [rfO_nn (Int.not_lt.mp c160)]
          obtain ⟨n160_0, hw⟩ := hw
          show W p l e _ s m _ below meth c _ _ _ _ _ (F0 m _ ls (.ref (ad (ruleC r160.toNat)) :: [.ref (ad 31)]))
          refine k_cKi Wd (k_runVK (rest := []) C aks Wd cs_X4_90 (mk_P_applyRule D ad ca rf σ19 Wd.2.1 Wd.2.2 r160 n160_0 _ hw l _) (cx31 _) rfl rfl rfl rfl ⟨(Nat.le_of_ble_eq_true rfl), (Nat.le_of_ble_eq_true rfl)⟩ hl.1 rfl rfl (Nat.le_of_ble_eq_true rfl) ⟨(Nat.le_of_ble_eq_true rfl), (Nat.le_of_ble_eq_true rfl)⟩ dX4_makeOf_163) (fun r163 σr163 H locs g_r163 hw Wd => ?_)
          have hS_σr163 := Wd.2.1
          refine lv_istore (lv' := [(4, .int (zI r163)), (0, .ref (ad 31)), (1, .int (zI x0)), (3, .int (zI l3_19))]) C.1 C.2.1 dX4_makeOf_166 hl (by decide) rfl (fun ls hl => ?_)
          replace hl := lv_sub hl [1, 2, 3, 0] rfl
          exact J168 r163 σr163 _ _ _ ⟨g_r163, hw, Wd, lv_sub hl [0, 1, 2, 3] rfl⟩
  · have hw := hw.2 (z0_eq g_r1 c4)
    refine lv_iconst (v := zI 0) C.1 C.2.1 dX4_makeOf_7 (by decide) ?_
    exact k_retKi C hr hlk (by decide) Wd ⟨_, rfl, (show rng 0 from by decide), hw⟩ dX4_makeOf_8
set_option maxHeartbeats 4000000 in
set_option maxRecDepth 100000 in
theorem mk_S_make : ∀ (D : va_G) (ad : Nat → Nat) (ca : Nat → ClassId) (rf : Nat → Nat → Option Nat) (σ : Sg) (hS : rngK σ) (hRF : RFok ad rf) (x0 : Int) (x1 : Int) (x2 : Int) (g_x0 : rng x0) (g_x1 : rng x1) (g_x2 : rng x2) (K : Int → Sg → Prop) (hw : wp5_S_make σ x0 x1 x2 K) (l : Launch) (sz : Nat), Met l yX11_make (Cond.code yX11_make cX11_make 6 (some .int) :: gG) { frames := 7, cells := 0, slots := 0, locals := 218 } (cPre D (tC ca) (wK ad ca rf σ) sz [.ref (ad 0), .int (zI x0), .int (zI x1), .int (zI x2)]) (va_Qi (fun (r : Int32) (u : Sg) => (∃ x : Int, r = zI x ∧ rng x ∧ K x u) ∧ rngK u) (fun u t => cB D (va_A (wK ad ca rf σ) sz) [] (wK ad ca rf u) t) (va_A (wK ad ca rf σ) sz)) 0 0 (va_A (wK ad ca rf σ) sz) := by
  intro D ad ca rf σ hS hRF x0 x1 x2 g_x0 g_x1 g_x2 K hw l sz
  refine Met.ofW (cc := cX11_make) (maxL := 6) (ret := (some .int)) (by decide) rfl ?_
  intro p e s m args below meth c s₁ B hml hv
  obtain ⟨rfl, aks, rfl, Wd⟩ := k_enter hv
  have C : CallFix p m c cX11_make 6 s _ gG RX11 := ⟨B.exec, B.bytes, hml, findClass_of_methodNamed B.named, fun w h => atoms_spec (ws := Cond.code yX11_make cX11_make 6 (some .int) :: gG) B.pre w (List.mem_cons_of_mem _ h)⟩
  have hr := B.returns
  have hlk := B.notSynchronized
  generalize va_A (wK ad ca rf σ) s.heap.size = A at Wd ⊢
  replace Wd : wXK D ad ca rf s σ s.heap A s.heap [] := ⟨Wd, hS, hRF⟩
  refine k_locals (Nat.le_of_ble_eq_true rfl) [(0, .ref (ad 0)), (1, .int (zI x0)), (2, .int (zI x1)), (3, .int (zI x2))] rfl (fun ls hl => ?_)
  unfold wp5_S_make at hw
  refine lv_aload_n C.1 C.2.1 dX11_make_0 rfl (lv_at hl 0 rfl) ?_
  refine lv_iload_n C.1 C.2.1 dX11_make_1 rfl (lv_at hl 2 rfl) ?_
  refine k_pq (k_runVK (rest := []) C aks Wd cs_X11_77 (mk_S_slotAt D ad ca rf σ Wd.2.1 Wd.2.2 x1 g_x1 _ hw l _) (cx0 _) rfl rfl rfl rfl ⟨(Nat.le_of_ble_eq_true rfl), (Nat.le_of_ble_eq_true rfl)⟩ hl.1 rfl rfl (Nat.le_of_ble_eq_true rfl) ⟨(Nat.le_of_ble_eq_true rfl), (Nat.le_of_ble_eq_true rfl)⟩ dX11_make_2) (fun y2 hy => ?_)
  obtain ⟨r2, rfl, hw⟩ := hy
  by_cases c2 : r2 < 0
  · have hw := hw.1 c2
    rw [rfO_null c2]
    show W p l e _ s m _ below meth c _ _ _ _ _ (F0 m _ ls (.null :: []))
    refine lv_astoreN (lv' := [(4, .null), (0, .ref (ad 0)), (1, .int (zI x0)), (2, .int (zI x1)), (3, .int (zI x2))]) C.1 C.2.1 dX11_make_5 hl (by decide) rfl (fun ls hl => ?_)
    replace hl := lv_sub hl [1, 2, 3, 4, 0] rfl
    refine lv_aload_n C.1 C.2.1 dX11_make_7 rfl (lv_at hl 0 rfl) ?_
    refine lv_iload_n C.1 C.2.1 dX11_make_8 rfl (lv_at hl 3 rfl) ?_
    refine k_pq (k_runVK (rest := []) C aks Wd cs_X11_77 (mk_S_slotAt D ad ca rf σ Wd.2.1 Wd.2.2 x2 g_x2 _ hw l _) (cx0 _) rfl rfl rfl rfl ⟨(Nat.le_of_ble_eq_true rfl), (Nat.le_of_ble_eq_true rfl)⟩ hl.1 rfl rfl (Nat.le_of_ble_eq_true rfl) ⟨(Nat.le_of_ble_eq_true rfl), (Nat.le_of_ble_eq_true rfl)⟩ dX11_make_9) (fun y9 hy => ?_)
    obtain ⟨r9, rfl, hw⟩ := hy
    by_cases c9 : r9 < 0
    · have hw := hw.1 c9
      rw [rfO_null c9]
      show W p l e _ s m _ below meth c _ _ _ _ _ (F0 m _ ls (.null :: []))
      refine lv_astoreN (lv' := [(5, .null), (0, .ref (ad 0)), (1, .int (zI x0)), (2, .int (zI x1)), (3, .int (zI x2)), (4, .null)]) C.1 C.2.1 dX11_make_12 hl (by decide) rfl (fun ls hl => ?_)
      replace hl := lv_sub hl [1, 2, 3, 4, 5, 0] rfl
      refine lv_aloadN C.1 C.2.1 dX11_make_14 (lv_at hl 4 rfl) ?_
      refine lv_ifnullN (tgt := 37) C.1 C.2.1 dX11_make_16 (by decide) ?_
      refine lv_iconst (v := zI (-1)) C.1 C.2.1 dX11_make_37 (by decide) ?_
      exact k_retKi C hr hlk rfl Wd ⟨_, rfl, (show rng (-1) from by decide), hw⟩ dX11_make_38
    · have hw := hw.2 (Int.not_lt.mp c9)
      rw [rfO_nn (Int.not_lt.mp c9)]
      obtain ⟨n9_0, hw⟩ := hw
      show W p l e _ s m _ below meth c _ _ _ _ _ (F0 m _ ls (.ref (ad (rowC r9.toNat)) :: []))
      refine lv_astore (lv' := [(5, .ref (ad (rowC r9.toNat))), (0, .ref (ad 0)), (1, .int (zI x0)), (2, .int (zI x1)), (3, .int (zI x2)), (4, .null)]) C.1 C.2.1 dX11_make_12 hl (by decide) rfl (fun ls hl => ?_)
      replace hl := lv_sub hl [1, 2, 3, 4, 5, 0] rfl
      refine lv_aloadN C.1 C.2.1 dX11_make_14 (lv_at hl 4 rfl) ?_
      refine lv_ifnullN (tgt := 37) C.1 C.2.1 dX11_make_16 (by decide) ?_
      refine lv_iconst (v := zI (-1)) C.1 C.2.1 dX11_make_37 (by decide) ?_
      exact k_retKi C hr hlk rfl Wd ⟨_, rfl, (show rng (-1) from by decide), hw⟩ dX11_make_38
  · have hw := hw.2 (Int.not_lt.mp c2)
    rw [rfO_nn (Int.not_lt.mp c2)]
    obtain ⟨n2_0, hw⟩ := hw
    show W p l e _ s m _ below meth c _ _ _ _ _ (F0 m _ ls (.ref (ad (rowC r2.toNat)) :: []))
    refine lv_astore (lv' := [(4, .ref (ad (rowC r2.toNat))), (0, .ref (ad 0)), (1, .int (zI x0)), (2, .int (zI x1)), (3, .int (zI x2))]) C.1 C.2.1 dX11_make_5 hl (by decide) rfl (fun ls hl => ?_)
    replace hl := lv_sub hl [1, 2, 3, 4, 0] rfl
    refine lv_aload_n C.1 C.2.1 dX11_make_7 rfl (lv_at hl 0 rfl) ?_
    refine lv_iload_n C.1 C.2.1 dX11_make_8 rfl (lv_at hl 3 rfl) ?_
    refine k_pq (k_runVK (rest := []) C aks Wd cs_X11_77 (mk_S_slotAt D ad ca rf σ Wd.2.1 Wd.2.2 x2 g_x2 _ hw l _) (cx0 _) rfl rfl rfl rfl ⟨(Nat.le_of_ble_eq_true rfl), (Nat.le_of_ble_eq_true rfl)⟩ hl.1 rfl rfl (Nat.le_of_ble_eq_true rfl) ⟨(Nat.le_of_ble_eq_true rfl), (Nat.le_of_ble_eq_true rfl)⟩ dX11_make_9) (fun y9 hy => ?_)
    obtain ⟨r9, rfl, hw⟩ := hy
    by_cases c9 : r9 < 0
    · have hw := hw.1 c9
      rw [rfO_null c9]
      show W p l e _ s m _ below meth c _ _ _ _ _ (F0 m _ ls (.null :: []))
      refine lv_astoreN (lv' := [(5, .null), (0, .ref (ad 0)), (1, .int (zI x0)), (2, .int (zI x1)), (3, .int (zI x2)), (4, .ref (ad (rowC r2.toNat)))]) C.1 C.2.1 dX11_make_12 hl (by decide) rfl (fun ls hl => ?_)
      replace hl := lv_sub hl [1, 2, 3, 4, 5, 0] rfl
      refine lv_aload C.1 C.2.1 dX11_make_14 (lv_at hl 4 rfl) ?_
      refine lv_ifnull C.1 C.2.1 dX11_make_16 ?_
      refine lv_aloadN C.1 C.2.1 dX11_make_19 (lv_at hl 5 rfl) ?_
      refine lv_ifnullN (tgt := 37) C.1 C.2.1 dX11_make_21 (by decide) ?_
      refine lv_iconst (v := zI (-1)) C.1 C.2.1 dX11_make_37 (by decide) ?_
      exact k_retKi C hr hlk rfl Wd ⟨_, rfl, (show rng (-1) from by decide), hw⟩ dX11_make_38
    · have hw := hw.2 (Int.not_lt.mp c9)
      rw [rfO_nn (Int.not_lt.mp c9)]
      obtain ⟨n9_0, hw⟩ := hw
      show W p l e _ s m _ below meth c _ _ _ _ _ (F0 m _ ls (.ref (ad (rowC r9.toNat)) :: []))
      refine lv_astore (lv' := [(5, .ref (ad (rowC r9.toNat))), (0, .ref (ad 0)), (1, .int (zI x0)), (2, .int (zI x1)), (3, .int (zI x2)), (4, .ref (ad (rowC r2.toNat)))]) C.1 C.2.1 dX11_make_12 hl (by decide) rfl (fun ls hl => ?_)
      replace hl := lv_sub hl [1, 2, 3, 4, 5, 0] rfl
      refine lv_aload C.1 C.2.1 dX11_make_14 (lv_at hl 4 rfl) ?_
      refine lv_ifnull C.1 C.2.1 dX11_make_16 ?_
      refine lv_aload C.1 C.2.1 dX11_make_19 (lv_at hl 5 rfl) ?_
      refine lv_ifnull C.1 C.2.1 dX11_make_21 ?_
      refine lv_aload_n C.1 C.2.1 dX11_make_24 rfl (lv_at hl 0 rfl) ?_
      refine k_get (v := .ref (ad 31)) C Wd.1 KX11 _ 6 (cx0 _) (by decide) fl_X11_50 rfl dX11_make_25 ?_
      refine lv_iload_n C.1 C.2.1 dX11_make_28 rfl (lv_at hl 1 rfl) ?_
      refine lv_aload C.1 C.2.1 dX11_make_29 (lv_at hl 4 rfl) ?_
      refine k_cKi Wd (k_runVK (rest := []) C aks Wd cs_X11_198 (mk_P_makeOf D ad ca rf σ Wd.2.1 Wd.2.2 x0 r2 g_x0 n2_0 _ hw l _) (cx31 _) rfl rfl rfl rfl ⟨(Nat.le_of_ble_eq_true rfl), (Nat.le_of_ble_eq_true rfl)⟩ hl.1 rfl rfl (Nat.le_of_ble_eq_true rfl) ⟨(Nat.le_of_ble_eq_true rfl), (Nat.le_of_ble_eq_true rfl)⟩ dX11_make_31) (fun r31 σr31 H locs g_r31 hw Wd => ?_)
      have hS_σr31 := Wd.2.1
      refine lv_if_ne (tgt := 39) C.1 C.2.1 dX11_make_34 (by decide) (fun c34 => ?_) (fun c34 => ?_)
      · have hw := hw.1 (z0_ne g_r31 c34)
        refine lv_aload C.1 C.2.1 dX11_make_39 (lv_at hl 5 rfl) ?_
        refine lv_aload_n C.1 C.2.1 dX11_make_41 rfl (lv_at hl 0 rfl) ?_
        refine k_get (v := .ref (ad 31)) C Wd.1 KX11 _ 6 (cx0 _) (by decide) fl_X11_50 rfl dX11_make_42 ?_
        refine k_get (v := .ref (ad 119)) C Wd.1 KX4 _ 1 (cx31 _) (by decide) fl_X11_202 rfl dX11_make_45 ?_
        refine k_cKv Wd (k_runVK (rest := []) C aks Wd cs_X11_92 (mk_W_copy D ad ca rf σr31 Wd.2.1 Wd.2.2 r9 9 n9_0 (show (0 : Int) ≤ 9 ∧ (9 : Int) < 35 from by decide) _ hw l _) (cxRow n9_0) rfl rfl rfl rfl ⟨(Nat.le_of_ble_eq_true rfl), (Nat.le_of_ble_eq_true rfl)⟩ hl.1 rfl rfl (Nat.le_of_ble_eq_true rfl) ⟨(Nat.le_of_ble_eq_true rfl), (Nat.le_of_ble_eq_true rfl)⟩ dX11_make_48) (fun σr48 H locs hw Wd => ?_)
        have hS_σr48 := Wd.2.1
        refine lv_aload C.1 C.2.1 dX11_make_51 (lv_at hl 5 rfl) ?_
        refine k_pi (k_runVK (rest := []) C aks Wd cs_X11_95 (mk_W_statements D ad ca rf σr48 Wd.2.1 Wd.2.2 r9 n9_0 _ hw l _) (cxRow n9_0) rfl rfl rfl rfl ⟨(Nat.le_of_ble_eq_true rfl), (Nat.le_of_ble_eq_true rfl)⟩ hl.1 rfl rfl (Nat.le_of_ble_eq_true rfl) ⟨(Nat.le_of_ble_eq_true rfl), (Nat.le_of_ble_eq_true rfl)⟩ dX11_make_53) (fun y53 hy => ?_)
        obtain ⟨r53, rfl, g_r53, hw⟩ := hy
        exact k_retKi C hr hlk rfl Wd ⟨_, rfl, g_r53, hw⟩ dX11_make_56
      · have hw := hw.2 (z0_eq g_r31 c34)
        refine lv_iconst (v := zI (-1)) C.1 C.2.1 dX11_make_37 (by decide) ?_
        exact k_retKi C hr hlk rfl Wd ⟨_, rfl, (show rng (-1) from by decide), hw⟩ dX11_make_38
set_option maxHeartbeats 4000000 in
set_option maxRecDepth 100000 in
theorem mk_W_isLike : ∀ (D : va_G) (ad : Nat → Nat) (ca : Nat → ClassId) (rf : Nat → Nat → Option Nat) (σ : Sg) (hS : rngK σ) (hRF : RFok ad rf) (n0 : Int) (x0 : Int) (h_n0 : 0 ≤ n0 ∧ n0 < 35) (g_x0 : 0 ≤ x0 ∧ x0 < 35) (K : Int → Prop) (hw : wp5_W_isLike σ n0 x0 K) (l : Launch) (sz : Nat), Met l yX8_isLike (Cond.code yX8_isLike cX8_isLike 3 (some .boolean) :: gG) { frames := 1, cells := 0, slots := 0, locals := 64 } (cPre D (tC ca) (wK ad ca rf σ) sz [.ref (ad (rowC n0.toNat)), .ref (ad (rowC x0.toNat))]) (vp_Si (fun r => ∃ x : Int, r = zI x ∧ rng x ∧ K x)) 0 0 (fun _ => False) := by
  intro D ad ca rf σ hS hRF n0 x0 h_n0 g_x0 K hw l sz
  refine Met.ofW (cc := cX8_isLike) (maxL := 3) (ret := (some .boolean)) (by decide) rfl ?_
  intro p e s m args below meth c s₁ B hml hv
  obtain ⟨rfl, aks, rfl, Wd⟩ := k_enter hv
  have C : CallFix p m c cX8_isLike 3 s _ gG RX8 := ⟨B.exec, B.bytes, hml, findClass_of_methodNamed B.named, fun w h => atoms_spec (ws := Cond.code yX8_isLike cX8_isLike 3 (some .boolean) :: gG) B.pre w (List.mem_cons_of_mem _ h)⟩
  have hr := B.returns
  have hlk := B.notSynchronized
  obtain ⟨A, Wd⟩ : ∃ A, wXK D ad ca rf s σ s.heap A s.heap [] := ⟨_, Wd, hS, hRF⟩
  refine k_locals (Nat.le_of_ble_eq_true rfl) [(0, .ref (ad (rowC n0.toNat))), (1, .ref (ad (rowC x0.toNat)))] rfl (fun ls hl => ?_)
  unfold wp5_W_isLike at hw
  refine lv_aload_n C.1 C.2.1 dX8_isLike_0 rfl (lv_at hl 0 rfl) ?_
  refine k_get (v := .int (zI (σ.2.2.1 0 n0))) C Wd.1 KX8 _ 1 (cxRow h_n0) (by decide) fl_X8_21 rfl dX8_isLike_1 ?_
  refine lv_aload_n C.1 C.2.1 dX8_isLike_4 rfl (lv_at hl 1 rfl) ?_
  refine k_get (v := .int (zI (σ.2.2.1 0 x0))) C Wd.1 KX8 _ 1 (cxRow g_x0) (by decide) fl_X8_21 rfl dX8_isLike_5 ?_
  refine lv_icmp_eq (tgt := 13) C.1 C.2.1 dX8_isLike_8 (by decide) (fun c8 => ?_) (fun c8 => ?_)
  · have hw := hw.1 (z_eq (rgY hS (N := 35) h_n0) (rgY hS (N := 35) g_x0) c8)
    refine lv_iconst (v := zI 0) C.1 C.2.1 dX8_isLike_13 (by decide) ?_
    refine lv_istore_n (lv' := [(2, .int (zI 0)), (0, .ref (ad (rowC n0.toNat))), (1, .ref (ad (rowC x0.toNat)))]) C.1 C.2.1 dX8_isLike_14 rfl hl (by decide) rfl (fun ls hl => ?_)
    replace hl := lv_sub hl [1, 2, 0] rfl
    refine k_lp1 hw (fun (l2_15 : Int) H locs ls => rng l2_15 ∧ wXK D ad ca rf s σ H A s.heap locs ∧ H = s.heap ∧ locs = [] ∧ lv_has ls 3 [(0, .ref (ad (rowC n0.toNat))), (1, .ref (ad (rowC x0.toNat))), (2, .int (zI l2_15))]) (fun (l2_15 : Int) ls => F0 m 15 ls []) (fun L15 hL15 l2_15 hw H locs ls hi => ?_) _ _ _ ⟨(show rng 0 from by decide), Wd, rfl, rfl, lv_sub hl [0, 1, 2] rfl⟩
    obtain ⟨g_l2_15, Wd, rfl, rfl, hl⟩ := hi
    unfold wp5_W_isLike_15 at hw
    refine lv_iload_n C.1 C.2.1 dX8_isLike_15 rfl (lv_at hl 2 rfl) ?_
    refine lv_aload_n C.1 C.2.1 dX8_isLike_16 rfl (lv_at hl 0 rfl) ?_
    refine k_get (v := .int (zI (σ.2.2.1 0 n0))) C Wd.1 KX8 _ 1 (cxRow h_n0) (by decide) fl_X8_21 rfl dX8_isLike_17 ?_
    refine lv_icmp_ge (tgt := 46) C.1 C.2.1 dX8_isLike_20 (by decide) (fun c20 => ?_) (fun c20 => ?_)
    · have hw := hw.1 (z_le (rgY hS (N := 35) h_n0) g_l2_15 c20)
      refine lv_iconst (v := zI 1) C.1 C.2.1 dX8_isLike_46 (by decide) ?_
      exact k_zretP C hr hlk (by decide) ⟨_, rfl, (show rng 1 from by decide), hw⟩ dX8_isLike_47
    · have hw := hw.2 (z_nle (rgY hS (N := 35) h_n0) g_l2_15 c20)
      refine lv_aload_n C.1 C.2.1 dX8_isLike_23 rfl (lv_at hl 0 rfl) ?_
      refine k_get (v := .ref (ad ((rowC n0.toNat) + 1))) C Wd.1 KX8 _ 0 (cxRow h_n0) (by decide) fl_X8_15 rfl dX8_isLike_24 ?_
      refine lv_iload_n C.1 C.2.1 dX8_isLike_27 rfl (lv_at hl 2 rfl) ?_
      obtain ⟨n28_0, hw⟩ := hw
      refine k_ialdK (g := (σ.2.2.2 0 n0)) C Wd (cxRowc h_n0) (tyR h_n0) (capN n28_0) (capL _) dX8_isLike_28 ?_
      have ga28 : rng (σ.2.2.2 0 n0 l2_15) := rngL (rgZ (c := 0) Wd.2.1 h_n0) n28_0
      refine lv_aload_n C.1 C.2.1 dX8_isLike_29 rfl (lv_at hl 1 rfl) ?_
      refine k_get (v := .ref (ad ((rowC x0.toNat) + 1))) C Wd.1 KX8 _ 0 (cxRow g_x0) (by decide) fl_X8_15 rfl dX8_isLike_30 ?_
      refine lv_iload_n C.1 C.2.1 dX8_isLike_33 rfl (lv_at hl 2 rfl) ?_
      obtain ⟨n34_1, hw⟩ := hw
      refine k_ialdK (g := (σ.2.2.2 0 x0)) C Wd (cxRowc g_x0) (tyR g_x0) (capN n34_1) (capL _) dX8_isLike_34 ?_
      have ga34 : rng (σ.2.2.2 0 x0 l2_15) := rngL (rgZ (c := 0) Wd.2.1 g_x0) n34_1
      refine lv_icmp_eq (tgt := 40) C.1 C.2.1 dX8_isLike_35 (by decide) (fun c35 => ?_) (fun c35 => ?_)
      · have hw := hw.1 (z_eq ga28 ga34 c35)
        refine lv_iinc (v := zI (l2_15 + 1)) (lv' := [(2, .int (zI (l2_15 + 1))), (0, .ref (ad (rowC n0.toNat))), (1, .ref (ad (rowC x0.toNat)))]) C.1 C.2.1 dX8_isLike_40 hl (k := 2) rfl (zI_inc _ _ (by decide)) (by decide) rfl (fun ls hl => ?_)
        replace hl := lv_sub hl [1, 2, 0] rfl
        refine lv_goto (tgt := 15) C.1 C.2.1 dX8_isLike_43 (by decide) ?_
        obtain ⟨g43_2, hw⟩ := hw
        exact hL15 _ hw _ _ _ ⟨g43_2, Wd, rfl, rfl, lv_sub hl [0, 1, 2] rfl⟩
      · have hw := hw.2 (z_ne ga28 ga34 c35)
        refine lv_iconst (v := zI 0) C.1 C.2.1 dX8_isLike_38 (by decide) ?_
        exact k_zretP C hr hlk (by decide) ⟨_, rfl, (show rng 0 from by decide), hw⟩ dX8_isLike_39
  · have hw := hw.2 (z_ne (rgY hS (N := 35) h_n0) (rgY hS (N := 35) g_x0) c8)
    refine lv_iconst (v := zI 0) C.1 C.2.1 dX8_isLike_11 (by decide) ?_
    exact k_zretP C hr hlk (by decide) ⟨_, rfl, (show rng 0 from by decide), hw⟩ dX8_isLike_12
set_option maxHeartbeats 4000000 in
set_option maxRecDepth 100000 in
theorem mk_P_madeWrong : ∀ (D : va_G) (ad : Nat → Nat) (ca : Nat → ClassId) (rf : Nat → Nat → Option Nat) (σ : Sg) (hS : rngK σ) (hRF : RFok ad rf) (x0 : Int) (g_x0 : 0 ≤ x0 ∧ x0 < 35) (K : Int → Sg → Prop) (hw : wp5_P_madeWrong σ x0 K) (l : Launch) (sz : Nat), Met l yX4_madeWrong (Cond.code yX4_madeWrong cX4_madeWrong 2 (some .boolean) :: gG) { frames := 6, cells := 0, slots := 0, locals := 198 } (cPre D (tC ca) (wK ad ca rf σ) sz [.ref (ad 31), .ref (ad (rowC x0.toNat))]) (va_Qi (fun (r : Int32) (u : Sg) => (∃ x : Int, r = zI x ∧ rng x ∧ K x u) ∧ rngK u) (fun u t => cB D (va_A (wK ad ca rf σ) sz) [] (wK ad ca rf u) t) (va_A (wK ad ca rf σ) sz)) 0 0 (va_A (wK ad ca rf σ) sz) := by
  intro D ad ca rf σ hS hRF x0 g_x0 K hw l sz
  refine Met.ofW (cc := cX4_madeWrong) (maxL := 2) (ret := (some .boolean)) (by decide) rfl ?_
  intro p e s m args below meth c s₁ B hml hv
  obtain ⟨rfl, aks, rfl, Wd⟩ := k_enter hv
  have C : CallFix p m c cX4_madeWrong 2 s _ gG RX4 := ⟨B.exec, B.bytes, hml, findClass_of_methodNamed B.named, fun w h => atoms_spec (ws := Cond.code yX4_madeWrong cX4_madeWrong 2 (some .boolean) :: gG) B.pre w (List.mem_cons_of_mem _ h)⟩
  have hr := B.returns
  have hlk := B.notSynchronized
  generalize va_A (wK ad ca rf σ) s.heap.size = A at Wd ⊢
  replace Wd : wXK D ad ca rf s σ s.heap A s.heap [] := ⟨Wd, hS, hRF⟩
  refine k_locals (Nat.le_of_ble_eq_true rfl) [(0, .ref (ad 31)), (1, .ref (ad (rowC x0.toNat)))] rfl (fun ls hl => ?_)
  unfold wp5_P_madeWrong at hw
  refine lv_aload_n C.1 C.2.1 dX4_madeWrong_0 rfl (lv_at hl 1 rfl) ?_
  refine lv_aload_n C.1 C.2.1 dX4_madeWrong_1 rfl (lv_at hl 0 rfl) ?_
  refine k_get (v := .ref (ad 119)) C Wd.1 KX4 _ 1 (cx31 _) (by decide) fl_X4_39 rfl dX4_madeWrong_2 ?_
  refine k_pi (k_runVK (rest := []) C aks Wd cs_X4_120 (mk_W_isLike D ad ca rf σ Wd.2.1 Wd.2.2 x0 9 g_x0 (show (0 : Int) ≤ 9 ∧ (9 : Int) < 35 from by decide) _ hw l _) (cxRow g_x0) rfl rfl rfl rfl ⟨(Nat.le_of_ble_eq_true rfl), (Nat.le_of_ble_eq_true rfl)⟩ hl.1 rfl rfl (Nat.le_of_ble_eq_true rfl) ⟨(Nat.le_of_ble_eq_true rfl), (Nat.le_of_ble_eq_true rfl)⟩ dX4_madeWrong_5) (fun y5 hy => ?_)
  obtain ⟨r5, rfl, g_r5, hw⟩ := hy
  refine lv_if_ne (tgt := 31) C.1 C.2.1 dX4_madeWrong_8 (by decide) (fun c8 => ?_) (fun c8 => ?_)
  · have hw := hw.1 (z0_ne g_r5 c8)
    refine lv_iconst (v := zI 0) C.1 C.2.1 dX4_madeWrong_31 (by decide) ?_
    exact k_retKi C hr hlk (by decide) Wd ⟨_, rfl, (show rng 0 from by decide), hw⟩ dX4_madeWrong_32
  · have hw := hw.2 (z0_eq g_r5 c8)
    refine lv_aload_n C.1 C.2.1 dX4_madeWrong_11 rfl (lv_at hl 0 rfl) ?_
    refine k_get (v := .ref (ad 32)) C Wd.1 KX4 _ 0 (cx31 _) (by decide) fl_X4_52 rfl dX4_madeWrong_12 ?_
    refine lv_aload_n C.1 C.2.1 dX4_madeWrong_15 rfl (lv_at hl 1 rfl) ?_
    refine lv_aload_n C.1 C.2.1 dX4_madeWrong_16 rfl (lv_at hl 0 rfl) ?_
    refine k_get (v := .ref (ad 119)) C Wd.1 KX4 _ 1 (cx31 _) (by decide) fl_X4_39 rfl dX4_madeWrong_17 ?_
    refine lv_iconst (v := zI 1) C.1 C.2.1 dX4_madeWrong_20 (by decide) ?_
    refine k_cKi Wd (k_runVK (rest := []) C aks Wd cs_X4_123 (mk_J_compare D ad ca rf σ Wd.2.1 Wd.2.2 x0 9 1 g_x0 (show (0 : Int) ≤ 9 ∧ (9 : Int) < 35 from by decide) (show rng 1 from by decide) _ hw l _) (cx32 _) rfl rfl rfl rfl ⟨(Nat.le_of_ble_eq_true rfl), (Nat.le_of_ble_eq_true rfl)⟩ hl.1 rfl rfl (Nat.le_of_ble_eq_true rfl) ⟨(Nat.le_of_ble_eq_true rfl), (Nat.le_of_ble_eq_true rfl)⟩ dX4_madeWrong_21) (fun r21 σr21 H locs g_r21 hw Wd => ?_)
    have hS_σr21 := Wd.2.1
    refine lv_if_eq (tgt := 31) C.1 C.2.1 dX4_madeWrong_24 (by decide) (fun c24 => ?_) (fun c24 => ?_)
    · have hw := hw.1 (z0_eq g_r21 c24)
      refine lv_iconst (v := zI 0) C.1 C.2.1 dX4_madeWrong_31 (by decide) ?_
      exact k_retKi C hr hlk (by decide) Wd ⟨_, rfl, (show rng 0 from by decide), hw⟩ dX4_madeWrong_32
    · have hw := hw.2 (z0_ne g_r21 c24)
      refine lv_iconst (v := zI 1) C.1 C.2.1 dX4_madeWrong_27 (by decide) ?_
      refine lv_goto (tgt := 32) C.1 C.2.1 dX4_madeWrong_28 (by decide) ?_
      exact k_retKi C hr hlk (by decide) Wd ⟨_, rfl, (show rng 1 from by decide), hw⟩ dX4_madeWrong_32
set_option maxHeartbeats 4000000 in
set_option maxRecDepth 100000 in
theorem mk_P_findBad : ∀ (D : va_G) (ad : Nat → Nat) (ca : Nat → ClassId) (rf : Nat → Nat → Option Nat) (σ : Sg) (hS : rngK σ) (hRF : RFok ad rf) (x0 : Int) (g_x0 : 0 ≤ x0 ∧ x0 < 35) (K : Sg → Prop) (hw : wp5_P_findBad σ x0 K) (l : Launch) (sz : Nat), Met l yX4_findBad (Cond.code yX4_findBad cX4_findBad 3 none :: gG) { frames := 7, cells := 0, slots := 0, locals := 219 } (cPre D (tC ca) (wK ad ca rf σ) sz [.ref (ad 31), .ref (ad (rowC x0.toNat))]) (va_Qv (fun (u : Sg) => K u ∧ rngK u) (fun u t => cB D (va_A (wK ad ca rf σ) sz) [] (wK ad ca rf u) t) (va_A (wK ad ca rf σ) sz)) 0 0 (va_A (wK ad ca rf σ) sz) := by
  intro D ad ca rf σ hS hRF x0 g_x0 K hw l sz
  refine Met.ofW (cc := cX4_findBad) (maxL := 3) (ret := none) (by decide) rfl ?_
  intro p e s m args below meth c s₁ B hml hv
  obtain ⟨rfl, aks, rfl, Wd⟩ := k_enter hv
  have C : CallFix p m c cX4_findBad 3 s _ gG RX4 := ⟨B.exec, B.bytes, hml, findClass_of_methodNamed B.named, fun w h => atoms_spec (ws := Cond.code yX4_findBad cX4_findBad 3 none :: gG) B.pre w (List.mem_cons_of_mem _ h)⟩
  have hr := B.returns
  have hlk := B.notSynchronized
  generalize va_A (wK ad ca rf σ) s.heap.size = A at Wd ⊢
  replace Wd : wXK D ad ca rf s σ s.heap A s.heap [] := ⟨Wd, hS, hRF⟩
  refine k_locals (Nat.le_of_ble_eq_true rfl) [(0, .ref (ad 31)), (1, .ref (ad (rowC x0.toNat)))] rfl (fun ls hl => ?_)
  unfold wp5_P_findBad at hw
  refine lv_aload_n C.1 C.2.1 dX4_findBad_0 rfl (lv_at hl 0 rfl) ?_
  refine lv_iconst (v := zI (-1)) C.1 C.2.1 dX4_findBad_1 (by decide) ?_
  refine k_putK (v := (-1)) C Wd KX4 31 3 (by decide) (cx31 _) rfl (by decide) fl_X4_56 rfl rfl rfl (Nat.le_of_ble_eq_true rfl) (show rng (-1) from by decide) dX4_findBad_2 (fun H locs Wd => ?_)
  refine lv_aload_n C.1 C.2.1 dX4_findBad_5 rfl (lv_at hl 0 rfl) ?_
  refine lv_iconst (v := zI (-1)) C.1 C.2.1 dX4_findBad_6 (by decide) ?_
  refine k_putK (v := (-1)) C Wd KX4 31 4 (by decide) (cx31 _) rfl (by decide) fl_X4_60 rfl rfl rfl (Nat.le_of_ble_eq_true rfl) (show rng (-1) from by decide) dX4_findBad_7 (fun H locs Wd => ?_)
  refine lv_aload_n C.1 C.2.1 dX4_findBad_10 rfl (lv_at hl 0 rfl) ?_
  refine k_get (v := .ref (ad 113)) C Wd.1 KX4 _ 2 (cx31 _) (by decide) fl_X4_43 rfl dX4_findBad_11 ?_
  refine lv_aload_n C.1 C.2.1 dX4_findBad_14 rfl (lv_at hl 1 rfl) ?_
  refine k_cKv Wd (k_runVK (rest := []) C aks Wd cs_X4_67 (mk_W_copy D ad ca rf (pU (pU σ 31 3 (-1)) 31 4 (-1)) Wd.2.1 Wd.2.2 6 x0 (show (0 : Int) ≤ 6 ∧ (6 : Int) < 35 from by decide) g_x0 _ hw l _) (cxRow (show (0 : Int) ≤ 6 ∧ (6 : Int) < 35 from by decide)) rfl rfl rfl rfl ⟨(Nat.le_of_ble_eq_true rfl), (Nat.le_of_ble_eq_true rfl)⟩ hl.1 rfl rfl (Nat.le_of_ble_eq_true rfl) ⟨(Nat.le_of_ble_eq_true rfl), (Nat.le_of_ble_eq_true rfl)⟩ dX4_findBad_15) (fun σr15 H locs hw Wd => ?_)
  have hS_σr15 := Wd.2.1
  refine lv_iconst (v := zI 0) C.1 C.2.1 dX4_findBad_18 (by decide) ?_
  refine lv_istore_n (lv' := [(2, .int (zI 0)), (0, .ref (ad 31)), (1, .ref (ad (rowC x0.toNat)))]) C.1 C.2.1 dX4_findBad_19 rfl hl (by decide) rfl (fun ls hl => ?_)
  replace hl := lv_sub hl [1, 2, 0] rfl
  refine k_lp2 hw (fun (l2_20 : Int) (σ20 : Sg) H locs ls => rng l2_20 ∧ wXK D ad ca rf s σ20 H A s.heap locs ∧ lv_has ls 3 [(0, .ref (ad 31)), (2, .int (zI l2_20))]) (fun (l2_20 : Int) (σ20 : Sg) ls => F0 m 20 ls []) (fun L20 hL20 l2_20 σ20 hw H locs ls hi => ?_) _ _ _ ⟨(show rng 0 from by decide), Wd, lv_sub hl [0, 2] rfl⟩
  obtain ⟨g_l2_20, Wd, hl⟩ := hi
  have hS_σ20 := Wd.2.1
  unfold wp5_P_findBad_20 at hw
  refine lv_iload_n C.1 C.2.1 dX4_findBad_20 rfl (lv_at hl 1 rfl) ?_
  refine lv_bipush (v := zI 6) C.1 C.2.1 dX4_findBad_21 (by decide) ?_
  refine lv_icmp_ge (tgt := 101) C.1 C.2.1 dX4_findBad_23 (by decide) (fun c23 => ?_) (fun c23 => ?_)
  · have hw := hw.1 (z_le (show rng 6 from by decide) g_l2_20 c23)
    exact k_retKv C hr hlk Wd hw dX4_findBad_101
  · have hw := hw.2 (z_nle (show rng 6 from by decide) g_l2_20 c23)
    refine lv_aload_n C.1 C.2.1 dX4_findBad_26 rfl (lv_at hl 0 rfl) ?_
    refine k_get (v := .int (zI (σ20.1 31 3))) C Wd.1 KX4 _ 3 (cx31 _) (by decide) fl_X4_56 rfl dX4_findBad_27 ?_
    refine lv_iconst (v := zI (-1)) C.1 C.2.1 dX4_findBad_30 (by decide) ?_
    refine lv_icmp_ne (tgt := 101) C.1 C.2.1 dX4_findBad_31 (by decide) (fun c31 => ?_) (fun c31 => ?_)
    · have hw := hw.1 (z_ne (hS_σ20.1 31 3) (show rng (-1) from by decide) c31)
      exact k_retKv C hr hlk Wd hw dX4_findBad_101
    · have hw := hw.2 (z_eq (hS_σ20.1 31 3) (show rng (-1) from by decide) c31)
      refine lv_aload_n C.1 C.2.1 dX4_findBad_34 rfl (lv_at hl 0 rfl) ?_
      refine lv_iload_n C.1 C.2.1 dX4_findBad_35 rfl (lv_at hl 1 rfl) ?_
      refine lv_aload_n C.1 C.2.1 dX4_findBad_36 rfl (lv_at hl 0 rfl) ?_
      refine k_get (v := .ref (ad 113)) C Wd.1 KX4 _ 2 (cx31 _) (by decide) fl_X4_43 rfl dX4_findBad_37 ?_
      refine k_cKi Wd (k_runVK (rest := []) C aks Wd cs_X4_109 (mk_P_makeOf D ad ca rf σ20 Wd.2.1 Wd.2.2 l2_20 6 g_l2_20 (show (0 : Int) ≤ 6 ∧ (6 : Int) < 35 from by decide) _ hw l _) (cx31 _) rfl rfl rfl rfl ⟨(Nat.le_of_ble_eq_true rfl), (Nat.le_of_ble_eq_true rfl)⟩ hl.1 rfl rfl (Nat.le_of_ble_eq_true rfl) ⟨(Nat.le_of_ble_eq_true rfl), (Nat.le_of_ble_eq_true rfl)⟩ dX4_findBad_40) (fun r40 σr40 H locs g_r40 hw Wd => ?_)
      have hS_σr40 := Wd.2.1
      refine lv_if_ne (tgt := 54) C.1 C.2.1 dX4_findBad_43 (by decide) (fun c43 => ?_) (fun c43 => ?_)
      · have hw := hw.1 (z0_ne g_r40 c43)
        refine lv_aload_n C.1 C.2.1 dX4_findBad_54 rfl (lv_at hl 0 rfl) ?_
        refine lv_aload_n C.1 C.2.1 dX4_findBad_55 rfl (lv_at hl 0 rfl) ?_
        refine k_get (v := .ref (ad 113)) C Wd.1 KX4 _ 2 (cx31 _) (by decide) fl_X4_43 rfl dX4_findBad_56 ?_
        refine k_cKi Wd (k_runVK (rest := []) C aks Wd cs_X4_113 (mk_P_madeWrong D ad ca rf σr40 Wd.2.1 Wd.2.2 6 (show (0 : Int) ≤ 6 ∧ (6 : Int) < 35 from by decide) _ hw l _) (cx31 _) rfl rfl rfl rfl ⟨(Nat.le_of_ble_eq_true rfl), (Nat.le_of_ble_eq_true rfl)⟩ hl.1 rfl rfl (Nat.le_of_ble_eq_true rfl) ⟨(Nat.le_of_ble_eq_true rfl), (Nat.le_of_ble_eq_true rfl)⟩ dX4_findBad_59) (fun r59 σr59 H locs g_r59 hw Wd => ?_)
        have hS_σr59 := Wd.2.1
        refine lv_if_eq (tgt := 84) C.1 C.2.1 dX4_findBad_62 (by decide) (fun c62 => ?_) (fun c62 => ?_)
        · have hw := hw.1 (z0_eq g_r59 c62)
          refine lv_aload_n C.1 C.2.1 dX4_findBad_84 rfl (lv_at hl 0 rfl) ?_
          refine k_get (v := .ref (ad 113)) C Wd.1 KX4 _ 2 (cx31 _) (by decide) fl_X4_43 rfl dX4_findBad_85 ?_
          refine lv_aload_n C.1 C.2.1 dX4_findBad_88 rfl (lv_at hl 0 rfl) ?_
          refine k_get (v := .ref (ad 119)) C Wd.1 KX4 _ 1 (cx31 _) (by decide) fl_X4_39 rfl dX4_findBad_89 ?_
          refine k_cKv Wd (k_runVK (rest := []) C aks Wd cs_X4_67 (mk_W_copy D ad ca rf σr59 Wd.2.1 Wd.2.2 6 9 (show (0 : Int) ≤ 6 ∧ (6 : Int) < 35 from by decide) (show (0 : Int) ≤ 9 ∧ (9 : Int) < 35 from by decide) _ hw l _) (cxRow (show (0 : Int) ≤ 6 ∧ (6 : Int) < 35 from by decide)) rfl rfl rfl rfl ⟨(Nat.le_of_ble_eq_true rfl), (Nat.le_of_ble_eq_true rfl)⟩ hl.1 rfl rfl (Nat.le_of_ble_eq_true rfl) ⟨(Nat.le_of_ble_eq_true rfl), (Nat.le_of_ble_eq_true rfl)⟩ dX4_findBad_92) (fun σr92 H locs hw Wd => ?_)
          have hS_σr92 := Wd.2.1
          refine lv_iinc (v := zI (l2_20 + 1)) (lv' := [(2, .int (zI (l2_20 + 1))), (0, .ref (ad 31))]) C.1 C.2.1 dX4_findBad_95 hl (k := 1) rfl (zI_inc _ _ (by decide)) (by decide) rfl (fun ls hl => ?_)
          replace hl := lv_sub hl [1, 0] rfl
          refine lv_goto (tgt := 20) C.1 C.2.1 dX4_findBad_98 (by decide) ?_
          obtain ⟨g98_2, hw⟩ := hw
          exact hL20 _ _ hw _ _ _ ⟨g98_2, Wd, lv_sub hl [0, 1] rfl⟩
        · have hw := hw.2 (z0_ne g_r59 c62)
          refine lv_aload_n C.1 C.2.1 dX4_findBad_65 rfl (lv_at hl 0 rfl) ?_
          refine lv_iload_n C.1 C.2.1 dX4_findBad_66 rfl (lv_at hl 1 rfl) ?_
          refine k_putK (v := l2_20) C Wd KX4 31 3 (by decide) (cx31 _) rfl (by decide) fl_X4_56 rfl rfl rfl (Nat.le_of_ble_eq_true rfl) g_l2_20 dX4_findBad_67 (fun H locs Wd => ?_)
          refine lv_aload_n C.1 C.2.1 dX4_findBad_70 rfl (lv_at hl 0 rfl) ?_
          refine lv_aload_n C.1 C.2.1 dX4_findBad_71 rfl (lv_at hl 0 rfl) ?_
          refine k_get (v := .ref (ad 32)) C Wd.1 KX4 _ 0 (cx31 _) (by decide) fl_X4_52 rfl dX4_findBad_72 ?_
          refine k_get (v := .int (zI (σr59.1 32 0))) C Wd.1 KX2 _ 0 (cx32 _) (by decide) fl_X4_117 rfl dX4_findBad_75 ?_
          refine k_putK (v := (σr59.1 32 0)) C Wd KX4 31 4 (by decide) (cx31 _) rfl (by decide) fl_X4_60 rfl rfl rfl (Nat.le_of_ble_eq_true rfl) (hS_σr59.1 32 0) dX4_findBad_78 (fun H locs Wd => ?_)
          refine lv_goto (tgt := 95) C.1 C.2.1 dX4_findBad_81 (by decide) ?_
          refine lv_iinc (v := zI (l2_20 + 1)) (lv' := [(2, .int (zI (l2_20 + 1))), (0, .ref (ad 31))]) C.1 C.2.1 dX4_findBad_95 hl (k := 1) rfl (zI_inc _ _ (by decide)) (by decide) rfl (fun ls hl => ?_)
          replace hl := lv_sub hl [1, 0] rfl
          refine lv_goto (tgt := 20) C.1 C.2.1 dX4_findBad_98 (by decide) ?_
          obtain ⟨g98_3, hw⟩ := hw
          exact hL20 _ _ hw _ _ _ ⟨g98_3, Wd, lv_sub hl [0, 1] rfl⟩
      · have hw := hw.2 (z0_eq g_r40 c43)
        refine lv_aload_n C.1 C.2.1 dX4_findBad_46 rfl (lv_at hl 0 rfl) ?_
        refine lv_iload_n C.1 C.2.1 dX4_findBad_47 rfl (lv_at hl 1 rfl) ?_
        refine k_putK (v := l2_20) C Wd KX4 31 3 (by decide) (cx31 _) rfl (by decide) fl_X4_56 rfl rfl rfl (Nat.le_of_ble_eq_true rfl) g_l2_20 dX4_findBad_48 (fun H locs Wd => ?_)
        refine lv_goto (tgt := 95) C.1 C.2.1 dX4_findBad_51 (by decide) ?_
        refine lv_iinc (v := zI (l2_20 + 1)) (lv' := [(2, .int (zI (l2_20 + 1))), (0, .ref (ad 31))]) C.1 C.2.1 dX4_findBad_95 hl (k := 1) rfl (zI_inc _ _ (by decide)) (by decide) rfl (fun ls hl => ?_)
        replace hl := lv_sub hl [1, 0] rfl
        refine lv_goto (tgt := 20) C.1 C.2.1 dX4_findBad_98 (by decide) ?_
        obtain ⟨g98_4, hw⟩ := hw
        exact hL20 _ _ hw _ _ _ ⟨g98_4, Wd, lv_sub hl [0, 1] rfl⟩
set_option maxHeartbeats 4000000 in
set_option maxRecDepth 100000 in
theorem mk_S_blame : ∀ (D : va_G) (ad : Nat → Nat) (ca : Nat → ClassId) (rf : Nat → Nat → Option Nat) (σ : Sg) (hS : rngK σ) (hRF : RFok ad rf) (x0 : Int) (x1 : Int) (g_x0 : rng x0) (g_x1 : rng x1) (K : Int → Sg → Prop) (hw : wp5_S_blame σ x0 x1 K) (l : Launch) (sz : Nat), Met l yX11_blame (Cond.code yX11_blame cX11_blame 4 (some .int) :: gG) { frames := 8, cells := 0, slots := 0, locals := 241 } (cPre D (tC ca) (wK ad ca rf σ) sz [.ref (ad 0), .int (zI x0), .int (zI x1)]) (va_Qi (fun (r : Int32) (u : Sg) => (∃ x : Int, r = zI x ∧ rng x ∧ K x u) ∧ rngK u) (fun u t => cB D (va_A (wK ad ca rf σ) sz) [] (wK ad ca rf u) t) (va_A (wK ad ca rf σ) sz)) 0 0 (va_A (wK ad ca rf σ) sz) := by
  intro D ad ca rf σ hS hRF x0 x1 g_x0 g_x1 K hw l sz
  refine Met.ofW (cc := cX11_blame) (maxL := 4) (ret := (some .int)) (by decide) rfl ?_
  intro p e s m args below meth c s₁ B hml hv
  obtain ⟨rfl, aks, rfl, Wd⟩ := k_enter hv
  have C : CallFix p m c cX11_blame 4 s _ gG RX11 := ⟨B.exec, B.bytes, hml, findClass_of_methodNamed B.named, fun w h => atoms_spec (ws := Cond.code yX11_blame cX11_blame 4 (some .int) :: gG) B.pre w (List.mem_cons_of_mem _ h)⟩
  have hr := B.returns
  have hlk := B.notSynchronized
  generalize va_A (wK ad ca rf σ) s.heap.size = A at Wd ⊢
  replace Wd : wXK D ad ca rf s σ s.heap A s.heap [] := ⟨Wd, hS, hRF⟩
  refine k_locals (Nat.le_of_ble_eq_true rfl) [(0, .ref (ad 0)), (1, .int (zI x0)), (2, .int (zI x1))] rfl (fun ls hl => ?_)
  unfold wp5_S_blame at hw
  refine lv_aload_n C.1 C.2.1 dX11_blame_0 rfl (lv_at hl 0 rfl) ?_
  refine lv_iload_n C.1 C.2.1 dX11_blame_1 rfl (lv_at hl 1 rfl) ?_
  refine k_pq (k_runVK (rest := []) C aks Wd cs_X11_77 (mk_S_slotAt D ad ca rf σ Wd.2.1 Wd.2.2 x0 g_x0 _ hw l _) (cx0 _) rfl rfl rfl rfl ⟨(Nat.le_of_ble_eq_true rfl), (Nat.le_of_ble_eq_true rfl)⟩ hl.1 rfl rfl (Nat.le_of_ble_eq_true rfl) ⟨(Nat.le_of_ble_eq_true rfl), (Nat.le_of_ble_eq_true rfl)⟩ dX11_blame_2) (fun y2 hy => ?_)
  obtain ⟨r2, rfl, hw⟩ := hy
  by_cases c2 : r2 < 0
  · have hw := hw.1 c2
    rw [rfO_null c2]
    show W p l e _ s m _ below meth c _ _ _ _ _ (F0 m _ ls (.null :: []))
    refine lv_astore_nN (lv' := [(3, .null), (0, .ref (ad 0)), (1, .int (zI x0)), (2, .int (zI x1))]) C.1 C.2.1 dX11_blame_5 rfl hl (by decide) rfl (fun ls hl => ?_)
    replace hl := lv_sub hl [1, 2, 3, 0] rfl
    refine lv_aload_nN C.1 C.2.1 dX11_blame_6 rfl (lv_at hl 3 rfl) ?_
    refine lv_ifnullN (tgt := 19) C.1 C.2.1 dX11_blame_7 (by decide) ?_
    refine lv_iconst (v := zI (-1)) C.1 C.2.1 dX11_blame_19 (by decide) ?_
    exact k_retKi C hr hlk rfl Wd ⟨_, rfl, (show rng (-1) from by decide), hw⟩ dX11_blame_20
  · have hw := hw.2 (Int.not_lt.mp c2)
    rw [rfO_nn (Int.not_lt.mp c2)]
    obtain ⟨n2_0, hw⟩ := hw
    show W p l e _ s m _ below meth c _ _ _ _ _ (F0 m _ ls (.ref (ad (rowC r2.toNat)) :: []))
    refine lv_astore_n (lv' := [(3, .ref (ad (rowC r2.toNat))), (0, .ref (ad 0)), (1, .int (zI x0)), (2, .int (zI x1))]) C.1 C.2.1 dX11_blame_5 rfl hl (by decide) rfl (fun ls hl => ?_)
    replace hl := lv_sub hl [1, 2, 3, 0] rfl
    refine lv_aload_n C.1 C.2.1 dX11_blame_6 rfl (lv_at hl 3 rfl) ?_
    refine lv_ifnull C.1 C.2.1 dX11_blame_7 ?_
    refine lv_iload_n C.1 C.2.1 dX11_blame_10 rfl (lv_at hl 2 rfl) ?_
    refine lv_if_lt (tgt := 19) C.1 C.2.1 dX11_blame_11 (by decide) (fun c11 => ?_) (fun c11 => ?_)
    · have hw := hw.1 (z0_lt g_x1 c11)
      refine lv_iconst (v := zI (-1)) C.1 C.2.1 dX11_blame_19 (by decide) ?_
      exact k_retKi C hr hlk rfl Wd ⟨_, rfl, (show rng (-1) from by decide), hw⟩ dX11_blame_20
    · have hw := hw.2 (z0_nlt g_x1 c11)
      refine lv_iload_n C.1 C.2.1 dX11_blame_14 rfl (lv_at hl 2 rfl) ?_
      refine lv_iconst (v := zI 1) C.1 C.2.1 dX11_blame_15 (by decide) ?_
      refine lv_icmp_le (tgt := 21) C.1 C.2.1 dX11_blame_16 (by decide) (fun c16 => ?_) (fun c16 => ?_)
      · have hw := hw.1 (z_le g_x1 (show rng 1 from by decide) c16)
        refine lv_aload_n C.1 C.2.1 dX11_blame_21 rfl (lv_at hl 0 rfl) ?_
        refine k_get (v := .ref (ad 31)) C Wd.1 KX11 _ 6 (cx0 _) (by decide) fl_X11_50 rfl dX11_blame_22 ?_
        refine lv_aload_n C.1 C.2.1 dX11_blame_25 rfl (lv_at hl 3 rfl) ?_
        refine k_cKv Wd (k_runVK (rest := []) C aks Wd cs_X11_205 (mk_P_findBad D ad ca rf σ Wd.2.1 Wd.2.2 r2 n2_0 _ hw l _) (cx31 _) rfl rfl rfl rfl ⟨(Nat.le_of_ble_eq_true rfl), (Nat.le_of_ble_eq_true rfl)⟩ hl.1 rfl rfl (Nat.le_of_ble_eq_true rfl) ⟨(Nat.le_of_ble_eq_true rfl), (Nat.le_of_ble_eq_true rfl)⟩ dX11_blame_26) (fun σr26 H locs hw Wd => ?_)
        have hS_σr26 := Wd.2.1
        refine lv_iload_n C.1 C.2.1 dX11_blame_29 rfl (lv_at hl 2 rfl) ?_
        refine lv_if_ne (tgt := 43) C.1 C.2.1 dX11_blame_30 (by decide) (fun c30 => ?_) (fun c30 => ?_)
        · have hw := hw.1 (z0_ne g_x1 c30)
          refine lv_aload_n C.1 C.2.1 dX11_blame_43 rfl (lv_at hl 0 rfl) ?_
          refine k_get (v := .ref (ad 31)) C Wd.1 KX11 _ 6 (cx0 _) (by decide) fl_X11_50 rfl dX11_blame_44 ?_
          refine k_get (v := .int (zI (σr26.1 31 4))) C Wd.1 KX4 _ 4 (cx31 _) (by decide) fl_X11_211 rfl dX11_blame_47 ?_
          exact k_retKi C hr hlk rfl Wd ⟨_, rfl, (hS_σr26.1 31 4), hw⟩ dX11_blame_50
        · have hw := hw.2 (z0_eq g_x1 c30)
          refine lv_aload_n C.1 C.2.1 dX11_blame_33 rfl (lv_at hl 0 rfl) ?_
          refine k_get (v := .ref (ad 31)) C Wd.1 KX11 _ 6 (cx0 _) (by decide) fl_X11_50 rfl dX11_blame_34 ?_
          refine k_get (v := .int (zI (σr26.1 31 3))) C Wd.1 KX4 _ 3 (cx31 _) (by decide) fl_X11_208 rfl dX11_blame_37 ?_
          refine lv_goto (tgt := 50) C.1 C.2.1 dX11_blame_40 (by decide) ?_
          exact k_retKi C hr hlk rfl Wd ⟨_, rfl, (hS_σr26.1 31 3), hw⟩ dX11_blame_50
      · have hw := hw.2 (z_nle g_x1 (show rng 1 from by decide) c16)
        refine lv_iconst (v := zI (-1)) C.1 C.2.1 dX11_blame_19 (by decide) ?_
        exact k_retKi C hr hlk rfl Wd ⟨_, rfl, (show rng (-1) from by decide), hw⟩ dX11_blame_20
set_option maxHeartbeats 4000000 in
set_option maxRecDepth 100000 in
theorem mk_P_cutDown : ∀ (D : va_G) (ad : Nat → Nat) (ca : Nat → ClassId) (rf : Nat → Nat → Option Nat) (σ : Sg) (hS : rngK σ) (hRF : RFok ad rf) (x0 : Int) (x1 : Int) (g_x0 : rng x0) (g_x1 : 0 ≤ x1 ∧ x1 < 35) (K : Int → Sg → Prop) (hw : wp5_P_cutDown σ x0 x1 K) (l : Launch) (sz : Nat), Met l yX4_cutDown (Cond.code yX4_cutDown cX4_cutDown 7 (some .boolean) :: gG) { frames := 7, cells := 0, slots := 0, locals := 219 } (cPre D (tC ca) (wK ad ca rf σ) sz [.ref (ad 31), .int (zI x0), .ref (ad (rowC x1.toNat))]) (va_Qi (fun (r : Int32) (u : Sg) => (∃ x : Int, r = zI x ∧ rng x ∧ K x u) ∧ rngK u) (fun u t => cB D (va_A (wK ad ca rf σ) sz) [] (wK ad ca rf u) t) (va_A (wK ad ca rf σ) sz)) 0 0 (va_A (wK ad ca rf σ) sz) := by
  intro D ad ca rf σ hS hRF x0 x1 g_x0 g_x1 K hw l sz
  refine Met.ofW (cc := cX4_cutDown) (maxL := 7) (ret := (some .boolean)) (by decide) rfl ?_
  intro p e s m args below meth c s₁ B hml hv
  obtain ⟨rfl, aks, rfl, Wd⟩ := k_enter hv
  have C : CallFix p m c cX4_cutDown 7 s _ gG RX4 := ⟨B.exec, B.bytes, hml, findClass_of_methodNamed B.named, fun w h => atoms_spec (ws := Cond.code yX4_cutDown cX4_cutDown 7 (some .boolean) :: gG) B.pre w (List.mem_cons_of_mem _ h)⟩
  have hr := B.returns
  have hlk := B.notSynchronized
  generalize va_A (wK ad ca rf σ) s.heap.size = A at Wd ⊢
  replace Wd : wXK D ad ca rf s σ s.heap A s.heap [] := ⟨Wd, hS, hRF⟩
  refine k_locals (Nat.le_of_ble_eq_true rfl) [(0, .ref (ad 31)), (1, .int (zI x0)), (2, .ref (ad (rowC x1.toNat)))] rfl (fun ls hl => ?_)
  unfold wp5_P_cutDown at hw
  refine lv_aload_n C.1 C.2.1 dX4_cutDown_0 rfl (lv_at hl 2 rfl) ?_
  refine k_pi (k_runVK (rest := []) C aks Wd cs_X4_127 (mk_W_statements D ad ca rf σ Wd.2.1 Wd.2.2 x1 g_x1 _ hw l _) (cxRow g_x1) rfl rfl rfl rfl ⟨(Nat.le_of_ble_eq_true rfl), (Nat.le_of_ble_eq_true rfl)⟩ hl.1 rfl rfl (Nat.le_of_ble_eq_true rfl) ⟨(Nat.le_of_ble_eq_true rfl), (Nat.le_of_ble_eq_true rfl)⟩ dX4_cutDown_1) (fun y1 hy => ?_)
  obtain ⟨r1, rfl, g_r1, hw⟩ := hy
  refine lv_istore_n (lv' := [(3, .int (zI r1)), (0, .ref (ad 31)), (1, .int (zI x0)), (2, .ref (ad (rowC x1.toNat)))]) C.1 C.2.1 dX4_cutDown_4 rfl hl (by decide) rfl (fun ls hl => ?_)
  replace hl := lv_sub hl [1, 2, 3, 0] rfl
  refine lv_iload_n C.1 C.2.1 dX4_cutDown_5 rfl (lv_at hl 3 rfl) ?_
  refine lv_iconst (v := zI 1) C.1 C.2.1 dX4_cutDown_6 (by decide) ?_
  refine lv_icmp_lt (tgt := 33) C.1 C.2.1 dX4_cutDown_7 (by decide) (fun c7 => ?_) (fun c7 => ?_)
  · have hw := hw.1 (z_lt g_r1 (show rng 1 from by decide) c7)
    refine lv_iconst (v := zI 0) C.1 C.2.1 dX4_cutDown_33 (by decide) ?_
    exact k_retKi C hr hlk (by decide) Wd ⟨_, rfl, (show rng 0 from by decide), hw⟩ dX4_cutDown_34
  · have hw := hw.2 (z_nlt g_r1 (show rng 1 from by decide) c7)
    refine lv_iload_n C.1 C.2.1 dX4_cutDown_10 rfl (lv_at hl 3 rfl) ?_
    refine lv_bipush (v := zI 12) C.1 C.2.1 dX4_cutDown_11 (by decide) ?_
    refine lv_icmp_gt (tgt := 33) C.1 C.2.1 dX4_cutDown_13 (by decide) (fun c13 => ?_) (fun c13 => ?_)
    · have hw := hw.1 (z_lt (show rng 12 from by decide) g_r1 c13)
      refine lv_iconst (v := zI 0) C.1 C.2.1 dX4_cutDown_33 (by decide) ?_
      exact k_retKi C hr hlk (by decide) Wd ⟨_, rfl, (show rng 0 from by decide), hw⟩ dX4_cutDown_34
    · have hw := hw.2 (z_nlt (show rng 12 from by decide) g_r1 c13)
      refine lv_aload_n C.1 C.2.1 dX4_cutDown_16 rfl (lv_at hl 0 rfl) ?_
      refine lv_iload_n C.1 C.2.1 dX4_cutDown_17 rfl (lv_at hl 1 rfl) ?_
      refine lv_aload_n C.1 C.2.1 dX4_cutDown_18 rfl (lv_at hl 2 rfl) ?_
      refine k_cKi Wd (k_runVK (rest := []) C aks Wd cs_X4_109 (mk_P_makeOf D ad ca rf σ Wd.2.1 Wd.2.2 x0 x1 g_x0 g_x1 _ hw l _) (cx31 _) rfl rfl rfl rfl ⟨(Nat.le_of_ble_eq_true rfl), (Nat.le_of_ble_eq_true rfl)⟩ hl.1 rfl rfl (Nat.le_of_ble_eq_true rfl) ⟨(Nat.le_of_ble_eq_true rfl), (Nat.le_of_ble_eq_true rfl)⟩ dX4_cutDown_19) (fun r19 σr19 H locs g_r19 hw Wd => ?_)
      have hS_σr19 := Wd.2.1
      refine lv_if_eq (tgt := 33) C.1 C.2.1 dX4_cutDown_22 (by decide) (fun c22 => ?_) (fun c22 => ?_)
      · have hw := hw.1 (z0_eq g_r19 c22)
        refine lv_iconst (v := zI 0) C.1 C.2.1 dX4_cutDown_33 (by decide) ?_
        exact k_retKi C hr hlk (by decide) Wd ⟨_, rfl, (show rng 0 from by decide), hw⟩ dX4_cutDown_34
      · have hw := hw.2 (z0_ne g_r19 c22)
        refine lv_aload_n C.1 C.2.1 dX4_cutDown_25 rfl (lv_at hl 0 rfl) ?_
        refine lv_aload_n C.1 C.2.1 dX4_cutDown_26 rfl (lv_at hl 2 rfl) ?_
        refine k_cKi Wd (k_runVK (rest := []) C aks Wd cs_X4_113 (mk_P_madeWrong D ad ca rf σr19 Wd.2.1 Wd.2.2 x1 g_x1 _ hw l _) (cx31 _) rfl rfl rfl rfl ⟨(Nat.le_of_ble_eq_true rfl), (Nat.le_of_ble_eq_true rfl)⟩ hl.1 rfl rfl (Nat.le_of_ble_eq_true rfl) ⟨(Nat.le_of_ble_eq_true rfl), (Nat.le_of_ble_eq_true rfl)⟩ dX4_cutDown_27) (fun r27 σr27 H locs g_r27 hw Wd => ?_)
        have hS_σr27 := Wd.2.1
        refine lv_if_ne (tgt := 35) C.1 C.2.1 dX4_cutDown_30 (by decide) (fun c30 => ?_) (fun c30 => ?_)
        · have hw := hw.1 (z0_ne g_r27 c30)
          refine lv_aload_n C.1 C.2.1 dX4_cutDown_35 rfl (lv_at hl 0 rfl) ?_
          refine k_get (v := .ref (ad 113)) C Wd.1 KX4 _ 2 (cx31 _) (by decide) fl_X4_43 rfl dX4_cutDown_36 ?_
          refine lv_aload_n C.1 C.2.1 dX4_cutDown_39 rfl (lv_at hl 2 rfl) ?_
          refine k_cKv Wd (k_runVK (rest := []) C aks Wd cs_X4_67 (mk_W_copy D ad ca rf σr27 Wd.2.1 Wd.2.2 6 x1 (show (0 : Int) ≤ 6 ∧ (6 : Int) < 35 from by decide) g_x1 _ hw l _) (cxRow (show (0 : Int) ≤ 6 ∧ (6 : Int) < 35 from by decide)) rfl rfl rfl rfl ⟨(Nat.le_of_ble_eq_true rfl), (Nat.le_of_ble_eq_true rfl)⟩ hl.1 rfl rfl (Nat.le_of_ble_eq_true rfl) ⟨(Nat.le_of_ble_eq_true rfl), (Nat.le_of_ble_eq_true rfl)⟩ dX4_cutDown_40) (fun σr40 H locs hw Wd => ?_)
          have hS_σr40 := Wd.2.1
          refine lv_iconst (v := zI 1) C.1 C.2.1 dX4_cutDown_43 (by decide) ?_
          refine lv_istore (lv' := [(4, .int (zI 1)), (0, .ref (ad 31)), (1, .int (zI x0)), (2, .ref (ad (rowC x1.toNat))), (3, .int (zI r1))]) C.1 C.2.1 dX4_cutDown_44 hl (by decide) rfl (fun ls hl => ?_)
          replace hl := lv_sub hl [1, 2, 3, 4, 0] rfl
          refine lv_iconst (v := zI 0) C.1 C.2.1 dX4_cutDown_46 (by decide) ?_
          refine lv_istore (lv' := [(5, .int (zI 0)), (0, .ref (ad 31)), (1, .int (zI x0)), (2, .ref (ad (rowC x1.toNat))), (3, .int (zI r1)), (4, .int (zI 1))]) C.1 C.2.1 dX4_cutDown_47 hl (by decide) rfl (fun ls hl => ?_)
          replace hl := lv_sub hl [1, 2, 3, 4, 5, 0] rfl
          refine k_lp3 hw (fun (l4_49 : Int) (l5_49 : Int) (σ49 : Sg) H locs ls => rng l4_49 ∧ rng l5_49 ∧ wXK D ad ca rf s σ49 H A s.heap locs ∧ lv_has ls 7 [(0, .ref (ad 31)), (1, .int (zI x0)), (4, .int (zI l4_49)), (5, .int (zI l5_49))]) (fun (l4_49 : Int) (l5_49 : Int) (σ49 : Sg) ls => F0 m 49 ls []) (fun L49 hL49 l4_49 l5_49 σ49 hw H locs ls hi => ?_) _ _ _ ⟨(show rng 1 from by decide), (show rng 0 from by decide), Wd, lv_sub hl [0, 1, 4, 5] rfl⟩
          obtain ⟨g_l4_49, g_l5_49, Wd, hl⟩ := hi
          have hS_σ49 := Wd.2.1
          unfold wp5_P_cutDown_49 at hw
          refine lv_iload C.1 C.2.1 dX4_cutDown_49 (lv_at hl 3 rfl) ?_
          refine lv_bipush (v := zI 12) C.1 C.2.1 dX4_cutDown_51 (by decide) ?_
          refine lv_icmp_ge (tgt := 186) C.1 C.2.1 dX4_cutDown_53 (by decide) (fun c53 => ?_) (fun c53 => ?_)
          · have hw := hw.1 (z_le (show rng 12 from by decide) g_l5_49 c53)
            refine lv_iconst (v := zI 1) C.1 C.2.1 dX4_cutDown_186 (by decide) ?_
            exact k_retKi C hr hlk (by decide) Wd ⟨_, rfl, (show rng 1 from by decide), hw⟩ dX4_cutDown_187
          · have hw := hw.2 (z_nle (show rng 12 from by decide) g_l5_49 c53)
            refine lv_iload C.1 C.2.1 dX4_cutDown_56 (lv_at hl 2 rfl) ?_
            refine lv_if_eq (tgt := 186) C.1 C.2.1 dX4_cutDown_58 (by decide) (fun c58 => ?_) (fun c58 => ?_)
            · have hw := hw.1 (z0_eq g_l4_49 c58)
              refine lv_iconst (v := zI 1) C.1 C.2.1 dX4_cutDown_186 (by decide) ?_
              exact k_retKi C hr hlk (by decide) Wd ⟨_, rfl, (show rng 1 from by decide), hw⟩ dX4_cutDown_187
            · have hw := hw.2 (z0_ne g_l4_49 c58)
              refine lv_iconst (v := zI 0) C.1 C.2.1 dX4_cutDown_61 (by decide) ?_
              refine lv_istore (lv' := [(4, .int (zI 0)), (0, .ref (ad 31)), (1, .int (zI x0)), (5, .int (zI l5_49))]) C.1 C.2.1 dX4_cutDown_62 hl (by decide) rfl (fun ls hl => ?_)
              replace hl := lv_sub hl [1, 2, 0, 3] rfl
              refine lv_iconst (v := zI 0) C.1 C.2.1 dX4_cutDown_64 (by decide) ?_
              refine lv_istore (lv' := [(6, .int (zI 0)), (0, .ref (ad 31)), (1, .int (zI x0)), (4, .int (zI 0)), (5, .int (zI l5_49))]) C.1 C.2.1 dX4_cutDown_65 hl (by decide) rfl (fun ls hl => ?_)
              replace hl := lv_sub hl [1, 2, 3, 4, 0] rfl
              refine k_lp3 hw (fun (l4_67 : Int) (l6_67 : Int) (σ67 : Sg) H locs ls => rng l4_67 ∧ rng l6_67 ∧ wXK D ad ca rf s σ67 H A s.heap locs ∧ lv_has ls 7 [(0, .ref (ad 31)), (1, .int (zI x0)), (4, .int (zI l4_67)), (5, .int (zI l5_49)), (6, .int (zI l6_67))]) (fun (l4_67 : Int) (l6_67 : Int) (σ67 : Sg) ls => F0 m 67 ls []) (fun L67 hL67 l4_67 l6_67 σ67 hw H locs ls hi => ?_) _ _ _ ⟨(show rng 0 from by decide), (show rng 0 from by decide), Wd, lv_sub hl [0, 1, 2, 3, 4] rfl⟩
              obtain ⟨g_l4_67, g_l6_67, Wd, hl⟩ := hi
              have hS_σ67 := Wd.2.1
              unfold wp5_P_cutDown_67 at hw
              refine lv_iload C.1 C.2.1 dX4_cutDown_67 (lv_at hl 4 rfl) ?_
              refine lv_aload_n C.1 C.2.1 dX4_cutDown_69 rfl (lv_at hl 0 rfl) ?_
              refine k_get (v := .ref (ad 113)) C Wd.1 KX4 _ 2 (cx31 _) (by decide) fl_X4_43 rfl dX4_cutDown_70 ?_
              refine k_get (v := .int (zI (σ67.2.2.1 0 6))) C Wd.1 KX8 _ 1 (cxRow (show (0 : Int) ≤ 6 ∧ (6 : Int) < 35 from by decide)) (by decide) fl_X4_131 rfl dX4_cutDown_73 ?_
              refine k_cut0 (fun H locs ls => wp5_P_cutDown_164 l4_67 l5_49 σ67 L49 ∧ wXK D ad ca rf s σ67 H A s.heap locs ∧ lv_has ls 7 [(0, .ref (ad 31)), (1, .int (zI x0)), (4, .int (zI l4_67)), (5, .int (zI l5_49))]) (fun  ls => F0 m 164 ls []) (fun  H locs ls hi => ?_) (fun J164 => ?_)
              · obtain ⟨hw, Wd, hl⟩ := hi
                unfold wp5_P_cutDown_164 at hw
                refine lv_iload C.1 C.2.1 dX4_cutDown_164 (lv_at hl 2 rfl) ?_
                refine lv_if_eq (tgt := 180) C.1 C.2.1 dX4_cutDown_166 (by decide) (fun c166 => ?_) (fun c166 => ?_)
                · have hw := hw.1 (z0_eq g_l4_67 c166)
                  refine lv_iinc (v := zI (l5_49 + 1)) (lv' := [(5, .int (zI (l5_49 + 1))), (0, .ref (ad 31)), (1, .int (zI x0)), (4, .int (zI l4_67))]) C.1 C.2.1 dX4_cutDown_180 hl (k := 3) rfl (zI_inc _ _ (by decide)) (by decide) rfl (fun ls hl => ?_)
                  replace hl := lv_sub hl [1, 2, 3, 0] rfl
                  refine lv_goto (tgt := 49) C.1 C.2.1 dX4_cutDown_183 (by decide) ?_
                  obtain ⟨g183_18, hw⟩ := hw
                  exact hL49 _ _ _ hw _ _ _ ⟨g_l4_67, g183_18, Wd, lv_sub hl [0, 1, 2, 3] rfl⟩
                · have hw := hw.2 (z0_ne g_l4_67 c166)
                  refine lv_aload_n C.1 C.2.1 dX4_cutDown_169 rfl (lv_at hl 0 rfl) ?_
                  refine k_get (v := .ref (ad 113)) C Wd.1 KX4 _ 2 (cx31 _) (by decide) fl_X4_43 rfl dX4_cutDown_170 ?_
                  refine lv_aload_n C.1 C.2.1 dX4_cutDown_173 rfl (lv_at hl 0 rfl) ?_
                  refine k_get (v := .ref (ad 115)) C Wd.1 KX4 _ 9 (cx31 _) (by decide) fl_X4_46 rfl dX4_cutDown_174 ?_
                  refine k_cKv Wd (k_runVK (rest := []) C aks Wd cs_X4_67 (mk_W_copy D ad ca rf σ67 Wd.2.1 Wd.2.2 6 7 (show (0 : Int) ≤ 6 ∧ (6 : Int) < 35 from by decide) (show (0 : Int) ≤ 7 ∧ (7 : Int) < 35 from by decide) _ hw l _) (cxRow (show (0 : Int) ≤ 6 ∧ (6 : Int) < 35 from by decide)) rfl rfl rfl rfl ⟨(Nat.le_of_ble_eq_true rfl), (Nat.le_of_ble_eq_true rfl)⟩ hl.1 rfl rfl (Nat.le_of_ble_eq_true rfl) ⟨(Nat.le_of_ble_eq_true rfl), (Nat.le_of_ble_eq_true rfl)⟩ dX4_cutDown_177) (fun σr177 H locs hw Wd => ?_)
                  have hS_σr177 := Wd.2.1
                  refine lv_iinc (v := zI (l5_49 + 1)) (lv' := [(5, .int (zI (l5_49 + 1))), (0, .ref (ad 31)), (1, .int (zI x0)), (4, .int (zI l4_67))]) C.1 C.2.1 dX4_cutDown_180 hl (k := 3) rfl (zI_inc _ _ (by decide)) (by decide) rfl (fun ls hl => ?_)
                  replace hl := lv_sub hl [1, 2, 3, 0] rfl
                  refine lv_goto (tgt := 49) C.1 C.2.1 dX4_cutDown_183 (by decide) ?_
                  obtain ⟨g183_19, hw⟩ := hw
                  exact hL49 _ _ _ hw _ _ _ ⟨g_l4_67, g183_19, Wd, lv_sub hl [0, 1, 2, 3] rfl⟩
              refine lv_icmp_ge (tgt := 164) C.1 C.2.1 dX4_cutDown_76 (by decide) (fun c76 => ?_) (fun c76 => ?_)
              · have hw := hw.1 (z_le (rgY hS_σ67 (N := 35) (show (0 : Int) ≤ 6 ∧ (6 : Int) < 35 from by decide)) g_l6_67 c76)
                exact J164  _ _ _ ⟨hw, Wd, lv_sub hl [0, 1, 2, 3] rfl⟩
              · have hw := hw.2 (z_nle (rgY hS_σ67 (N := 35) (show (0 : Int) ≤ 6 ∧ (6 : Int) < 35 from by decide)) g_l6_67 c76)
                refine lv_iload C.1 C.2.1 dX4_cutDown_79 (lv_at hl 2 rfl) ?_
                refine lv_if_ne (tgt := 164) C.1 C.2.1 dX4_cutDown_81 (by decide) (fun c81 => ?_) (fun c81 => ?_)
                · have hw := hw.1 (z0_ne g_l4_67 c81)
                  exact J164  _ _ _ ⟨hw, Wd, lv_sub hl [0, 1, 2, 3] rfl⟩
                · have hw := hw.2 (z0_eq g_l4_67 c81)
                  refine lv_aload_n C.1 C.2.1 dX4_cutDown_84 rfl (lv_at hl 0 rfl) ?_
                  refine k_get (v := .ref (ad 113)) C Wd.1 KX4 _ 2 (cx31 _) (by decide) fl_X4_43 rfl dX4_cutDown_85 ?_
                  refine lv_iload C.1 C.2.1 dX4_cutDown_88 (lv_at hl 4 rfl) ?_
                  refine k_pi (k_runVK (rest := []) C aks Wd cs_X4_134 (mk_W_cell D ad ca rf σ67 Wd.2.1 Wd.2.2 6 l6_67 (show (0 : Int) ≤ 6 ∧ (6 : Int) < 35 from by decide) g_l6_67 _ hw l _) (cxRow (show (0 : Int) ≤ 6 ∧ (6 : Int) < 35 from by decide)) rfl rfl rfl rfl ⟨(Nat.le_of_ble_eq_true rfl), (Nat.le_of_ble_eq_true rfl)⟩ hl.1 rfl rfl (Nat.le_of_ble_eq_true rfl) ⟨(Nat.le_of_ble_eq_true rfl), (Nat.le_of_ble_eq_true rfl)⟩ dX4_cutDown_90) (fun y90 hy => ?_)
                  obtain ⟨r90, rfl, g_r90, hw⟩ := hy
                  refine k_pi (k_runS (rest := []) C aks Wd.1 cs_X4_138 (mk_W_isStatement D r90 g_r90 _ hw l _) [] rfl (by decide) [] rfl rfl rfl ⟨(Nat.le_of_ble_eq_true rfl), (Nat.le_of_ble_eq_true rfl)⟩ hl.1 rfl rfl (Nat.le_of_ble_eq_true rfl) ⟨(Nat.le_of_ble_eq_true rfl), (Nat.le_of_ble_eq_true rfl)⟩ dX4_cutDown_93) (fun y93 hy => ?_)
                  obtain ⟨r93, rfl, g_r93, hw⟩ := hy
                  refine lv_if_eq (tgt := 158) C.1 C.2.1 dX4_cutDown_96 (by decide) (fun c96 => ?_) (fun c96 => ?_)
                  · have hw := hw.1 (z0_eq g_r93 c96)
                    refine lv_iinc (v := zI (l6_67 + 1)) (lv' := [(6, .int (zI (l6_67 + 1))), (0, .ref (ad 31)), (1, .int (zI x0)), (4, .int (zI l4_67)), (5, .int (zI l5_49))]) C.1 C.2.1 dX4_cutDown_158 hl (k := 4) rfl (zI_inc _ _ (by decide)) (by decide) rfl (fun ls hl => ?_)
                    replace hl := lv_sub hl [1, 2, 3, 4, 0] rfl
                    refine lv_goto (tgt := 67) C.1 C.2.1 dX4_cutDown_161 (by decide) ?_
                    obtain ⟨g161_20, hw⟩ := hw
                    exact hL67 _ _ _ hw _ _ _ ⟨g_l4_67, g161_20, Wd, lv_sub hl [0, 1, 2, 3, 4] rfl⟩
                  · have hw := hw.2 (z0_ne g_r93 c96)
                    refine lv_aload_n C.1 C.2.1 dX4_cutDown_99 rfl (lv_at hl 0 rfl) ?_
                    refine k_get (v := .ref (ad 115)) C Wd.1 KX4 _ 9 (cx31 _) (by decide) fl_X4_46 rfl dX4_cutDown_100 ?_
                    refine lv_aload_n C.1 C.2.1 dX4_cutDown_103 rfl (lv_at hl 0 rfl) ?_
                    refine k_get (v := .ref (ad 113)) C Wd.1 KX4 _ 2 (cx31 _) (by decide) fl_X4_43 rfl dX4_cutDown_104 ?_
                    refine k_cKv Wd (k_runVK (rest := []) C aks Wd cs_X4_67 (mk_W_copy D ad ca rf σ67 Wd.2.1 Wd.2.2 7 6 (show (0 : Int) ≤ 7 ∧ (7 : Int) < 35 from by decide) (show (0 : Int) ≤ 6 ∧ (6 : Int) < 35 from by decide) _ hw l _) (cxRow (show (0 : Int) ≤ 7 ∧ (7 : Int) < 35 from by decide)) rfl rfl rfl rfl ⟨(Nat.le_of_ble_eq_true rfl), (Nat.le_of_ble_eq_true rfl)⟩ hl.1 rfl rfl (Nat.le_of_ble_eq_true rfl) ⟨(Nat.le_of_ble_eq_true rfl), (Nat.le_of_ble_eq_true rfl)⟩ dX4_cutDown_107) (fun σr107 H locs hw Wd => ?_)
                    have hS_σr107 := Wd.2.1
                    refine lv_aload_n C.1 C.2.1 dX4_cutDown_110 rfl (lv_at hl 0 rfl) ?_
                    refine k_get (v := .ref (ad 115)) C Wd.1 KX4 _ 9 (cx31 _) (by decide) fl_X4_46 rfl dX4_cutDown_111 ?_
                    refine lv_iload C.1 C.2.1 dX4_cutDown_114 (lv_at hl 4 rfl) ?_
                    refine lv_aload_n C.1 C.2.1 dX4_cutDown_116 rfl (lv_at hl 0 rfl) ?_
                    refine k_get (v := .ref (ad 113)) C Wd.1 KX4 _ 2 (cx31 _) (by decide) fl_X4_43 rfl dX4_cutDown_117 ?_
                    refine lv_iload C.1 C.2.1 dX4_cutDown_120 (lv_at hl 4 rfl) ?_
                    refine k_pi (k_runVK (rest := [.int (zI l6_67), .ref (ad 115)]) C aks Wd cs_X4_141 (mk_W_statementEnd D ad ca rf σr107 Wd.2.1 Wd.2.2 6 l6_67 (show (0 : Int) ≤ 6 ∧ (6 : Int) < 35 from by decide) g_l6_67 _ hw l _) (cxRow (show (0 : Int) ≤ 6 ∧ (6 : Int) < 35 from by decide)) rfl rfl rfl rfl ⟨(Nat.le_of_ble_eq_true rfl), (Nat.le_of_ble_eq_true rfl)⟩ hl.1 rfl rfl (Nat.le_of_ble_eq_true rfl) ⟨(Nat.le_of_ble_eq_true rfl), (Nat.le_of_ble_eq_true rfl)⟩ dX4_cutDown_122) (fun y122 hy => ?_)
                    obtain ⟨r122, rfl, g_r122, hw⟩ := hy
                    refine k_cKv Wd (k_runVK (rest := []) C aks Wd cs_X4_144 (mk_W_remove D ad ca rf σr107 Wd.2.1 Wd.2.2 7 l6_67 r122 (show (0 : Int) ≤ 7 ∧ (7 : Int) < 35 from by decide) g_l6_67 g_r122 _ hw l _) (cxRow (show (0 : Int) ≤ 7 ∧ (7 : Int) < 35 from by decide)) rfl rfl rfl rfl ⟨(Nat.le_of_ble_eq_true rfl), (Nat.le_of_ble_eq_true rfl)⟩ hl.1 rfl rfl (Nat.le_of_ble_eq_true rfl) ⟨(Nat.le_of_ble_eq_true rfl), (Nat.le_of_ble_eq_true rfl)⟩ dX4_cutDown_125) (fun σr125 H locs hw Wd => ?_)
                    have hS_σr125 := Wd.2.1
                    refine lv_aload_n C.1 C.2.1 dX4_cutDown_128 rfl (lv_at hl 0 rfl) ?_
                    refine lv_iload_n C.1 C.2.1 dX4_cutDown_129 rfl (lv_at hl 1 rfl) ?_
                    refine lv_aload_n C.1 C.2.1 dX4_cutDown_130 rfl (lv_at hl 0 rfl) ?_
                    refine k_get (v := .ref (ad 115)) C Wd.1 KX4 _ 9 (cx31 _) (by decide) fl_X4_46 rfl dX4_cutDown_131 ?_
                    refine k_cKi Wd (k_runVK (rest := []) C aks Wd cs_X4_109 (mk_P_makeOf D ad ca rf σr125 Wd.2.1 Wd.2.2 x0 7 g_x0 (show (0 : Int) ≤ 7 ∧ (7 : Int) < 35 from by decide) _ hw l _) (cx31 _) rfl rfl rfl rfl ⟨(Nat.le_of_ble_eq_true rfl), (Nat.le_of_ble_eq_true rfl)⟩ hl.1 rfl rfl (Nat.le_of_ble_eq_true rfl) ⟨(Nat.le_of_ble_eq_true rfl), (Nat.le_of_ble_eq_true rfl)⟩ dX4_cutDown_134) (fun r134 σr134 H locs g_r134 hw Wd => ?_)
                    have hS_σr134 := Wd.2.1
                    refine lv_if_eq (tgt := 155) C.1 C.2.1 dX4_cutDown_137 (by decide) (fun c137 => ?_) (fun c137 => ?_)
                    · have hw := hw.1 (z0_eq g_r134 c137)
                      refine lv_iconst (v := zI 0) C.1 C.2.1 dX4_cutDown_155 (by decide) ?_
                      refine lv_istore (lv' := [(4, .int (zI 0)), (0, .ref (ad 31)), (1, .int (zI x0)), (5, .int (zI l5_49)), (6, .int (zI l6_67))]) C.1 C.2.1 dX4_cutDown_156 hl (by decide) rfl (fun ls hl => ?_)
                      replace hl := lv_sub hl [1, 2, 0, 3, 4] rfl
                      refine lv_iinc (v := zI (l6_67 + 1)) (lv' := [(6, .int (zI (l6_67 + 1))), (0, .ref (ad 31)), (1, .int (zI x0)), (4, .int (zI 0)), (5, .int (zI l5_49))]) C.1 C.2.1 dX4_cutDown_158 hl (k := 4) rfl (zI_inc _ _ (by decide)) (by decide) rfl (fun ls hl => ?_)
                      replace hl := lv_sub hl [1, 2, 3, 4, 0] rfl
                      refine lv_goto (tgt := 67) C.1 C.2.1 dX4_cutDown_161 (by decide) ?_
                      obtain ⟨g161_21, hw⟩ := hw
                      exact hL67 _ _ _ hw _ _ _ ⟨(show rng 0 from by decide), g161_21, Wd, lv_sub hl [0, 1, 2, 3, 4] rfl⟩
                    · have hw := hw.2 (z0_ne g_r134 c137)
                      refine lv_aload_n C.1 C.2.1 dX4_cutDown_140 rfl (lv_at hl 0 rfl) ?_
                      refine lv_aload_n C.1 C.2.1 dX4_cutDown_141 rfl (lv_at hl 0 rfl) ?_
                      refine k_get (v := .ref (ad 115)) C Wd.1 KX4 _ 9 (cx31 _) (by decide) fl_X4_46 rfl dX4_cutDown_142 ?_
                      refine k_cKi Wd (k_runVK (rest := []) C aks Wd cs_X4_113 (mk_P_madeWrong D ad ca rf σr134 Wd.2.1 Wd.2.2 7 (show (0 : Int) ≤ 7 ∧ (7 : Int) < 35 from by decide) _ hw l _) (cx31 _) rfl rfl rfl rfl ⟨(Nat.le_of_ble_eq_true rfl), (Nat.le_of_ble_eq_true rfl)⟩ hl.1 rfl rfl (Nat.le_of_ble_eq_true rfl) ⟨(Nat.le_of_ble_eq_true rfl), (Nat.le_of_ble_eq_true rfl)⟩ dX4_cutDown_145) (fun r145 σr145 H locs g_r145 hw Wd => ?_)
                      have hS_σr145 := Wd.2.1
                      refine lv_if_eq (tgt := 155) C.1 C.2.1 dX4_cutDown_148 (by decide) (fun c148 => ?_) (fun c148 => ?_)
                      · have hw := hw.1 (z0_eq g_r145 c148)
                        refine lv_iconst (v := zI 0) C.1 C.2.1 dX4_cutDown_155 (by decide) ?_
                        refine lv_istore (lv' := [(4, .int (zI 0)), (0, .ref (ad 31)), (1, .int (zI x0)), (5, .int (zI l5_49)), (6, .int (zI l6_67))]) C.1 C.2.1 dX4_cutDown_156 hl (by decide) rfl (fun ls hl => ?_)
                        replace hl := lv_sub hl [1, 2, 0, 3, 4] rfl
                        refine lv_iinc (v := zI (l6_67 + 1)) (lv' := [(6, .int (zI (l6_67 + 1))), (0, .ref (ad 31)), (1, .int (zI x0)), (4, .int (zI 0)), (5, .int (zI l5_49))]) C.1 C.2.1 dX4_cutDown_158 hl (k := 4) rfl (zI_inc _ _ (by decide)) (by decide) rfl (fun ls hl => ?_)
                        replace hl := lv_sub hl [1, 2, 3, 4, 0] rfl
                        refine lv_goto (tgt := 67) C.1 C.2.1 dX4_cutDown_161 (by decide) ?_
                        obtain ⟨g161_22, hw⟩ := hw
                        exact hL67 _ _ _ hw _ _ _ ⟨(show rng 0 from by decide), g161_22, Wd, lv_sub hl [0, 1, 2, 3, 4] rfl⟩
                      · have hw := hw.2 (z0_ne g_r145 c148)
                        refine lv_iconst (v := zI 1) C.1 C.2.1 dX4_cutDown_151 (by decide) ?_
                        refine lv_goto (tgt := 156) C.1 C.2.1 dX4_cutDown_152 (by decide) ?_
                        refine lv_istore (lv' := [(4, .int (zI 1)), (0, .ref (ad 31)), (1, .int (zI x0)), (5, .int (zI l5_49)), (6, .int (zI l6_67))]) C.1 C.2.1 dX4_cutDown_156 hl (by decide) rfl (fun ls hl => ?_)
                        replace hl := lv_sub hl [1, 2, 0, 3, 4] rfl
                        refine lv_iinc (v := zI (l6_67 + 1)) (lv' := [(6, .int (zI (l6_67 + 1))), (0, .ref (ad 31)), (1, .int (zI x0)), (4, .int (zI 1)), (5, .int (zI l5_49))]) C.1 C.2.1 dX4_cutDown_158 hl (k := 4) rfl (zI_inc _ _ (by decide)) (by decide) rfl (fun ls hl => ?_)
                        replace hl := lv_sub hl [1, 2, 3, 4, 0] rfl
                        refine lv_goto (tgt := 67) C.1 C.2.1 dX4_cutDown_161 (by decide) ?_
                        obtain ⟨g161_23, hw⟩ := hw
                        exact hL67 _ _ _ hw _ _ _ ⟨(show rng 1 from by decide), g161_23, Wd, lv_sub hl [0, 1, 2, 3, 4] rfl⟩
        · have hw := hw.2 (z0_eq g_r27 c30)
          refine lv_iconst (v := zI 0) C.1 C.2.1 dX4_cutDown_33 (by decide) ?_
          exact k_retKi C hr hlk (by decide) Wd ⟨_, rfl, (show rng 0 from by decide), hw⟩ dX4_cutDown_34
