set_option maxHeartbeats 4000000 in
set_option maxRecDepth 100000 in
theorem mk_R_takeNumber : ∀ (D : va_G) (ad : Nat → Nat) (ca : Nat → ClassId) (rf : Nat → Nat → Option Nat) (σ : Sg) (hS : rngK σ) (hRF : RFok ad rf) (K : Sg → Prop) (hw : wp5_R_takeNumber σ K) (l : Launch) (sz : Nat), Met l yX6_takeNumber (Cond.code yX6_takeNumber cX6_takeNumber 1 none :: gG) { frames := 3, cells := 0, slots := 0, locals := 105 } (cPre D (tC ca) (wK ad ca rf σ) sz [.ref (ad 2)]) (va_Qv (fun (u : Sg) => K u ∧ rngK u) (fun u t => cB D (va_A (wK ad ca rf σ) sz) [] (wK ad ca rf u) t) (va_A (wK ad ca rf σ) sz)) 0 0 (va_A (wK ad ca rf σ) sz) := by
  intro D ad ca rf σ hS hRF  K hw l sz
  refine Met.ofW (cc := cX6_takeNumber) (maxL := 1) (ret := none) (by decide) rfl ?_
  intro p e s m args below meth c s₁ B hml hv
  obtain ⟨rfl, aks, rfl, Wd⟩ := k_enter hv
  have C : CallFix p m c cX6_takeNumber 1 s _ gG RX6 := ⟨B.exec, B.bytes, hml, findClass_of_methodNamed B.named, fun w h => atoms_spec (ws := Cond.code yX6_takeNumber cX6_takeNumber 1 none :: gG) B.pre w (List.mem_cons_of_mem _ h)⟩
  have hr := B.returns
  have hlk := B.notSynchronized
  generalize va_A (wK ad ca rf σ) s.heap.size = A at Wd ⊢
  replace Wd : wXK D ad ca rf s σ s.heap A s.heap [] := ⟨Wd, hS, hRF⟩
  refine k_locals (Nat.le_of_ble_eq_true rfl) [(0, .ref (ad 2))] rfl (fun ls hl => ?_)
  unfold wp5_R_takeNumber at hw
  refine lv_aload_n C.1 C.2.1 dX6_takeNumber_0 rfl (lv_at hl 0 rfl) ?_
  refine k_get (v := .ref (ad 3)) C Wd.1 KX6 _ 0 (cx2 _) (by decide) fl_X6_12 rfl dX6_takeNumber_1 ?_
  refine k_get (v := .int (zI (σ.1 3 3))) C Wd.1 KX10 _ 3 (cx3 _) (by decide) fl_X6_131 rfl dX6_takeNumber_4 ?_
  refine lv_bipush (v := zI 16) C.1 C.2.1 dX6_takeNumber_7 (by decide) ?_
  refine lv_icmp_lt (tgt := 20) C.1 C.2.1 dX6_takeNumber_9 (by decide) (fun c9 => ?_) (fun c9 => ?_)
  · have hw := hw.1 (z_lt (hS.1 3 3) (show rng 16 from by decide) c9)
    refine lv_aload_n C.1 C.2.1 dX6_takeNumber_20 rfl (lv_at hl 0 rfl) ?_
    refine k_cKi Wd (k_runVK (rest := []) C aks Wd cs_X6_158 (mk_R_countThing D ad ca rf σ Wd.2.1 Wd.2.2   _ hw l _) (cx2 _) rfl rfl rfl rfl ⟨(Nat.le_of_ble_eq_true rfl), (Nat.le_of_ble_eq_true rfl)⟩ hl.1 rfl rfl (Nat.le_of_ble_eq_true rfl) ⟨(Nat.le_of_ble_eq_true rfl), (Nat.le_of_ble_eq_true rfl)⟩ dX6_takeNumber_21) (fun r21 σr21 H locs g_r21 hw Wd => ?_)
    have hS_σr21 := Wd.2.1
    refine lv_if_eq (tgt := 47) C.1 C.2.1 dX6_takeNumber_24 (by decide) (fun c24 => ?_) (fun c24 => ?_)
    · have hw := hw.1 (z0_eq g_r21 c24)
      exact k_retKv C hr hlk Wd hw dX6_takeNumber_47
    · have hw := hw.2 (z0_ne g_r21 c24)
      refine lv_aload_n C.1 C.2.1 dX6_takeNumber_27 rfl (lv_at hl 0 rfl) ?_
      obtain ⟨n28_0, hw⟩ := hw
      refine k_get (v := .ref (ad (rowC (σr21.1 2 3).toNat))) C Wd.1 KX6 _ 3 (cx2 _) (by decide) fl_X6_23 (congrArg some (rvR_ref n28_0)) dX6_takeNumber_28 ?_
      refine lv_aload_n C.1 C.2.1 dX6_takeNumber_31 rfl (lv_at hl 0 rfl) ?_
      refine k_get (v := .ref (ad 3)) C Wd.1 KX6 _ 0 (cx2 _) (by decide) fl_X6_12 rfl dX6_takeNumber_32 ?_
      refine k_get (v := .int (zI (σr21.1 3 3))) C Wd.1 KX10 _ 3 (cx3 _) (by decide) fl_X6_131 rfl dX6_takeNumber_35 ?_
      refine k_cKv Wd (k_runVK (rest := []) C aks Wd cs_X6_119 (mk_W_add D ad ca rf σr21 Wd.2.1 Wd.2.2 (σr21.1 2 3) (σr21.1 3 3) n28_0 (hS_σr21.1 3 3) _ hw l _) (cxRow n28_0) rfl rfl rfl rfl ⟨(Nat.le_of_ble_eq_true rfl), (Nat.le_of_ble_eq_true rfl)⟩ hl.1 rfl rfl (Nat.le_of_ble_eq_true rfl) ⟨(Nat.le_of_ble_eq_true rfl), (Nat.le_of_ble_eq_true rfl)⟩ dX6_takeNumber_38) (fun σr38 H locs hw Wd => ?_)
      have hS_σr38 := Wd.2.1
      refine lv_aload_n C.1 C.2.1 dX6_takeNumber_41 rfl (lv_at hl 0 rfl) ?_
      refine lv_bipush (v := zI 6) C.1 C.2.1 dX6_takeNumber_42 (by decide) ?_
      refine k_putK (v := 6) C Wd KX6 2 5 (by decide) (cx2 _) rfl (by decide) fl_X6_52 rfl rfl rfl (Nat.le_of_ble_eq_true rfl) (show rng 6 from by decide) dX6_takeNumber_44 (fun H locs Wd => ?_)
      exact k_retKv C hr hlk Wd hw dX6_takeNumber_47
  · have hw := hw.2 (z_nlt (hS.1 3 3) (show rng 16 from by decide) c9)
    refine lv_aload_n C.1 C.2.1 dX6_takeNumber_12 rfl (lv_at hl 0 rfl) ?_
    refine lv_iconst (v := zI 2) C.1 C.2.1 dX6_takeNumber_13 (by decide) ?_
    refine k_cKv Wd (k_runVK (rest := []) C aks Wd cs_X6_125 (mk_R_refuse D ad ca rf σ Wd.2.1 Wd.2.2 2 (show rng 2 from by decide) _ hw l _) (cx2 _) rfl rfl rfl rfl ⟨(Nat.le_of_ble_eq_true rfl), (Nat.le_of_ble_eq_true rfl)⟩ hl.1 rfl rfl (Nat.le_of_ble_eq_true rfl) ⟨(Nat.le_of_ble_eq_true rfl), (Nat.le_of_ble_eq_true rfl)⟩ dX6_takeNumber_14) (fun σr14 H locs hw Wd => ?_)
    have hS_σr14 := Wd.2.1
    refine lv_goto (tgt := 47) C.1 C.2.1 dX6_takeNumber_17 (by decide) ?_
    exact k_retKv C hr hlk Wd hw dX6_takeNumber_47
set_option maxHeartbeats 4000000 in
set_option maxRecDepth 100000 in
theorem mk_R_takeOperand : ∀ (D : va_G) (ad : Nat → Nat) (ca : Nat → ClassId) (rf : Nat → Nat → Option Nat) (σ : Sg) (hS : rngK σ) (hRF : RFok ad rf) (K : Sg → Prop) (hw : wp5_R_takeOperand σ K) (l : Launch) (sz : Nat), Met l yX6_takeOperand (Cond.code yX6_takeOperand cX6_takeOperand 1 none :: gG) { frames := 4, cells := 0, slots := 0, locals := 126 } (cPre D (tC ca) (wK ad ca rf σ) sz [.ref (ad 2)]) (va_Qv (fun (u : Sg) => K u ∧ rngK u) (fun u t => cB D (va_A (wK ad ca rf σ) sz) [] (wK ad ca rf u) t) (va_A (wK ad ca rf σ) sz)) 0 0 (va_A (wK ad ca rf σ) sz) := by
  intro D ad ca rf σ hS hRF  K hw l sz
  refine Met.ofW (cc := cX6_takeOperand) (maxL := 1) (ret := none) (by decide) rfl ?_
  intro p e s m args below meth c s₁ B hml hv
  obtain ⟨rfl, aks, rfl, Wd⟩ := k_enter hv
  have C : CallFix p m c cX6_takeOperand 1 s _ gG RX6 := ⟨B.exec, B.bytes, hml, findClass_of_methodNamed B.named, fun w h => atoms_spec (ws := Cond.code yX6_takeOperand cX6_takeOperand 1 none :: gG) B.pre w (List.mem_cons_of_mem _ h)⟩
  have hr := B.returns
  have hlk := B.notSynchronized
  generalize va_A (wK ad ca rf σ) s.heap.size = A at Wd ⊢
  replace Wd : wXK D ad ca rf s σ s.heap A s.heap [] := ⟨Wd, hS, hRF⟩
  refine k_locals (Nat.le_of_ble_eq_true rfl) [(0, .ref (ad 2))] rfl (fun ls hl => ?_)
  unfold wp5_R_takeOperand at hw
  refine lv_aload_n C.1 C.2.1 dX6_takeOperand_0 rfl (lv_at hl 0 rfl) ?_
  refine k_get (v := .ref (ad 3)) C Wd.1 KX6 _ 0 (cx2 _) (by decide) fl_X6_12 rfl dX6_takeOperand_1 ?_
  refine k_get (v := .int (zI (σ.1 3 2))) C Wd.1 KX10 _ 2 (cx3 _) (by decide) fl_X6_88 rfl dX6_takeOperand_4 ?_
  refine lv_bipush (v := zI 40) C.1 C.2.1 dX6_takeOperand_7 (by decide) ?_
  refine lv_icmp_ne (tgt := 45) C.1 C.2.1 dX6_takeOperand_9 (by decide) (fun c9 => ?_) (fun c9 => ?_)
  · have hw := hw.1 (z_ne (hS.1 3 2) (show rng 40 from by decide) c9)
    refine lv_aload_n C.1 C.2.1 dX6_takeOperand_45 rfl (lv_at hl 0 rfl) ?_
    refine k_get (v := .ref (ad 3)) C Wd.1 KX6 _ 0 (cx2 _) (by decide) fl_X6_12 rfl dX6_takeOperand_46 ?_
    refine k_get (v := .int (zI (σ.1 3 2))) C Wd.1 KX10 _ 2 (cx3 _) (by decide) fl_X6_88 rfl dX6_takeOperand_49 ?_
    refine lv_iconst (v := zI 2) C.1 C.2.1 dX6_takeOperand_52 (by decide) ?_
    refine lv_icmp_ne (tgt := 63) C.1 C.2.1 dX6_takeOperand_53 (by decide) (fun c53 => ?_) (fun c53 => ?_)
    · have hw := hw.1 (z_ne (hS.1 3 2) (show rng 2 from by decide) c53)
      refine lv_aload_n C.1 C.2.1 dX6_takeOperand_63 rfl (lv_at hl 0 rfl) ?_
      refine k_get (v := .ref (ad 3)) C Wd.1 KX6 _ 0 (cx2 _) (by decide) fl_X6_12 rfl dX6_takeOperand_64 ?_
      refine k_get (v := .int (zI (σ.1 3 2))) C Wd.1 KX10 _ 2 (cx3 _) (by decide) fl_X6_88 rfl dX6_takeOperand_67 ?_
      refine lv_iconst (v := zI 3) C.1 C.2.1 dX6_takeOperand_70 (by decide) ?_
      refine lv_icmp_ne (tgt := 81) C.1 C.2.1 dX6_takeOperand_71 (by decide) (fun c71 => ?_) (fun c71 => ?_)
      · have hw := hw.1 (z_ne (hS.1 3 2) (show rng 3 from by decide) c71)
        refine lv_aload_n C.1 C.2.1 dX6_takeOperand_81 rfl (lv_at hl 0 rfl) ?_
        refine lv_iconst (v := zI 1) C.1 C.2.1 dX6_takeOperand_82 (by decide) ?_
        refine k_cKv Wd (k_runVK (rest := []) C aks Wd cs_X6_125 (mk_R_refuse D ad ca rf σ Wd.2.1 Wd.2.2 1 (show rng 1 from by decide) _ hw l _) (cx2 _) rfl rfl rfl rfl ⟨(Nat.le_of_ble_eq_true rfl), (Nat.le_of_ble_eq_true rfl)⟩ hl.1 rfl rfl (Nat.le_of_ble_eq_true rfl) ⟨(Nat.le_of_ble_eq_true rfl), (Nat.le_of_ble_eq_true rfl)⟩ dX6_takeOperand_83) (fun σr83 H locs hw Wd => ?_)
        have hS_σr83 := Wd.2.1
        exact k_retKv C hr hlk Wd hw dX6_takeOperand_86
      · have hw := hw.2 (z_eq (hS.1 3 2) (show rng 3 from by decide) c71)
        refine lv_aload_n C.1 C.2.1 dX6_takeOperand_74 rfl (lv_at hl 0 rfl) ?_
        refine k_cKv Wd (k_runVK (rest := []) C aks Wd cs_X6_155 (mk_R_takeLetter D ad ca rf σ Wd.2.1 Wd.2.2   _ hw l _) (cx2 _) rfl rfl rfl rfl ⟨(Nat.le_of_ble_eq_true rfl), (Nat.le_of_ble_eq_true rfl)⟩ hl.1 rfl rfl (Nat.le_of_ble_eq_true rfl) ⟨(Nat.le_of_ble_eq_true rfl), (Nat.le_of_ble_eq_true rfl)⟩ dX6_takeOperand_75) (fun σr75 H locs hw Wd => ?_)
        have hS_σr75 := Wd.2.1
        refine lv_goto (tgt := 86) C.1 C.2.1 dX6_takeOperand_78 (by decide) ?_
        exact k_retKv C hr hlk Wd hw dX6_takeOperand_86
    · have hw := hw.2 (z_eq (hS.1 3 2) (show rng 2 from by decide) c53)
      refine lv_aload_n C.1 C.2.1 dX6_takeOperand_56 rfl (lv_at hl 0 rfl) ?_
      refine k_cKv Wd (k_runVK (rest := []) C aks Wd cs_X6_152 (mk_R_takeNumber D ad ca rf σ Wd.2.1 Wd.2.2   _ hw l _) (cx2 _) rfl rfl rfl rfl ⟨(Nat.le_of_ble_eq_true rfl), (Nat.le_of_ble_eq_true rfl)⟩ hl.1 rfl rfl (Nat.le_of_ble_eq_true rfl) ⟨(Nat.le_of_ble_eq_true rfl), (Nat.le_of_ble_eq_true rfl)⟩ dX6_takeOperand_57) (fun σr57 H locs hw Wd => ?_)
      have hS_σr57 := Wd.2.1
      refine lv_goto (tgt := 86) C.1 C.2.1 dX6_takeOperand_60 (by decide) ?_
      exact k_retKv C hr hlk Wd hw dX6_takeOperand_86
  · have hw := hw.2 (z_eq (hS.1 3 2) (show rng 40 from by decide) c9)
    refine lv_aload_n C.1 C.2.1 dX6_takeOperand_12 rfl (lv_at hl 0 rfl) ?_
    refine lv_iconst (v := zI 0) C.1 C.2.1 dX6_takeOperand_13 (by decide) ?_
    refine k_cKi Wd (k_runVK (rest := []) C aks Wd cs_X6_149 (mk_R_open D ad ca rf σ Wd.2.1 Wd.2.2 0 (show rng 0 from by decide) _ hw l _) (cx2 _) rfl rfl rfl rfl ⟨(Nat.le_of_ble_eq_true rfl), (Nat.le_of_ble_eq_true rfl)⟩ hl.1 rfl rfl (Nat.le_of_ble_eq_true rfl) ⟨(Nat.le_of_ble_eq_true rfl), (Nat.le_of_ble_eq_true rfl)⟩ dX6_takeOperand_14) (fun r14 σr14 H locs g_r14 hw Wd => ?_)
    have hS_σr14 := Wd.2.1
    refine lv_if_eq (tgt := 86) C.1 C.2.1 dX6_takeOperand_17 (by decide) (fun c17 => ?_) (fun c17 => ?_)
    · have hw := hw.1 (z0_eq g_r14 c17)
      exact k_retKv C hr hlk Wd hw dX6_takeOperand_86
    · have hw := hw.2 (z0_ne g_r14 c17)
      refine lv_aload_n C.1 C.2.1 dX6_takeOperand_20 rfl (lv_at hl 0 rfl) ?_
      refine lv_aload_n C.1 C.2.1 dX6_takeOperand_21 rfl (lv_at hl 0 rfl) ?_
      obtain ⟨n22_0, hw⟩ := hw
      refine k_get (v := .ref (ad (rowC (σr14.1 2 3).toNat))) C Wd.1 KX6 _ 3 (cx2 _) (by decide) fl_X6_23 (congrArg some (rvR_ref n22_0)) dX6_takeOperand_22 ?_
      refine k_get (v := .int (zI (σr14.2.2.1 0 (σr14.1 2 3)))) C Wd.1 KX8 _ 1 (cxRow n22_0) (by decide) fl_X6_66 rfl dX6_takeOperand_25 ?_
      refine k_putK (v := (σr14.2.2.1 0 (σr14.1 2 3))) C Wd KX6 2 10 (by decide) (cx2 _) rfl (by decide) fl_X6_143 rfl rfl rfl (Nat.le_of_ble_eq_true rfl) (rgY hS_σr14 (N := 35) n22_0) dX6_takeOperand_28 (fun H locs Wd => ?_)
      refine lv_aload_n C.1 C.2.1 dX6_takeOperand_31 rfl (lv_at hl 0 rfl) ?_
      refine lv_aload_n C.1 C.2.1 dX6_takeOperand_32 rfl (lv_at hl 0 rfl) ?_
      refine k_get (v := .ref (ad (rowC (σr14.1 2 3).toNat))) C Wd.1 KX6 _ 3 (cx2 _) (by decide) fl_X6_23 (congrArg some (rvR_ref n22_0)) dX6_takeOperand_33 ?_
      refine k_get (v := .int (zI (σr14.2.2.1 0 (σr14.1 2 3)))) C Wd.1 KX8 _ 1 (cxRow n22_0) (by decide) fl_X6_66 rfl dX6_takeOperand_36 ?_
      refine k_putK (v := (σr14.2.2.1 0 (σr14.1 2 3))) C Wd KX6 2 11 (by decide) (cx2 _) rfl (by decide) fl_X6_146 rfl rfl rfl (Nat.le_of_ble_eq_true rfl) (rgY hS_σr14 (N := 35) n22_0) dX6_takeOperand_39 (fun H locs Wd => ?_)
      refine lv_goto (tgt := 86) C.1 C.2.1 dX6_takeOperand_42 (by decide) ?_
      exact k_retKv C hr hlk Wd hw dX6_takeOperand_86
set_option maxHeartbeats 4000000 in
set_option maxRecDepth 100000 in
theorem mk_W_change : ∀ (D : va_G) (ad : Nat → Nat) (ca : Nat → ClassId) (rf : Nat → Nat → Option Nat) (σ : Sg) (hS : rngK σ) (hRF : RFok ad rf) (n0 : Int) (x0 : Int) (x1 : Int) (h_n0 : 0 ≤ n0 ∧ n0 < 35) (g_x0 : rng x0) (g_x1 : rng x1) (K : Sg → Prop) (hw : wp5_W_change σ n0 x0 x1 K) (l : Launch) (sz : Nat), Met l yX8_change (Cond.code yX8_change cX8_change 3 none :: gG) { frames := 1, cells := 0, slots := 0, locals := 64 } (cPre D (tC ca) (wK ad ca rf σ) sz [.ref (ad (rowC n0.toNat)), .int (zI x0), .int (zI x1)]) (va_Qv (fun (u : Sg) => K u ∧ rngK u) (fun u t => cB D (va_A (wK ad ca rf σ) sz) [] (wK ad ca rf u) t) (va_A (wK ad ca rf σ) sz)) 0 0 (va_A (wK ad ca rf σ) sz) := by
  intro D ad ca rf σ hS hRF n0 x0 x1 h_n0 g_x0 g_x1 K hw l sz
  refine Met.ofW (cc := cX8_change) (maxL := 3) (ret := none) (by decide) rfl ?_
  intro p e s m args below meth c s₁ B hml hv
  obtain ⟨rfl, aks, rfl, Wd⟩ := k_enter hv
  have C : CallFix p m c cX8_change 3 s _ gG RX8 := ⟨B.exec, B.bytes, hml, findClass_of_methodNamed B.named, fun w h => atoms_spec (ws := Cond.code yX8_change cX8_change 3 none :: gG) B.pre w (List.mem_cons_of_mem _ h)⟩
  have hr := B.returns
  have hlk := B.notSynchronized
  generalize va_A (wK ad ca rf σ) s.heap.size = A at Wd ⊢
  replace Wd : wXK D ad ca rf s σ s.heap A s.heap [] := ⟨Wd, hS, hRF⟩
  refine k_locals (Nat.le_of_ble_eq_true rfl) [(0, .ref (ad (rowC n0.toNat))), (1, .int (zI x0)), (2, .int (zI x1))] rfl (fun ls hl => ?_)
  unfold wp5_W_change at hw
  refine lv_iload_n C.1 C.2.1 dX8_change_0 rfl (lv_at hl 1 rfl) ?_
  refine lv_if_lt (tgt := 19) C.1 C.2.1 dX8_change_1 (by decide) (fun c1 => ?_) (fun c1 => ?_)
  · have hw := hw.1 (z0_lt g_x0 c1)
    exact k_retKv C hr hlk Wd hw dX8_change_19
  · have hw := hw.2 (z0_nlt g_x0 c1)
    refine lv_iload_n C.1 C.2.1 dX8_change_4 rfl (lv_at hl 1 rfl) ?_
    refine lv_aload_n C.1 C.2.1 dX8_change_5 rfl (lv_at hl 0 rfl) ?_
    refine k_get (v := .int (zI (σ.2.2.1 0 n0))) C Wd.1 KX8 _ 1 (cxRow h_n0) (by decide) fl_X8_21 rfl dX8_change_6 ?_
    refine lv_icmp_ge (tgt := 19) C.1 C.2.1 dX8_change_9 (by decide) (fun c9 => ?_) (fun c9 => ?_)
    · have hw := hw.1 (z_le (rgY hS (N := 35) h_n0) g_x0 c9)
      exact k_retKv C hr hlk Wd hw dX8_change_19
    · have hw := hw.2 (z_nle (rgY hS (N := 35) h_n0) g_x0 c9)
      refine lv_aload_n C.1 C.2.1 dX8_change_12 rfl (lv_at hl 0 rfl) ?_
      refine k_get (v := .ref (ad ((rowC n0.toNat) + 1))) C Wd.1 KX8 _ 0 (cxRow h_n0) (by decide) fl_X8_15 rfl dX8_change_13 ?_
      refine lv_iload_n C.1 C.2.1 dX8_change_16 rfl (lv_at hl 1 rfl) ?_
      refine lv_iload_n C.1 C.2.1 dX8_change_17 rfl (lv_at hl 2 rfl) ?_
      obtain ⟨n18_0, hw⟩ := hw
      refine k_iastR (n := n0) (g := (σ.2.2.2 0 n0)) (i := x0) (v := x1) C Wd h_n0 rfl n18_0 (ruZ (rgZ (c := 0) Wd.2.1 h_n0) g_x1) dX8_change_18 (fun H locs Wd => ?_)
      exact k_retKv C hr hlk Wd hw dX8_change_19
set_option maxHeartbeats 4000000 in
set_option maxRecDepth 100000 in
theorem mk_W_cell : ∀ (D : va_G) (ad : Nat → Nat) (ca : Nat → ClassId) (rf : Nat → Nat → Option Nat) (σ : Sg) (hS : rngK σ) (hRF : RFok ad rf) (n0 : Int) (x0 : Int) (h_n0 : 0 ≤ n0 ∧ n0 < 35) (g_x0 : rng x0) (K : Int → Prop) (hw : wp5_W_cell σ n0 x0 K) (l : Launch) (sz : Nat), Met l yX8_cell (Cond.code yX8_cell cX8_cell 2 (some .int) :: gG) { frames := 1, cells := 0, slots := 0, locals := 64 } (cPre D (tC ca) (wK ad ca rf σ) sz [.ref (ad (rowC n0.toNat)), .int (zI x0)]) (vp_Si (fun r => ∃ x : Int, r = zI x ∧ rng x ∧ K x)) 0 0 (fun _ => False) := by
  intro D ad ca rf σ hS hRF n0 x0 h_n0 g_x0 K hw l sz
  refine Met.ofW (cc := cX8_cell) (maxL := 2) (ret := (some .int)) (by decide) rfl ?_
  intro p e s m args below meth c s₁ B hml hv
  obtain ⟨rfl, aks, rfl, Wd⟩ := k_enter hv
  have C : CallFix p m c cX8_cell 2 s _ gG RX8 := ⟨B.exec, B.bytes, hml, findClass_of_methodNamed B.named, fun w h => atoms_spec (ws := Cond.code yX8_cell cX8_cell 2 (some .int) :: gG) B.pre w (List.mem_cons_of_mem _ h)⟩
  have hr := B.returns
  have hlk := B.notSynchronized
  obtain ⟨A, Wd⟩ : ∃ A, wXK D ad ca rf s σ s.heap A s.heap [] := ⟨_, Wd, hS, hRF⟩
  refine k_locals (Nat.le_of_ble_eq_true rfl) [(0, .ref (ad (rowC n0.toNat))), (1, .int (zI x0))] rfl (fun ls hl => ?_)
  unfold wp5_W_cell at hw
  refine lv_iload_n C.1 C.2.1 dX8_cell_0 rfl (lv_at hl 1 rfl) ?_
  refine lv_if_lt (tgt := 21) C.1 C.2.1 dX8_cell_1 (by decide) (fun c1 => ?_) (fun c1 => ?_)
  · have hw := hw.1 (z0_lt g_x0 c1)
    refine lv_iconst (v := zI (-1)) C.1 C.2.1 dX8_cell_21 (by decide) ?_
    exact k_zretP C hr hlk rfl ⟨_, rfl, (show rng (-1) from by decide), hw⟩ dX8_cell_22
  · have hw := hw.2 (z0_nlt g_x0 c1)
    refine lv_iload_n C.1 C.2.1 dX8_cell_4 rfl (lv_at hl 1 rfl) ?_
    refine lv_aload_n C.1 C.2.1 dX8_cell_5 rfl (lv_at hl 0 rfl) ?_
    refine k_get (v := .int (zI (σ.2.2.1 0 n0))) C Wd.1 KX8 _ 1 (cxRow h_n0) (by decide) fl_X8_21 rfl dX8_cell_6 ?_
    refine lv_icmp_ge (tgt := 21) C.1 C.2.1 dX8_cell_9 (by decide) (fun c9 => ?_) (fun c9 => ?_)
    · have hw := hw.1 (z_le (rgY hS (N := 35) h_n0) g_x0 c9)
      refine lv_iconst (v := zI (-1)) C.1 C.2.1 dX8_cell_21 (by decide) ?_
      exact k_zretP C hr hlk rfl ⟨_, rfl, (show rng (-1) from by decide), hw⟩ dX8_cell_22
    · have hw := hw.2 (z_nle (rgY hS (N := 35) h_n0) g_x0 c9)
      refine lv_aload_n C.1 C.2.1 dX8_cell_12 rfl (lv_at hl 0 rfl) ?_
      refine k_get (v := .ref (ad ((rowC n0.toNat) + 1))) C Wd.1 KX8 _ 0 (cxRow h_n0) (by decide) fl_X8_15 rfl dX8_cell_13 ?_
      refine lv_iload_n C.1 C.2.1 dX8_cell_16 rfl (lv_at hl 1 rfl) ?_
      obtain ⟨n17_0, hw⟩ := hw
      refine k_ialdK (g := (σ.2.2.2 0 n0)) C Wd (cxRowc h_n0) (tyR h_n0) (capN n17_0) (capL _) dX8_cell_17 ?_
      have ga17 : rng (σ.2.2.2 0 n0 x0) := rngL (rgZ (c := 0) Wd.2.1 h_n0) n17_0
      refine lv_goto (tgt := 22) C.1 C.2.1 dX8_cell_18 (by decide) ?_
      exact k_zretP C hr hlk rfl ⟨_, rfl, ga17, hw⟩ dX8_cell_22
set_option maxHeartbeats 4000000 in
set_option maxRecDepth 100000 in
theorem mk_U_letterOf : ∀ (D : va_G) (x0 : Int) (g_x0 : rng x0) (K : Int → Prop) (hw : wp5_U_letterOf x0 K) (l : Launch) (sz : Nat), Met l yX9_letterOf (Cond.code yX9_letterOf cX9_letterOf 1 (some .int) :: gG) { frames := 1, cells := 0, slots := 0, locals := 64 } (cPre D [] [] sz [.int (zI x0)]) (vp_Si (fun r => ∃ x : Int, r = zI x ∧ rng x ∧ K x)) 0 0 (fun _ => False) := by
  intro D x0 g_x0 K hw l sz
  refine Met.ofW (cc := cX9_letterOf) (maxL := 1) (ret := (some .int)) (by decide) rfl ?_
  intro p e s m args below meth c s₁ B hml hv
  obtain ⟨rfl, aks, rfl, Wd⟩ := k_enter hv
  have C : CallFix p m c cX9_letterOf 1 s _ gG RX9 := ⟨B.exec, B.bytes, hml, findClass_of_methodNamed B.named, fun w h => atoms_spec (ws := Cond.code yX9_letterOf cX9_letterOf 1 (some .int) :: gG) B.pre w (List.mem_cons_of_mem _ h)⟩
  have hr := B.returns
  have hlk := B.notSynchronized
  obtain ⟨A, Wd⟩ : ∃ A, wX D [] s [] s.heap A s.heap [] := ⟨_, Wd⟩
  refine k_locals (Nat.le_of_ble_eq_true rfl) [(0, .int (zI x0))] rfl (fun ls hl => ?_)
  unfold wp5_U_letterOf at hw
  refine lv_iload_n C.1 C.2.1 dX9_letterOf_0 rfl (lv_at hl 0 rfl) ?_
  refine lv_bipush (v := zI 20) C.1 C.2.1 dX9_letterOf_1 (by decide) ?_
  refine lv_icmp_lt (tgt := 19) C.1 C.2.1 dX9_letterOf_3 (by decide) (fun c3 => ?_) (fun c3 => ?_)
  · have hw := hw.1 (z_lt g_x0 (show rng 20 from by decide) c3)
    refine lv_iconst (v := zI (-1)) C.1 C.2.1 dX9_letterOf_19 (by decide) ?_
    exact k_zretP C hr hlk rfl ⟨_, rfl, (show rng (-1) from by decide), hw⟩ dX9_letterOf_20
  · have hw := hw.2 (z_nlt g_x0 (show rng 20 from by decide) c3)
    refine lv_iload_n C.1 C.2.1 dX9_letterOf_6 rfl (lv_at hl 0 rfl) ?_
    refine lv_bipush (v := zI 23) C.1 C.2.1 dX9_letterOf_7 (by decide) ?_
    refine lv_icmp_ge (tgt := 19) C.1 C.2.1 dX9_letterOf_9 (by decide) (fun c9 => ?_) (fun c9 => ?_)
    · have hw := hw.1 (z_le (show rng 23 from by decide) g_x0 c9)
      refine lv_iconst (v := zI (-1)) C.1 C.2.1 dX9_letterOf_19 (by decide) ?_
      exact k_zretP C hr hlk rfl ⟨_, rfl, (show rng (-1) from by decide), hw⟩ dX9_letterOf_20
    · have hw := hw.2 (z_nle (show rng 23 from by decide) g_x0 c9)
      refine lv_iload_n C.1 C.2.1 dX9_letterOf_12 rfl (lv_at hl 0 rfl) ?_
      refine lv_bipush (v := zI 20) C.1 C.2.1 dX9_letterOf_13 (by decide) ?_
      refine k_isub (v := zI (x0 - 20)) C (zI_isub _ _) dX9_letterOf_15 ?_
      refine lv_goto (tgt := 20) C.1 C.2.1 dX9_letterOf_16 (by decide) ?_
      obtain ⟨g20_1, hw⟩ := hw
      exact k_zretP C hr hlk rfl ⟨_, rfl, g20_1, hw⟩ dX9_letterOf_20
set_option maxHeartbeats 4000000 in
set_option maxRecDepth 100000 in
theorem mk_U_noteLetters : ∀ (D : va_G) (ad : Nat → Nat) (ca : Nat → ClassId) (rf : Nat → Nat → Option Nat) (σ : Sg) (hS : rngK σ) (hRF : RFok ad rf) (n0 : Int) (h_n0 : 0 ≤ n0 ∧ n0 < 12) (K : Sg → Prop) (hw : wp5_U_noteLetters σ n0 K) (l : Launch) (sz : Nat), Met l yX9_noteLetters (Cond.code yX9_noteLetters cX9_noteLetters 3 none :: gG) { frames := 2, cells := 0, slots := 0, locals := 85 } (cPre D (tC ca) (wK ad ca rf σ) sz [.ref (ad (ruleC n0.toNat))]) (va_Qv (fun (u : Sg) => K u ∧ rngK u) (fun u t => cB D (va_A (wK ad ca rf σ) sz) [] (wK ad ca rf u) t) (va_A (wK ad ca rf σ) sz)) 0 0 (va_A (wK ad ca rf σ) sz) := by
  intro D ad ca rf σ hS hRF n0 h_n0 K hw l sz
  refine Met.ofW (cc := cX9_noteLetters) (maxL := 3) (ret := none) (by decide) rfl ?_
  intro p e s m args below meth c s₁ B hml hv
  obtain ⟨rfl, aks, rfl, Wd⟩ := k_enter hv
  have C : CallFix p m c cX9_noteLetters 3 s _ gG RX9 := ⟨B.exec, B.bytes, hml, findClass_of_methodNamed B.named, fun w h => atoms_spec (ws := Cond.code yX9_noteLetters cX9_noteLetters 3 none :: gG) B.pre w (List.mem_cons_of_mem _ h)⟩
  have hr := B.returns
  have hlk := B.notSynchronized
  generalize va_A (wK ad ca rf σ) s.heap.size = A at Wd ⊢
  replace Wd : wXK D ad ca rf s σ s.heap A s.heap [] := ⟨Wd, hS, hRF⟩
  refine k_locals (Nat.le_of_ble_eq_true rfl) [(0, .ref (ad (ruleC n0.toNat)))] rfl (fun ls hl => ?_)
  unfold wp5_U_noteLetters at hw
  refine lv_aload_n C.1 C.2.1 dX9_noteLetters_0 rfl (lv_at hl 0 rfl) ?_
  refine lv_iconst (v := zI 0) C.1 C.2.1 dX9_noteLetters_1 (by decide) ?_
  refine k_putLT (n := n0) (v := 0) C Wd h_n0 fl_X9_30 (show rng 0 from by decide) dX9_noteLetters_2 (fun H locs Wd => ?_)
  refine lv_iconst (v := zI 0) C.1 C.2.1 dX9_noteLetters_5 (by decide) ?_
  refine lv_istore_n (lv' := [(1, .int (zI 0)), (0, .ref (ad (ruleC n0.toNat)))]) C.1 C.2.1 dX9_noteLetters_6 rfl hl (by decide) rfl (fun ls hl => ?_)
  replace hl := lv_sub hl [1, 0] rfl
  refine k_lp2 hw (fun (l1_7 : Int) (σ7 : Sg) H locs ls => rng l1_7 ∧ wXK D ad ca rf s σ7 H A s.heap locs ∧ lv_has ls 3 [(0, .ref (ad (ruleC n0.toNat))), (1, .int (zI l1_7))]) (fun (l1_7 : Int) (σ7 : Sg) ls => F0 m 7 ls []) (fun L7 hL7 l1_7 σ7 hw H locs ls hi => ?_) _ _ _ ⟨(show rng 0 from by decide), Wd, lv_sub hl [0, 1] rfl⟩
  obtain ⟨g_l1_7, Wd, hl⟩ := hi
  have hS_σ7 := Wd.2.1
  unfold wp5_U_noteLetters_7 at hw
  refine lv_iload_n C.1 C.2.1 dX9_noteLetters_7 rfl (lv_at hl 1 rfl) ?_
  refine lv_aload_n C.1 C.2.1 dX9_noteLetters_8 rfl (lv_at hl 0 rfl) ?_
  have nr9 : 0 ≤ (11 + 2 * n0) ∧ (11 + 2 * n0) < 35 := by omega
  refine k_get (v := .ref (ad (rowC (11 + 2 * n0).toNat))) C Wd.1 KX9 _ 0 (cxRule h_n0) (by decide) fl_X9_14 rfl dX9_noteLetters_9 ?_
  refine k_get (v := .int (zI (σ7.2.2.1 0 (11 + 2 * n0)))) C Wd.1 KX8 _ 1 (cxRow nr9) (by decide) fl_X9_34 rfl dX9_noteLetters_12 ?_
  refine lv_icmp_ge (tgt := 57) C.1 C.2.1 dX9_noteLetters_15 (by decide) (fun c15 => ?_) (fun c15 => ?_)
  · have hw := hw.1 (z_le (rgY hS_σ7 (N := 35) nr9) g_l1_7 c15)
    exact k_retKv C hr hlk Wd hw dX9_noteLetters_57
  · have hw := hw.2 (z_nle (rgY hS_σ7 (N := 35) nr9) g_l1_7 c15)
    refine lv_aload_n C.1 C.2.1 dX9_noteLetters_18 rfl (lv_at hl 0 rfl) ?_
    refine k_get (v := .ref (ad (rowC (11 + 2 * n0).toNat))) C Wd.1 KX9 _ 0 (cxRule h_n0) (by decide) fl_X9_14 rfl dX9_noteLetters_19 ?_
    refine lv_iload_n C.1 C.2.1 dX9_noteLetters_22 rfl (lv_at hl 1 rfl) ?_
    refine k_pi (k_runVK (rest := []) C aks Wd cs_X9_37 (mk_W_cell D ad ca rf σ7 Wd.2.1 Wd.2.2 (11 + 2 * n0) l1_7 nr9 g_l1_7 _ hw l _) (cxRow nr9) rfl rfl rfl rfl ⟨(Nat.le_of_ble_eq_true rfl), (Nat.le_of_ble_eq_true rfl)⟩ hl.1 rfl rfl (Nat.le_of_ble_eq_true rfl) ⟨(Nat.le_of_ble_eq_true rfl), (Nat.le_of_ble_eq_true rfl)⟩ dX9_noteLetters_23) (fun y23 hy => ?_)
    obtain ⟨r23, rfl, g_r23, hw⟩ := hy
    refine k_pi (k_runS (rest := []) C aks Wd.1 cs_X9_41 (mk_U_letterOf D r23 g_r23 _ hw l _) [] rfl (by decide) [] rfl rfl rfl ⟨(Nat.le_of_ble_eq_true rfl), (Nat.le_of_ble_eq_true rfl)⟩ hl.1 rfl rfl (Nat.le_of_ble_eq_true rfl) ⟨(Nat.le_of_ble_eq_true rfl), (Nat.le_of_ble_eq_true rfl)⟩ dX9_noteLetters_26) (fun y26 hy => ?_)
    obtain ⟨r26, rfl, g_r26, hw⟩ := hy
    refine lv_istore_n (lv' := [(2, .int (zI r26)), (0, .ref (ad (ruleC n0.toNat))), (1, .int (zI l1_7))]) C.1 C.2.1 dX9_noteLetters_29 rfl hl (by decide) rfl (fun ls hl => ?_)
    replace hl := lv_sub hl [1, 2, 0] rfl
    refine lv_aload_n C.1 C.2.1 dX9_noteLetters_30 rfl (lv_at hl 0 rfl) ?_
    refine lv_dup C.1 C.2.1 dX9_noteLetters_31 rfl ?_
    refine k_get (v := .int (zI (σ7.2.2.1 1 n0))) C Wd.1 KX9 _ 2 (cxRule h_n0) (by decide) fl_X9_30 rfl dX9_noteLetters_32 ?_
    refine lv_iload_n C.1 C.2.1 dX9_noteLetters_35 rfl (lv_at hl 2 rfl) ?_
    refine lv_iconst (v := zI (-1)) C.1 C.2.1 dX9_noteLetters_36 (by decide) ?_
    refine lv_icmp_ne (tgt := 44) C.1 C.2.1 dX9_noteLetters_37 (by decide) (fun c37 => ?_) (fun c37 => ?_)
    · have hw := hw.1 (z_ne g_r26 (show rng (-1) from by decide) c37)
      refine lv_iconst (v := zI 1) C.1 C.2.1 dX9_noteLetters_44 (by decide) ?_
      refine lv_iload_n C.1 C.2.1 dX9_noteLetters_45 rfl (lv_at hl 2 rfl) ?_
      refine k_ishl (v := zI (zishl 1 r26)) C (zishl_eq _ _) dX9_noteLetters_46 ?_
      refine k_ior (v := zI (zior (σ7.2.2.1 1 n0) (zishl 1 r26))) C (zior_eq _ _) dX9_noteLetters_47 ?_
      refine k_putLT (n := n0) (v := (zior (σ7.2.2.1 1 n0) (zishl 1 r26))) C Wd h_n0 fl_X9_30 (rng_toInt _) dX9_noteLetters_48 (fun H locs Wd => ?_)
      refine lv_iinc (v := zI (l1_7 + 1)) (lv' := [(1, .int (zI (l1_7 + 1))), (0, .ref (ad (ruleC n0.toNat))), (2, .int (zI r26))]) C.1 C.2.1 dX9_noteLetters_51 hl (k := 1) rfl (zI_inc _ _ (by decide)) (by decide) rfl (fun ls hl => ?_)
      replace hl := lv_sub hl [1, 0, 2] rfl
      refine lv_goto (tgt := 7) C.1 C.2.1 dX9_noteLetters_54 (by decide) ?_
      obtain ⟨g54_2, hw⟩ := hw
      exact hL7 _ _ hw _ _ _ ⟨g54_2, Wd, lv_sub hl [0, 1] rfl⟩
    · have hw := hw.2 (z_eq g_r26 (show rng (-1) from by decide) c37)
      refine lv_iconst (v := zI 0) C.1 C.2.1 dX9_noteLetters_40 (by decide) ?_
      refine lv_goto (tgt := 47) C.1 C.2.1 dX9_noteLetters_41 (by decide) ?_
      refine k_ior (v := zI (zior (σ7.2.2.1 1 n0) 0)) C (zior_eq _ _) dX9_noteLetters_47 ?_
      refine k_putLT (n := n0) (v := (zior (σ7.2.2.1 1 n0) 0)) C Wd h_n0 fl_X9_30 (rng_toInt _) dX9_noteLetters_48 (fun H locs Wd => ?_)
      refine lv_iinc (v := zI (l1_7 + 1)) (lv' := [(1, .int (zI (l1_7 + 1))), (0, .ref (ad (ruleC n0.toNat))), (2, .int (zI r26))]) C.1 C.2.1 dX9_noteLetters_51 hl (k := 1) rfl (zI_inc _ _ (by decide)) (by decide) rfl (fun ls hl => ?_)
      replace hl := lv_sub hl [1, 0, 2] rfl
      refine lv_goto (tgt := 7) C.1 C.2.1 dX9_noteLetters_54 (by decide) ?_
      obtain ⟨g54_3, hw⟩ := hw
      exact hL7 _ _ hw _ _ _ ⟨g54_3, Wd, lv_sub hl [0, 1] rfl⟩
set_option maxHeartbeats 4000000 in
set_option maxRecDepth 100000 in
theorem mk_R_endExpression : ∀ (D : va_G) (ad : Nat → Nat) (ca : Nat → ClassId) (rf : Nat → Nat → Option Nat) (σ : Sg) (hS : rngK σ) (hRF : RFok ad rf) (x0 : Int) (g_x0 : rng x0) (K : Sg → Prop) (hw : wp5_R_endExpression σ x0 K) (l : Launch) (sz : Nat), Met l yX6_endExpression (Cond.code yX6_endExpression cX6_endExpression 3 none :: gG) { frames := 4, cells := 0, slots := 0, locals := 127 } (cPre D (tC ca) (wK ad ca rf σ) sz [.ref (ad 2), .int (zI x0)]) (va_Qv (fun (u : Sg) => K u ∧ rngK u) (fun u t => cB D (va_A (wK ad ca rf σ) sz) [] (wK ad ca rf u) t) (va_A (wK ad ca rf σ) sz)) 0 0 (va_A (wK ad ca rf σ) sz) := by
  intro D ad ca rf σ hS hRF x0 g_x0 K hw l sz
  refine Met.ofW (cc := cX6_endExpression) (maxL := 3) (ret := none) (by decide) rfl ?_
  intro p e s m args below meth c s₁ B hml hv
  obtain ⟨rfl, aks, rfl, Wd⟩ := k_enter hv
  have C : CallFix p m c cX6_endExpression 3 s _ gG RX6 := ⟨B.exec, B.bytes, hml, findClass_of_methodNamed B.named, fun w h => atoms_spec (ws := Cond.code yX6_endExpression cX6_endExpression 3 none :: gG) B.pre w (List.mem_cons_of_mem _ h)⟩
  have hr := B.returns
  have hlk := B.notSynchronized
  generalize va_A (wK ad ca rf σ) s.heap.size = A at Wd ⊢
  replace Wd : wXK D ad ca rf s σ s.heap A s.heap [] := ⟨Wd, hS, hRF⟩
  refine k_locals (Nat.le_of_ble_eq_true rfl) [(0, .ref (ad 2)), (1, .int (zI x0))] rfl (fun ls hl => ?_)
  unfold wp5_R_endExpression at hw
  refine lv_iload_n C.1 C.2.1 dX6_endExpression_0 rfl (lv_at hl 1 rfl) ?_
  refine lv_bipush (v := zI 60) C.1 C.2.1 dX6_endExpression_1 (by decide) ?_
  refine k_cut1 (fun (s0_23 : Int) H locs ls => rng s0_23 ∧ wp5_R_endExpression_23 K σ x0 s0_23 ∧ wXK D ad ca rf s σ H A s.heap locs ∧ lv_has ls 3 [(0, .ref (ad 2)), (1, .int (zI x0))]) (fun (s0_23 : Int) ls => F0 m 23 ls [.int (zI s0_23)]) (fun s0_23 H locs ls hi => ?_) (fun J23 => ?_)
  · obtain ⟨g_s0_23, hw, Wd, hl⟩ := hi
    unfold wp5_R_endExpression_23 at hw
    refine lv_istore_n (lv' := [(2, .int (zI s0_23)), (0, .ref (ad 2)), (1, .int (zI x0))]) C.1 C.2.1 dX6_endExpression_23 rfl hl (by decide) rfl (fun ls hl => ?_)
    replace hl := lv_sub hl [1, 2, 0] rfl
    refine lv_aload_n C.1 C.2.1 dX6_endExpression_24 rfl (lv_at hl 0 rfl) ?_
    refine k_get (v := .int (zI (σ.1 2 6))) C Wd.1 KX6 _ 6 (cx2 _) (by decide) fl_X6_140 rfl dX6_endExpression_25 ?_
    refine k_cut0 (fun H locs ls => wp5_R_endExpression_45 K σ x0 s0_23 ∧ wXK D ad ca rf s σ H A s.heap locs ∧ lv_has ls 3 [(0, .ref (ad 2)), (1, .int (zI x0)), (2, .int (zI s0_23))]) (fun  ls => F0 m 45 ls []) (fun  H locs ls hi => ?_) (fun J45 => ?_)
    · obtain ⟨hw, Wd, hl⟩ := hi
      unfold wp5_R_endExpression_45 at hw
      refine lv_aload_n C.1 C.2.1 dX6_endExpression_45 rfl (lv_at hl 0 rfl) ?_
      refine k_get (v := .int (zI (σ.1 2 6))) C Wd.1 KX6 _ 6 (cx2 _) (by decide) fl_X6_140 rfl dX6_endExpression_46 ?_
      refine lv_iconst (v := zI 1) C.1 C.2.1 dX6_endExpression_49 (by decide) ?_
      refine k_cut0 (fun H locs ls => wp5_R_endExpression_103 K σ x0 ∧ wXK D ad ca rf s σ H A s.heap locs ∧ lv_has ls 3 [(0, .ref (ad 2)), (1, .int (zI x0))]) (fun  ls => F0 m 103 ls []) (fun  H locs ls hi => ?_) (fun J103 => ?_)
      · obtain ⟨hw, Wd, hl⟩ := hi
        unfold wp5_R_endExpression_103 at hw
        refine lv_aload_n C.1 C.2.1 dX6_endExpression_103 rfl (lv_at hl 0 rfl) ?_
        refine k_get (v := .int (zI (σ.1 2 6))) C Wd.1 KX6 _ 6 (cx2 _) (by decide) fl_X6_140 rfl dX6_endExpression_104 ?_
        refine lv_iconst (v := zI 2) C.1 C.2.1 dX6_endExpression_107 (by decide) ?_
        refine k_cut0 (fun H locs ls => wp5_R_endExpression_137 K σ x0 ∧ wXK D ad ca rf s σ H A s.heap locs ∧ lv_has ls 3 [(0, .ref (ad 2)), (1, .int (zI x0))]) (fun  ls => F0 m 137 ls []) (fun  H locs ls hi => ?_) (fun J137 => ?_)
        · obtain ⟨hw, Wd, hl⟩ := hi
          unfold wp5_R_endExpression_137 at hw
          refine lv_aload_n C.1 C.2.1 dX6_endExpression_137 rfl (lv_at hl 0 rfl) ?_
          refine k_get (v := .int (zI (σ.1 2 6))) C Wd.1 KX6 _ 6 (cx2 _) (by decide) fl_X6_140 rfl dX6_endExpression_138 ?_
          refine lv_iconst (v := zI 3) C.1 C.2.1 dX6_endExpression_141 (by decide) ?_
          refine k_cut0 (fun H locs ls => wp5_R_endExpression_184 K σ x0 ∧ wXK D ad ca rf s σ H A s.heap locs ∧ lv_has ls 3 [(0, .ref (ad 2)), (1, .int (zI x0))]) (fun  ls => F0 m 184 ls []) (fun  H locs ls hi => ?_) (fun J184 => ?_)
          · obtain ⟨hw, Wd, hl⟩ := hi
            unfold wp5_R_endExpression_184 at hw
            refine lv_aload_n C.1 C.2.1 dX6_endExpression_184 rfl (lv_at hl 0 rfl) ?_
            refine k_get (v := .int (zI (σ.1 2 6))) C Wd.1 KX6 _ 6 (cx2 _) (by decide) fl_X6_140 rfl dX6_endExpression_185 ?_
            refine lv_iconst (v := zI 4) C.1 C.2.1 dX6_endExpression_188 (by decide) ?_
            refine k_cut0 (fun H locs ls => wp5_R_endExpression_197 K σ ∧ wXK D ad ca rf s σ H A s.heap locs ∧ lv_has ls 3 [(0, .ref (ad 2))]) (fun  ls => F0 m 197 ls []) (fun  H locs ls hi => ?_) (fun J197 => ?_)
            · obtain ⟨hw, Wd, hl⟩ := hi
              unfold wp5_R_endExpression_197 at hw
              refine lv_aload_n C.1 C.2.1 dX6_endExpression_197 rfl (lv_at hl 0 rfl) ?_
              refine lv_iconst (v := zI 1) C.1 C.2.1 dX6_endExpression_198 (by decide) ?_
              refine k_cKv Wd (k_runVK (rest := []) C aks Wd cs_X6_125 (mk_R_refuse D ad ca rf σ Wd.2.1 Wd.2.2 1 (show rng 1 from by decide) _ hw l _) (cx2 _) rfl rfl rfl rfl ⟨(Nat.le_of_ble_eq_true rfl), (Nat.le_of_ble_eq_true rfl)⟩ hl.1 rfl rfl (Nat.le_of_ble_eq_true rfl) ⟨(Nat.le_of_ble_eq_true rfl), (Nat.le_of_ble_eq_true rfl)⟩ dX6_endExpression_199) (fun σr199 H locs hw Wd => ?_)
              have hS_σr199 := Wd.2.1
              exact k_retKv C hr hlk Wd hw dX6_endExpression_202
            refine lv_icmp_ne (tgt := 197) C.1 C.2.1 dX6_endExpression_189 (by decide) (fun c189 => ?_) (fun c189 => ?_)
            · have hw := hw.1 (z_ne (hS.1 2 6) (show rng 4 from by decide) c189)
              exact J197  _ _ _ ⟨hw, Wd, lv_sub hl [0] rfl⟩
            · have hw := hw.2 (z_eq (hS.1 2 6) (show rng 4 from by decide) c189)
              refine lv_iload_n C.1 C.2.1 dX6_endExpression_192 rfl (lv_at hl 1 rfl) ?_
              refine lv_iconst (v := zI 1) C.1 C.2.1 dX6_endExpression_193 (by decide) ?_
              refine lv_icmp_eq (tgt := 202) C.1 C.2.1 dX6_endExpression_194 (by decide) (fun c194 => ?_) (fun c194 => ?_)
              · have hw := hw.1 (z_eq g_x0 (show rng 1 from by decide) c194)
                exact k_retKv C hr hlk Wd hw dX6_endExpression_202
              · have hw := hw.2 (z_ne g_x0 (show rng 1 from by decide) c194)
                exact J197  _ _ _ ⟨hw, Wd, lv_sub hl [0] rfl⟩
          refine lv_icmp_ne (tgt := 184) C.1 C.2.1 dX6_endExpression_142 (by decide) (fun c142 => ?_) (fun c142 => ?_)
          · have hw := hw.1 (z_ne (hS.1 2 6) (show rng 3 from by decide) c142)
            exact J184  _ _ _ ⟨hw, Wd, lv_sub hl [0, 1] rfl⟩
          · have hw := hw.2 (z_eq (hS.1 2 6) (show rng 3 from by decide) c142)
            refine lv_iload_n C.1 C.2.1 dX6_endExpression_145 rfl (lv_at hl 1 rfl) ?_
            refine lv_bipush (v := zI 9) C.1 C.2.1 dX6_endExpression_146 (by decide) ?_
            refine lv_icmp_ne (tgt := 184) C.1 C.2.1 dX6_endExpression_148 (by decide) (fun c148 => ?_) (fun c148 => ?_)
            · have hw := hw.1 (z_ne g_x0 (show rng 9 from by decide) c148)
              exact J184  _ _ _ ⟨hw, Wd, lv_sub hl [0, 1] rfl⟩
            · have hw := hw.2 (z_eq g_x0 (show rng 9 from by decide) c148)
              refine lv_aload_n C.1 C.2.1 dX6_endExpression_151 rfl (lv_at hl 0 rfl) ?_
              by_cases c152 : (σ.1 2 4) < 0
              · have hw := hw.1 c152
                refine k_get (v := .null) C Wd.1 KX6 _ 4 (cx2 _) (by decide) fl_X6_69 (congrArg some (rvN_null c152)) dX6_endExpression_152 ?_
                refine lv_ifnullN (tgt := 184) C.1 C.2.1 dX6_endExpression_155 (by decide) ?_
                exact J184  _ _ _ ⟨hw, Wd, lv_sub hl [0, 1] rfl⟩
              · have hw := hw.2 (Int.not_lt.mp c152)
                obtain ⟨n152_0, hw⟩ := hw
                refine k_get (v := .ref (ad (ruleC (σ.1 2 4).toNat))) C Wd.1 KX6 _ 4 (cx2 _) (by decide) fl_X6_69 (congrArg some (rvN_ref n152_0)) dX6_endExpression_152 ?_
                refine lv_ifnull C.1 C.2.1 dX6_endExpression_155 ?_
                refine lv_aload_n C.1 C.2.1 dX6_endExpression_158 rfl (lv_at hl 0 rfl) ?_
                refine k_get (v := .ref (ad (ruleC (σ.1 2 4).toNat))) C Wd.1 KX6 _ 4 (cx2 _) (by decide) fl_X6_69 (congrArg some (rvN_ref n152_0)) dX6_endExpression_159 ?_
                refine k_cKv Wd (k_runVK (rest := []) C aks Wd cs_X6_182 (mk_U_noteLetters D ad ca rf σ Wd.2.1 Wd.2.2 (σ.1 2 4) n152_0 _ hw l _) (cxRule n152_0) rfl rfl rfl rfl ⟨(Nat.le_of_ble_eq_true rfl), (Nat.le_of_ble_eq_true rfl)⟩ hl.1 rfl rfl (Nat.le_of_ble_eq_true rfl) ⟨(Nat.le_of_ble_eq_true rfl), (Nat.le_of_ble_eq_true rfl)⟩ dX6_endExpression_162) (fun σr162 H locs hw Wd => ?_)
                have hS_σr162 := Wd.2.1
                refine lv_aload_n C.1 C.2.1 dX6_endExpression_165 rfl (lv_at hl 0 rfl) ?_
                refine lv_aload_n C.1 C.2.1 dX6_endExpression_166 rfl (lv_at hl 0 rfl) ?_
                obtain ⟨n167_0, hw⟩ := hw
                refine k_get (v := .ref (ad (ruleC (σr162.1 2 4).toNat))) C Wd.1 KX6 _ 4 (cx2 _) (by decide) fl_X6_69 (congrArg some (rvN_ref n167_0)) dX6_endExpression_167 ?_
                have nr170 : 0 ≤ (12 + 2 * (σr162.1 2 4)) ∧ (12 + 2 * (σr162.1 2 4)) < 35 := by omega
                refine k_get (v := .ref (ad (rowC (12 + 2 * (σr162.1 2 4)).toNat))) C Wd.1 KX9 _ 1 (cxRule n167_0) (by decide) fl_X6_185 rfl dX6_endExpression_170 ?_
                refine k_putRow (n := (12 + 2 * (σr162.1 2 4))) C Wd nr170 fl_X6_23 dX6_endExpression_173 (fun H locs Wd => ?_)
                refine lv_aload_n C.1 C.2.1 dX6_endExpression_176 rfl (lv_at hl 0 rfl) ?_
                refine lv_iconst (v := zI 4) C.1 C.2.1 dX6_endExpression_177 (by decide) ?_
                refine k_cKv Wd (k_runVK (rest := []) C aks Wd cs_X6_63 (mk_R_beginExpression D ad ca rf (pU σr162 2 3 (12 + 2 * (σr162.1 2 4))) Wd.2.1 Wd.2.2 4 (show rng 4 from by decide) _ hw l _) (cx2 _) rfl rfl rfl rfl ⟨(Nat.le_of_ble_eq_true rfl), (Nat.le_of_ble_eq_true rfl)⟩ hl.1 rfl rfl (Nat.le_of_ble_eq_true rfl) ⟨(Nat.le_of_ble_eq_true rfl), (Nat.le_of_ble_eq_true rfl)⟩ dX6_endExpression_178) (fun σr178 H locs hw Wd => ?_)
                have hS_σr178 := Wd.2.1
                refine lv_goto (tgt := 202) C.1 C.2.1 dX6_endExpression_181 (by decide) ?_
                exact k_retKv C hr hlk Wd hw dX6_endExpression_202
        refine lv_icmp_ne (tgt := 137) C.1 C.2.1 dX6_endExpression_108 (by decide) (fun c108 => ?_) (fun c108 => ?_)
        · have hw := hw.1 (z_ne (hS.1 2 6) (show rng 2 from by decide) c108)
          exact J137  _ _ _ ⟨hw, Wd, lv_sub hl [0, 1] rfl⟩
        · have hw := hw.2 (z_eq (hS.1 2 6) (show rng 2 from by decide) c108)
          refine lv_iload_n C.1 C.2.1 dX6_endExpression_111 rfl (lv_at hl 1 rfl) ?_
          refine lv_bipush (v := zI 123) C.1 C.2.1 dX6_endExpression_112 (by decide) ?_
          refine lv_icmp_ne (tgt := 137) C.1 C.2.1 dX6_endExpression_114 (by decide) (fun c114 => ?_) (fun c114 => ?_)
          · have hw := hw.1 (z_ne g_x0 (show rng 123 from by decide) c114)
            exact J137  _ _ _ ⟨hw, Wd, lv_sub hl [0, 1] rfl⟩
          · have hw := hw.2 (z_eq g_x0 (show rng 123 from by decide) c114)
            refine lv_aload_n C.1 C.2.1 dX6_endExpression_117 rfl (lv_at hl 0 rfl) ?_
            refine lv_aload_n C.1 C.2.1 dX6_endExpression_118 rfl (lv_at hl 0 rfl) ?_
            obtain ⟨n119_0, hw⟩ := hw
            refine k_get (v := .ref (ad (rowC (σ.1 2 3).toNat))) C Wd.1 KX6 _ 3 (cx2 _) (by decide) fl_X6_23 (congrArg some (rvR_ref n119_0)) dX6_endExpression_119 ?_
            refine lv_aload_n C.1 C.2.1 dX6_endExpression_122 rfl (lv_at hl 0 rfl) ?_
            refine k_get (v := .int (zI (σ.1 2 12))) C Wd.1 KX6 _ 12 (cx2 _) (by decide) fl_X6_137 rfl dX6_endExpression_123 ?_
            refine lv_iconst (v := zI 1) C.1 C.2.1 dX6_endExpression_126 (by decide) ?_
            refine k_isub (v := zI ((σ.1 2 12) - 1)) C (zI_isub _ _) dX6_endExpression_127 ?_
            obtain ⟨g128_3, hw⟩ := hw
            refine k_pi (k_runVK (rest := [.ref (ad 2)]) C aks Wd cs_X6_178 (mk_W_cell D ad ca rf σ Wd.2.1 Wd.2.2 (σ.1 2 3) ((σ.1 2 12) - 1) n119_0 g128_3 _ hw l _) (cxRow n119_0) rfl rfl rfl rfl ⟨(Nat.le_of_ble_eq_true rfl), (Nat.le_of_ble_eq_true rfl)⟩ hl.1 rfl rfl (Nat.le_of_ble_eq_true rfl) ⟨(Nat.le_of_ble_eq_true rfl), (Nat.le_of_ble_eq_true rfl)⟩ dX6_endExpression_128) (fun y128 hy => ?_)
            obtain ⟨r128, rfl, g_r128, hw⟩ := hy
            refine k_cKv Wd (k_runVK (rest := []) C aks Wd cs_X6_122 (mk_R_openBlock D ad ca rf σ Wd.2.1 Wd.2.2 r128 g_r128 _ hw l _) (cx2 _) rfl rfl rfl rfl ⟨(Nat.le_of_ble_eq_true rfl), (Nat.le_of_ble_eq_true rfl)⟩ hl.1 rfl rfl (Nat.le_of_ble_eq_true rfl) ⟨(Nat.le_of_ble_eq_true rfl), (Nat.le_of_ble_eq_true rfl)⟩ dX6_endExpression_131) (fun σr131 H locs hw Wd => ?_)
            have hS_σr131 := Wd.2.1
            refine lv_goto (tgt := 202) C.1 C.2.1 dX6_endExpression_134 (by decide) ?_
            exact k_retKv C hr hlk Wd hw dX6_endExpression_202
      refine lv_icmp_ne (tgt := 103) C.1 C.2.1 dX6_endExpression_50 (by decide) (fun c50 => ?_) (fun c50 => ?_)
      · have hw := hw.1 (z_ne (hS.1 2 6) (show rng 1 from by decide) c50)
        exact J103  _ _ _ ⟨hw, Wd, lv_sub hl [0, 1] rfl⟩
      · have hw := hw.2 (z_eq (hS.1 2 6) (show rng 1 from by decide) c50)
        refine lv_iload_n C.1 C.2.1 dX6_endExpression_53 rfl (lv_at hl 2 rfl) ?_
        refine lv_if_eq (tgt := 103) C.1 C.2.1 dX6_endExpression_54 (by decide) (fun c54 => ?_) (fun c54 => ?_)
        · have hw := hw.1 (z0_eq g_s0_23 c54)
          exact J103  _ _ _ ⟨hw, Wd, lv_sub hl [0, 1] rfl⟩
        · have hw := hw.2 (z0_ne g_s0_23 c54)
          refine lv_aload_n C.1 C.2.1 dX6_endExpression_57 rfl (lv_at hl 0 rfl) ?_
          obtain ⟨n58_0, hw⟩ := hw
          refine k_get (v := .ref (ad (rowC (σ.1 2 3).toNat))) C Wd.1 KX6 _ 3 (cx2 _) (by decide) fl_X6_23 (congrArg some (rvR_ref n58_0)) dX6_endExpression_58 ?_
          refine lv_aload_n C.1 C.2.1 dX6_endExpression_61 rfl (lv_at hl 0 rfl) ?_
          refine k_get (v := .int (zI (σ.1 2 12))) C Wd.1 KX6 _ 12 (cx2 _) (by decide) fl_X6_137 rfl dX6_endExpression_62 ?_
          refine lv_iload_n C.1 C.2.1 dX6_endExpression_65 rfl (lv_at hl 1 rfl) ?_
          refine lv_bipush (v := zI 60) C.1 C.2.1 dX6_endExpression_66 (by decide) ?_
          refine k_cut1 (fun (s0_92 : Int) H locs ls => rng s0_92 ∧ wp5_R_endExpression_92 K σ s0_92 ∧ wXK D ad ca rf s σ H A s.heap locs ∧ lv_has ls 3 [(0, .ref (ad 2))]) (fun (s0_92 : Int) ls => F0 m 92 ls [.int (zI s0_92), .int (zI (σ.1 2 12)), .ref (ad (rowC (σ.1 2 3).toNat))]) (fun s0_92 H locs ls hi => ?_) (fun J92 => ?_)
          · obtain ⟨g_s0_92, hw, Wd, hl⟩ := hi
            unfold wp5_R_endExpression_92 at hw
            refine k_cKv Wd (k_runVK (rest := []) C aks Wd cs_X6_175 (mk_W_change D ad ca rf σ Wd.2.1 Wd.2.2 (σ.1 2 3) (σ.1 2 12) s0_92 n58_0 (hS.1 2 12) g_s0_92 _ hw l _) (cxRow n58_0) rfl rfl rfl rfl ⟨(Nat.le_of_ble_eq_true rfl), (Nat.le_of_ble_eq_true rfl)⟩ hl.1 rfl rfl (Nat.le_of_ble_eq_true rfl) ⟨(Nat.le_of_ble_eq_true rfl), (Nat.le_of_ble_eq_true rfl)⟩ dX6_endExpression_92) (fun σr92 H locs hw Wd => ?_)
            have hS_σr92 := Wd.2.1
            refine lv_aload_n C.1 C.2.1 dX6_endExpression_95 rfl (lv_at hl 0 rfl) ?_
            refine lv_iconst (v := zI 2) C.1 C.2.1 dX6_endExpression_96 (by decide) ?_
            refine k_cKv Wd (k_runVK (rest := []) C aks Wd cs_X6_63 (mk_R_beginExpression D ad ca rf σr92 Wd.2.1 Wd.2.2 2 (show rng 2 from by decide) _ hw l _) (cx2 _) rfl rfl rfl rfl ⟨(Nat.le_of_ble_eq_true rfl), (Nat.le_of_ble_eq_true rfl)⟩ hl.1 rfl rfl (Nat.le_of_ble_eq_true rfl) ⟨(Nat.le_of_ble_eq_true rfl), (Nat.le_of_ble_eq_true rfl)⟩ dX6_endExpression_97) (fun σr97 H locs hw Wd => ?_)
            have hS_σr97 := Wd.2.1
            refine lv_goto (tgt := 202) C.1 C.2.1 dX6_endExpression_100 (by decide) ?_
            exact k_retKv C hr hlk Wd hw dX6_endExpression_202
          refine lv_icmp_ne (tgt := 77) C.1 C.2.1 dX6_endExpression_68 (by decide) (fun c68 => ?_) (fun c68 => ?_)
          · have hw := hw.1 (z_ne g_x0 (show rng 60 from by decide) c68)
            refine lv_iload_n C.1 C.2.1 dX6_endExpression_77 rfl (lv_at hl 1 rfl) ?_
            refine lv_bipush (v := zI 61) C.1 C.2.1 dX6_endExpression_78 (by decide) ?_
            refine lv_icmp_ne (tgt := 89) C.1 C.2.1 dX6_endExpression_80 (by decide) (fun c80 => ?_) (fun c80 => ?_)
            · have hw := hw.1 (z_ne g_x0 (show rng 61 from by decide) c80)
              refine lv_sipush (v := zI 132) C.1 C.2.1 dX6_endExpression_89 (zS (by decide) (by decide)) ?_
              exact J92 132 _ _ _ ⟨(show rng 132 from by decide), hw, Wd, lv_sub hl [0] rfl⟩
            · have hw := hw.2 (z_eq g_x0 (show rng 61 from by decide) c80)
              refine lv_sipush (v := zI 131) C.1 C.2.1 dX6_endExpression_83 (zS (by decide) (by decide)) ?_
              refine lv_goto (tgt := 92) C.1 C.2.1 dX6_endExpression_86 (by decide) ?_
              exact J92 131 _ _ _ ⟨(show rng 131 from by decide), hw, Wd, lv_sub hl [0] rfl⟩
          · have hw := hw.2 (z_eq g_x0 (show rng 60 from by decide) c68)
            refine lv_sipush (v := zI 130) C.1 C.2.1 dX6_endExpression_71 (zS (by decide) (by decide)) ?_
            refine lv_goto (tgt := 92) C.1 C.2.1 dX6_endExpression_74 (by decide) ?_
            exact J92 130 _ _ _ ⟨(show rng 130 from by decide), hw, Wd, lv_sub hl [0] rfl⟩
    refine lv_if_ne (tgt := 45) C.1 C.2.1 dX6_endExpression_28 (by decide) (fun c28 => ?_) (fun c28 => ?_)
    · have hw := hw.1 (z0_ne (hS.1 2 6) c28)
      exact J45  _ _ _ ⟨hw, Wd, lv_sub hl [0, 1, 2] rfl⟩
    · have hw := hw.2 (z0_eq (hS.1 2 6) c28)
      refine lv_iload_n C.1 C.2.1 dX6_endExpression_31 rfl (lv_at hl 1 rfl) ?_
      refine lv_bipush (v := zI 59) C.1 C.2.1 dX6_endExpression_32 (by decide) ?_
      refine lv_icmp_ne (tgt := 45) C.1 C.2.1 dX6_endExpression_34 (by decide) (fun c34 => ?_) (fun c34 => ?_)
      · have hw := hw.1 (z_ne g_x0 (show rng 59 from by decide) c34)
        exact J45  _ _ _ ⟨hw, Wd, lv_sub hl [0, 1, 2] rfl⟩
      · have hw := hw.2 (z_eq g_x0 (show rng 59 from by decide) c34)
        refine lv_aload_n C.1 C.2.1 dX6_endExpression_37 rfl (lv_at hl 0 rfl) ?_
        refine lv_iconst (v := zI 0) C.1 C.2.1 dX6_endExpression_38 (by decide) ?_
        refine k_putK (v := 0) C Wd KX6 2 5 (by decide) (cx2 _) rfl (by decide) fl_X6_52 rfl rfl rfl (Nat.le_of_ble_eq_true rfl) (show rng 0 from by decide) dX6_endExpression_39 (fun H locs Wd => ?_)
        refine lv_goto (tgt := 202) C.1 C.2.1 dX6_endExpression_42 (by decide) ?_
        exact k_retKv C hr hlk Wd hw dX6_endExpression_202
  refine k_cut0 (fun H locs ls => wp5_R_endExpression_18 K σ x0 ∧ wXK D ad ca rf s σ H A s.heap locs ∧ lv_has ls 3 [(0, .ref (ad 2)), (1, .int (zI x0))]) (fun  ls => F0 m 18 ls []) (fun  H locs ls hi => ?_) (fun J18 => ?_)
  · obtain ⟨hw, Wd, hl⟩ := hi
    unfold wp5_R_endExpression_18 at hw
    refine lv_iconst (v := zI 1) C.1 C.2.1 dX6_endExpression_18 (by decide) ?_
    refine lv_goto (tgt := 23) C.1 C.2.1 dX6_endExpression_19 (by decide) ?_
    exact J23 1 _ _ _ ⟨(show rng 1 from by decide), hw, Wd, lv_sub hl [0, 1] rfl⟩
  refine lv_icmp_eq (tgt := 18) C.1 C.2.1 dX6_endExpression_3 (by decide) (fun c3 => ?_) (fun c3 => ?_)
  · have hw := hw.1 (z_eq g_x0 (show rng 60 from by decide) c3)
    exact J18  _ _ _ ⟨hw, Wd, lv_sub hl [0, 1] rfl⟩
  · have hw := hw.2 (z_ne g_x0 (show rng 60 from by decide) c3)
    refine lv_iload_n C.1 C.2.1 dX6_endExpression_6 rfl (lv_at hl 1 rfl) ?_
    refine lv_bipush (v := zI 61) C.1 C.2.1 dX6_endExpression_7 (by decide) ?_
    refine lv_icmp_eq (tgt := 18) C.1 C.2.1 dX6_endExpression_9 (by decide) (fun c9 => ?_) (fun c9 => ?_)
    · have hw := hw.1 (z_eq g_x0 (show rng 61 from by decide) c9)
      exact J18  _ _ _ ⟨hw, Wd, lv_sub hl [0, 1] rfl⟩
    · have hw := hw.2 (z_ne g_x0 (show rng 61 from by decide) c9)
      refine lv_iload_n C.1 C.2.1 dX6_endExpression_12 rfl (lv_at hl 1 rfl) ?_
      refine lv_bipush (v := zI 62) C.1 C.2.1 dX6_endExpression_13 (by decide) ?_
      refine lv_icmp_ne (tgt := 22) C.1 C.2.1 dX6_endExpression_15 (by decide) (fun c15 => ?_) (fun c15 => ?_)
      · have hw := hw.1 (z_ne g_x0 (show rng 62 from by decide) c15)
        refine lv_iconst (v := zI 0) C.1 C.2.1 dX6_endExpression_22 (by decide) ?_
        exact J23 0 _ _ _ ⟨(show rng 0 from by decide), hw, Wd, lv_sub hl [0, 1] rfl⟩
      · have hw := hw.2 (z_eq g_x0 (show rng 62 from by decide) c15)
        exact J18  _ _ _ ⟨hw, Wd, lv_sub hl [0, 1] rfl⟩
set_option maxHeartbeats 4000000 in
set_option maxRecDepth 100000 in
theorem mk_W_insert : ∀ (D : va_G) (ad : Nat → Nat) (ca : Nat → ClassId) (rf : Nat → Nat → Option Nat) (σ : Sg) (hS : rngK σ) (hRF : RFok ad rf) (n0 : Int) (x0 : Int) (x1 : Int) (h_n0 : 0 ≤ n0 ∧ n0 < 35) (g_x0 : rng x0) (g_x1 : rng x1) (K : Sg → Prop) (hw : wp5_W_insert σ n0 x0 x1 K) (l : Launch) (sz : Nat), Met l yX8_insert (Cond.code yX8_insert cX8_insert 3 none :: gG) { frames := 1, cells := 0, slots := 0, locals := 96 } (cPre D (tC ca) (wK ad ca rf σ) sz [.ref (ad (rowC n0.toNat)), .int (zI x0), .int (zI x1)]) (va_Qv (fun (u : Sg) => K u ∧ rngK u) (fun u t => cB D (va_A (wK ad ca rf σ) sz) [] (wK ad ca rf u) t) (va_A (wK ad ca rf σ) sz)) 0 0 (va_A (wK ad ca rf σ) sz) := by
  intro D ad ca rf σ hS hRF n0 x0 x1 h_n0 g_x0 g_x1 K hw l sz
  refine Met.ofW (cc := cX8_insert) (maxL := 3) (ret := none) (by decide) rfl ?_
  intro p e s m args below meth c s₁ B hml hv
  obtain ⟨rfl, aks, rfl, Wd⟩ := k_enter hv
  have C : CallFix p m c cX8_insert 3 s _ gG RX8 := ⟨B.exec, B.bytes, hml, findClass_of_methodNamed B.named, fun w h => atoms_spec (ws := Cond.code yX8_insert cX8_insert 3 none :: gG) B.pre w (List.mem_cons_of_mem _ h)⟩
  have hr := B.returns
  have hlk := B.notSynchronized
  generalize va_A (wK ad ca rf σ) s.heap.size = A at Wd ⊢
  replace Wd : wXK D ad ca rf s σ s.heap A s.heap [] := ⟨Wd, hS, hRF⟩
  refine k_locals (Nat.le_of_ble_eq_true rfl) [(0, .ref (ad (rowC n0.toNat))), (1, .int (zI x0)), (2, .int (zI x1))] rfl (fun ls hl => ?_)
  unfold wp5_W_insert at hw
  refine lv_iload_n C.1 C.2.1 dX8_insert_0 rfl (lv_at hl 1 rfl) ?_
  refine lv_if_lt (tgt := 62) C.1 C.2.1 dX8_insert_1 (by decide) (fun c1 => ?_) (fun c1 => ?_)
  · have hw := hw.1 (z0_lt g_x0 c1)
    exact k_retKv C hr hlk Wd hw dX8_insert_62
  · have hw := hw.2 (z0_nlt g_x0 c1)
    refine lv_iload_n C.1 C.2.1 dX8_insert_4 rfl (lv_at hl 1 rfl) ?_
    refine lv_aload_n C.1 C.2.1 dX8_insert_5 rfl (lv_at hl 0 rfl) ?_
    refine k_get (v := .int (zI (σ.2.2.1 0 n0))) C Wd.1 KX8 _ 1 (cxRow h_n0) (by decide) fl_X8_21 rfl dX8_insert_6 ?_
    refine lv_icmp_gt (tgt := 62) C.1 C.2.1 dX8_insert_9 (by decide) (fun c9 => ?_) (fun c9 => ?_)
    · have hw := hw.1 (z_lt (rgY hS (N := 35) h_n0) g_x0 c9)
      exact k_retKv C hr hlk Wd hw dX8_insert_62
    · have hw := hw.2 (z_nlt (rgY hS (N := 35) h_n0) g_x0 c9)
      refine lv_aload_n C.1 C.2.1 dX8_insert_12 rfl (lv_at hl 0 rfl) ?_
      refine k_get (v := .int (zI (σ.2.2.1 0 n0))) C Wd.1 KX8 _ 1 (cxRow h_n0) (by decide) fl_X8_21 rfl dX8_insert_13 ?_
      refine lv_aload_n C.1 C.2.1 dX8_insert_16 rfl (lv_at hl 0 rfl) ?_
      refine k_get (v := .ref (ad ((rowC n0.toNat) + 1))) C Wd.1 KX8 _ 0 (cxRow h_n0) (by decide) fl_X8_15 rfl dX8_insert_17 ?_
      refine k_lenR (n := n0) C Wd h_n0 dX8_insert_20 ?_
      refine lv_icmp_ge (tgt := 62) C.1 C.2.1 dX8_insert_21 (by decide) (fun c21 => ?_) (fun c21 => ?_)
      · have hw := hw.1 (z_le (rng_cap _) (rgY hS (N := 35) h_n0) c21)
        exact k_retKv C hr hlk Wd hw dX8_insert_62
      · have hw := hw.2 (z_nle (rng_cap _) (rgY hS (N := 35) h_n0) c21)
        refine lv_aload_n C.1 C.2.1 dX8_insert_24 rfl (lv_at hl 0 rfl) ?_
        refine k_get (v := .ref (ad ((rowC n0.toNat) + 1))) C Wd.1 KX8 _ 0 (cxRow h_n0) (by decide) fl_X8_15 rfl dX8_insert_25 ?_
        refine lv_iload_n C.1 C.2.1 dX8_insert_28 rfl (lv_at hl 1 rfl) ?_
        refine lv_aload_n C.1 C.2.1 dX8_insert_29 rfl (lv_at hl 0 rfl) ?_
        refine k_get (v := .ref (ad ((rowC n0.toNat) + 1))) C Wd.1 KX8 _ 0 (cxRow h_n0) (by decide) fl_X8_15 rfl dX8_insert_30 ?_
        refine lv_iload_n C.1 C.2.1 dX8_insert_33 rfl (lv_at hl 1 rfl) ?_
        refine lv_iconst (v := zI 1) C.1 C.2.1 dX8_insert_34 (by decide) ?_
        refine k_iadd (v := zI (x0 + 1)) C (zI_iadd _ _) dX8_insert_35 ?_
        refine lv_aload_n C.1 C.2.1 dX8_insert_36 rfl (lv_at hl 0 rfl) ?_
        refine k_get (v := .int (zI (σ.2.2.1 0 n0))) C Wd.1 KX8 _ 1 (cxRow h_n0) (by decide) fl_X8_21 rfl dX8_insert_37 ?_
        refine lv_iload_n C.1 C.2.1 dX8_insert_40 rfl (lv_at hl 1 rfl) ?_
        refine k_isub (v := zI ((σ.2.2.1 0 n0) - x0)) C (zI_isub _ _) dX8_insert_41 ?_
        obtain ⟨y42, hw⟩ := hw
        refine k_copyR (sp := x0) (dp := (x0 + 1)) (n := ((σ.2.2.1 0 n0) - x0)) C hl.1 Wd mlac_X8_25 nat_ac sta_ac ini_sys h_n0 h_n0 rfl rfl y42 (Nat.le_of_ble_eq_true rfl) (Nat.le_of_ble_eq_true rfl) dX8_insert_42 (fun H locs Wd => ?_)
        refine lv_aload_n C.1 C.2.1 dX8_insert_45 rfl (lv_at hl 0 rfl) ?_
        refine k_get (v := .ref (ad ((rowC n0.toNat) + 1))) C Wd.1 KX8 _ 0 (cxRow h_n0) (by decide) fl_X8_15 rfl dX8_insert_46 ?_
        refine lv_iload_n C.1 C.2.1 dX8_insert_49 rfl (lv_at hl 1 rfl) ?_
        refine lv_iload_n C.1 C.2.1 dX8_insert_50 rfl (lv_at hl 2 rfl) ?_
        obtain ⟨n51_0, hw⟩ := hw
        refine k_iastR (n := n0) (g := ((uF (σ.2.2.2 0) n0 (cpI (σ.2.2.2 0 n0) (σ.2.2.2 0 n0) x0 (x0 + 1) ((σ.2.2.1 0 n0) - x0))) n0)) (i := x0) (v := x1) C Wd h_n0 rfl n51_0 (ruZ (rgZ (c := 0) Wd.2.1 h_n0) g_x1) dX8_insert_51 (fun H locs Wd => ?_)
        refine lv_aload_n C.1 C.2.1 dX8_insert_52 rfl (lv_at hl 0 rfl) ?_
        refine lv_dup C.1 C.2.1 dX8_insert_53 rfl ?_
        refine k_get (v := .int (zI (σ.2.2.1 0 n0))) C Wd.1 KX8 _ 1 (cxRow h_n0) (by decide) fl_X8_21 rfl dX8_insert_54 ?_
        refine lv_iconst (v := zI 1) C.1 C.2.1 dX8_insert_57 (by decide) ?_
        refine k_iadd (v := zI ((σ.2.2.1 0 n0) + 1)) C (zI_iadd _ _) dX8_insert_58 ?_
        obtain ⟨g59_1, hw⟩ := hw
        refine k_putRL (n := n0) (v := ((σ.2.2.1 0 n0) + 1)) C Wd h_n0 fl_X8_21 g59_1 dX8_insert_59 (fun H locs Wd => ?_)
        exact k_retKv C hr hlk Wd hw dX8_insert_62
set_option maxHeartbeats 4000000 in
set_option maxRecDepth 100000 in
theorem mk_R_takeOperation : ∀ (D : va_G) (ad : Nat → Nat) (ca : Nat → ClassId) (rf : Nat → Nat → Option Nat) (σ : Sg) (hS : rngK σ) (hRF : RFok ad rf) (x0 : Int) (g_x0 : rng x0) (K : Sg → Prop) (hw : wp5_R_takeOperation σ x0 K) (l : Launch) (sz : Nat), Met l yX6_takeOperation (Cond.code yX6_takeOperation cX6_takeOperation 2 none :: gG) { frames := 3, cells := 0, slots := 0, locals := 118 } (cPre D (tC ca) (wK ad ca rf σ) sz [.ref (ad 2), .int (zI x0)]) (va_Qv (fun (u : Sg) => K u ∧ rngK u) (fun u t => cB D (va_A (wK ad ca rf σ) sz) [] (wK ad ca rf u) t) (va_A (wK ad ca rf σ) sz)) 0 0 (va_A (wK ad ca rf σ) sz) := by
  intro D ad ca rf σ hS hRF x0 g_x0 K hw l sz
  refine Met.ofW (cc := cX6_takeOperation) (maxL := 2) (ret := none) (by decide) rfl ?_
  intro p e s m args below meth c s₁ B hml hv
  obtain ⟨rfl, aks, rfl, Wd⟩ := k_enter hv
  have C : CallFix p m c cX6_takeOperation 2 s _ gG RX6 := ⟨B.exec, B.bytes, hml, findClass_of_methodNamed B.named, fun w h => atoms_spec (ws := Cond.code yX6_takeOperation cX6_takeOperation 2 none :: gG) B.pre w (List.mem_cons_of_mem _ h)⟩
  have hr := B.returns
  have hlk := B.notSynchronized
  generalize va_A (wK ad ca rf σ) s.heap.size = A at Wd ⊢
  replace Wd : wXK D ad ca rf s σ s.heap A s.heap [] := ⟨Wd, hS, hRF⟩
  refine k_locals (Nat.le_of_ble_eq_true rfl) [(0, .ref (ad 2)), (1, .int (zI x0))] rfl (fun ls hl => ?_)
  unfold wp5_R_takeOperation at hw
  refine lv_aload_n C.1 C.2.1 dX6_takeOperation_0 rfl (lv_at hl 0 rfl) ?_
  refine k_cKi Wd (k_runVK (rest := []) C aks Wd cs_X6_158 (mk_R_countThing D ad ca rf σ Wd.2.1 Wd.2.2   _ hw l _) (cx2 _) rfl rfl rfl rfl ⟨(Nat.le_of_ble_eq_true rfl), (Nat.le_of_ble_eq_true rfl)⟩ hl.1 rfl rfl (Nat.le_of_ble_eq_true rfl) ⟨(Nat.le_of_ble_eq_true rfl), (Nat.le_of_ble_eq_true rfl)⟩ dX6_takeOperation_1) (fun r1 σr1 H locs g_r1 hw Wd => ?_)
  have hS_σr1 := Wd.2.1
  refine lv_if_ne (tgt := 8) C.1 C.2.1 dX6_takeOperation_4 (by decide) (fun c4 => ?_) (fun c4 => ?_)
  · have hw := hw.1 (z0_ne g_r1 c4)
    refine lv_iload_n C.1 C.2.1 dX6_takeOperation_8 rfl (lv_at hl 1 rfl) ?_
    refine lv_bipush (v := zI 42) C.1 C.2.1 dX6_takeOperation_9 (by decide) ?_
    refine lv_icmp_ne (tgt := 30) C.1 C.2.1 dX6_takeOperation_11 (by decide) (fun c11 => ?_) (fun c11 => ?_)
    · have hw := hw.1 (z_ne g_x0 (show rng 42 from by decide) c11)
      refine lv_aload_n C.1 C.2.1 dX6_takeOperation_30 rfl (lv_at hl 0 rfl) ?_
      obtain ⟨n31_0, hw⟩ := hw
      refine k_get (v := .ref (ad (rowC (σr1.1 2 3).toNat))) C Wd.1 KX6 _ 3 (cx2 _) (by decide) fl_X6_23 (congrArg some (rvR_ref n31_0)) dX6_takeOperation_31 ?_
      refine lv_aload_n C.1 C.2.1 dX6_takeOperation_34 rfl (lv_at hl 0 rfl) ?_
      refine k_get (v := .int (zI (σr1.1 2 10))) C Wd.1 KX6 _ 10 (cx2 _) (by decide) fl_X6_143 rfl dX6_takeOperation_35 ?_
      refine lv_iload_n C.1 C.2.1 dX6_takeOperation_38 rfl (lv_at hl 1 rfl) ?_
      refine lv_bipush (v := zI 43) C.1 C.2.1 dX6_takeOperation_39 (by decide) ?_
      refine k_cut1 (fun (s0_51 : Int) H locs ls => rng s0_51 ∧ wp5_R_takeOperation_51 K σr1 s0_51 ∧ wXK D ad ca rf s σr1 H A s.heap locs ∧ lv_has ls 2 [(0, .ref (ad 2))]) (fun (s0_51 : Int) ls => F0 m 51 ls [.int (zI s0_51), .int (zI (σr1.1 2 10)), .ref (ad (rowC (σr1.1 2 3).toNat))]) (fun s0_51 H locs ls hi => ?_) (fun J51 => ?_)
      · obtain ⟨g_s0_51, hw, Wd, hl⟩ := hi
        unfold wp5_R_takeOperation_51 at hw
        refine k_cKv Wd (k_runVK (rest := []) C aks Wd cs_X6_171 (mk_W_insert D ad ca rf σr1 Wd.2.1 Wd.2.2 (σr1.1 2 3) (σr1.1 2 10) s0_51 n31_0 (hS_σr1.1 2 10) g_s0_51 _ hw l _) (cxRow n31_0) rfl rfl rfl rfl ⟨(Nat.le_of_ble_eq_true rfl), (Nat.le_of_ble_eq_true rfl)⟩ hl.1 rfl rfl (Nat.le_of_ble_eq_true rfl) ⟨(Nat.le_of_ble_eq_true rfl), (Nat.le_of_ble_eq_true rfl)⟩ dX6_takeOperation_51) (fun σr51 H locs hw Wd => ?_)
        have hS_σr51 := Wd.2.1
        refine lv_aload_n C.1 C.2.1 dX6_takeOperation_54 rfl (lv_at hl 0 rfl) ?_
        refine lv_aload_n C.1 C.2.1 dX6_takeOperation_55 rfl (lv_at hl 0 rfl) ?_
        obtain ⟨n56_0, hw⟩ := hw
        refine k_get (v := .ref (ad (rowC (σr51.1 2 3).toNat))) C Wd.1 KX6 _ 3 (cx2 _) (by decide) fl_X6_23 (congrArg some (rvR_ref n56_0)) dX6_takeOperation_56 ?_
        refine k_get (v := .int (zI (σr51.2.2.1 0 (σr51.1 2 3)))) C Wd.1 KX8 _ 1 (cxRow n56_0) (by decide) fl_X6_66 rfl dX6_takeOperation_59 ?_
        refine k_putK (v := (σr51.2.2.1 0 (σr51.1 2 3))) C Wd KX6 2 11 (by decide) (cx2 _) rfl (by decide) fl_X6_146 rfl rfl rfl (Nat.le_of_ble_eq_true rfl) (rgY hS_σr51 (N := 35) n56_0) dX6_takeOperation_62 (fun H locs Wd => ?_)
        refine lv_aload_n C.1 C.2.1 dX6_takeOperation_65 rfl (lv_at hl 0 rfl) ?_
        refine lv_iconst (v := zI 5) C.1 C.2.1 dX6_takeOperation_66 (by decide) ?_
        refine k_putK (v := 5) C Wd KX6 2 5 (by decide) (cx2 _) rfl (by decide) fl_X6_52 rfl rfl rfl (Nat.le_of_ble_eq_true rfl) (show rng 5 from by decide) dX6_takeOperation_67 (fun H locs Wd => ?_)
        exact k_retKv C hr hlk Wd hw dX6_takeOperation_70
      refine lv_icmp_ne (tgt := 49) C.1 C.2.1 dX6_takeOperation_41 (by decide) (fun c41 => ?_) (fun c41 => ?_)
      · have hw := hw.1 (z_ne g_x0 (show rng 43 from by decide) c41)
        refine lv_bipush (v := zI 121) C.1 C.2.1 dX6_takeOperation_49 (by decide) ?_
        exact J51 121 _ _ _ ⟨(show rng 121 from by decide), hw, Wd, lv_sub hl [0] rfl⟩
      · have hw := hw.2 (z_eq g_x0 (show rng 43 from by decide) c41)
        refine lv_bipush (v := zI 120) C.1 C.2.1 dX6_takeOperation_44 (by decide) ?_
        refine lv_goto (tgt := 51) C.1 C.2.1 dX6_takeOperation_46 (by decide) ?_
        exact J51 120 _ _ _ ⟨(show rng 120 from by decide), hw, Wd, lv_sub hl [0] rfl⟩
    · have hw := hw.2 (z_eq g_x0 (show rng 42 from by decide) c11)
      refine lv_aload_n C.1 C.2.1 dX6_takeOperation_14 rfl (lv_at hl 0 rfl) ?_
      obtain ⟨n15_0, hw⟩ := hw
      refine k_get (v := .ref (ad (rowC (σr1.1 2 3).toNat))) C Wd.1 KX6 _ 3 (cx2 _) (by decide) fl_X6_23 (congrArg some (rvR_ref n15_0)) dX6_takeOperation_15 ?_
      refine lv_aload_n C.1 C.2.1 dX6_takeOperation_18 rfl (lv_at hl 0 rfl) ?_
      refine k_get (v := .int (zI (σr1.1 2 11))) C Wd.1 KX6 _ 11 (cx2 _) (by decide) fl_X6_146 rfl dX6_takeOperation_19 ?_
      refine lv_bipush (v := zI 122) C.1 C.2.1 dX6_takeOperation_22 (by decide) ?_
      refine k_cKv Wd (k_runVK (rest := []) C aks Wd cs_X6_171 (mk_W_insert D ad ca rf σr1 Wd.2.1 Wd.2.2 (σr1.1 2 3) (σr1.1 2 11) 122 n15_0 (hS_σr1.1 2 11) (show rng 122 from by decide) _ hw l _) (cxRow n15_0) rfl rfl rfl rfl ⟨(Nat.le_of_ble_eq_true rfl), (Nat.le_of_ble_eq_true rfl)⟩ hl.1 rfl rfl (Nat.le_of_ble_eq_true rfl) ⟨(Nat.le_of_ble_eq_true rfl), (Nat.le_of_ble_eq_true rfl)⟩ dX6_takeOperation_24) (fun σr24 H locs hw Wd => ?_)
      have hS_σr24 := Wd.2.1
      refine lv_goto (tgt := 65) C.1 C.2.1 dX6_takeOperation_27 (by decide) ?_
      refine lv_aload_n C.1 C.2.1 dX6_takeOperation_65 rfl (lv_at hl 0 rfl) ?_
      refine lv_iconst (v := zI 5) C.1 C.2.1 dX6_takeOperation_66 (by decide) ?_
      refine k_putK (v := 5) C Wd KX6 2 5 (by decide) (cx2 _) rfl (by decide) fl_X6_52 rfl rfl rfl (Nat.le_of_ble_eq_true rfl) (show rng 5 from by decide) dX6_takeOperation_67 (fun H locs Wd => ?_)
      exact k_retKv C hr hlk Wd hw dX6_takeOperation_70
  · have hw := hw.2 (z0_eq g_r1 c4)
    exact k_retKv C hr hlk Wd hw dX6_takeOperation_7
set_option maxHeartbeats 4000000 in
set_option maxRecDepth 100000 in
theorem mk_R_takeBehindOperand : ∀ (D : va_G) (ad : Nat → Nat) (ca : Nat → ClassId) (rf : Nat → Nat → Option Nat) (σ : Sg) (hS : rngK σ) (hRF : RFok ad rf) (K : Sg → Prop) (hw : wp5_R_takeBehindOperand σ K) (l : Launch) (sz : Nat), Met l yX6_takeBehindOperand (Cond.code yX6_takeBehindOperand cX6_takeBehindOperand 3 none :: gG) { frames := 5, cells := 0, slots := 0, locals := 149 } (cPre D (tC ca) (wK ad ca rf σ) sz [.ref (ad 2)]) (va_Qv (fun (u : Sg) => K u ∧ rngK u) (fun u t => cB D (va_A (wK ad ca rf σ) sz) [] (wK ad ca rf u) t) (va_A (wK ad ca rf σ) sz)) 0 0 (va_A (wK ad ca rf σ) sz) := by
  intro D ad ca rf σ hS hRF  K hw l sz
  refine Met.ofW (cc := cX6_takeBehindOperand) (maxL := 3) (ret := none) (by decide) rfl ?_
  intro p e s m args below meth c s₁ B hml hv
  obtain ⟨rfl, aks, rfl, Wd⟩ := k_enter hv
  have C : CallFix p m c cX6_takeBehindOperand 3 s _ gG RX6 := ⟨B.exec, B.bytes, hml, findClass_of_methodNamed B.named, fun w h => atoms_spec (ws := Cond.code yX6_takeBehindOperand cX6_takeBehindOperand 3 none :: gG) B.pre w (List.mem_cons_of_mem _ h)⟩
  have hr := B.returns
  have hlk := B.notSynchronized
  generalize va_A (wK ad ca rf σ) s.heap.size = A at Wd ⊢
  replace Wd : wXK D ad ca rf s σ s.heap A s.heap [] := ⟨Wd, hS, hRF⟩
  refine k_locals (Nat.le_of_ble_eq_true rfl) [(0, .ref (ad 2))] rfl (fun ls hl => ?_)
  unfold wp5_R_takeBehindOperand at hw
  refine lv_aload_n C.1 C.2.1 dX6_takeBehindOperand_0 rfl (lv_at hl 0 rfl) ?_
  refine k_get (v := .ref (ad 3)) C Wd.1 KX6 _ 0 (cx2 _) (by decide) fl_X6_12 rfl dX6_takeBehindOperand_1 ?_
  refine k_get (v := .int (zI (σ.1 3 2))) C Wd.1 KX10 _ 2 (cx3 _) (by decide) fl_X6_88 rfl dX6_takeBehindOperand_4 ?_
  refine lv_istore_n (lv' := [(1, .int (zI (σ.1 3 2))), (0, .ref (ad 2))]) C.1 C.2.1 dX6_takeBehindOperand_7 rfl hl (by decide) rfl (fun ls hl => ?_)
  replace hl := lv_sub hl [1, 0] rfl
  refine lv_aload_n C.1 C.2.1 dX6_takeBehindOperand_8 rfl (lv_at hl 0 rfl) ?_
  refine k_get (v := .int (zI (σ.1 2 13))) C Wd.1 KX6 _ 13 (cx2 _) (by decide) fl_X6_82 rfl dX6_takeBehindOperand_9 ?_
  refine k_cut1 (fun (s0_43 : Int) H locs ls => rng s0_43 ∧ wp5_R_takeBehindOperand_43 K σ s0_43 ∧ wXK D ad ca rf s σ H A s.heap locs ∧ lv_has ls 3 [(0, .ref (ad 2)), (1, .int (zI (σ.1 3 2)))]) (fun (s0_43 : Int) ls => F0 m 43 ls [.int (zI s0_43)]) (fun s0_43 H locs ls hi => ?_) (fun J43 => ?_)
  · obtain ⟨g_s0_43, hw, Wd, hl⟩ := hi
    unfold wp5_R_takeBehindOperand_43 at hw
    refine lv_istore_n (lv' := [(2, .int (zI s0_43)), (0, .ref (ad 2)), (1, .int (zI (σ.1 3 2)))]) C.1 C.2.1 dX6_takeBehindOperand_43 rfl hl (by decide) rfl (fun ls hl => ?_)
    replace hl := lv_sub hl [1, 2, 0] rfl
    refine lv_iload_n C.1 C.2.1 dX6_takeBehindOperand_44 rfl (lv_at hl 1 rfl) ?_
    refine lv_bipush (v := zI 43) C.1 C.2.1 dX6_takeBehindOperand_45 (by decide) ?_
    refine k_cut0 (fun H locs ls => wp5_R_takeBehindOperand_62 K σ ∧ wXK D ad ca rf s σ H A s.heap locs ∧ lv_has ls 3 [(0, .ref (ad 2)), (1, .int (zI (σ.1 3 2)))]) (fun  ls => F0 m 62 ls []) (fun  H locs ls hi => ?_) (fun J62 => ?_)
    · obtain ⟨hw, Wd, hl⟩ := hi
      unfold wp5_R_takeBehindOperand_62 at hw
      refine lv_aload_n C.1 C.2.1 dX6_takeBehindOperand_62 rfl (lv_at hl 0 rfl) ?_
      refine lv_iload_n C.1 C.2.1 dX6_takeBehindOperand_63 rfl (lv_at hl 1 rfl) ?_
      refine k_cKv Wd (k_runVK (rest := []) C aks Wd cs_X6_165 (mk_R_takeOperation D ad ca rf σ Wd.2.1 Wd.2.2 (σ.1 3 2) (hS.1 3 2) _ hw l _) (cx2 _) rfl rfl rfl rfl ⟨(Nat.le_of_ble_eq_true rfl), (Nat.le_of_ble_eq_true rfl)⟩ hl.1 rfl rfl (Nat.le_of_ble_eq_true rfl) ⟨(Nat.le_of_ble_eq_true rfl), (Nat.le_of_ble_eq_true rfl)⟩ dX6_takeBehindOperand_64) (fun σr64 H locs hw Wd => ?_)
      have hS_σr64 := Wd.2.1
      refine lv_goto (tgt := 132) C.1 C.2.1 dX6_takeBehindOperand_67 (by decide) ?_
      exact k_retKv C hr hlk Wd hw dX6_takeBehindOperand_132
    refine lv_icmp_eq (tgt := 62) C.1 C.2.1 dX6_takeBehindOperand_47 (by decide) (fun c47 => ?_) (fun c47 => ?_)
    · have hw := hw.1 (z_eq (hS.1 3 2) (show rng 43 from by decide) c47)
      exact J62  _ _ _ ⟨hw, Wd, lv_sub hl [0, 1] rfl⟩
    · have hw := hw.2 (z_ne (hS.1 3 2) (show rng 43 from by decide) c47)
      refine lv_iload_n C.1 C.2.1 dX6_takeBehindOperand_50 rfl (lv_at hl 1 rfl) ?_
      refine lv_bipush (v := zI 45) C.1 C.2.1 dX6_takeBehindOperand_51 (by decide) ?_
      refine lv_icmp_eq (tgt := 62) C.1 C.2.1 dX6_takeBehindOperand_53 (by decide) (fun c53 => ?_) (fun c53 => ?_)
      · have hw := hw.1 (z_eq (hS.1 3 2) (show rng 45 from by decide) c53)
        exact J62  _ _ _ ⟨hw, Wd, lv_sub hl [0, 1] rfl⟩
      · have hw := hw.2 (z_ne (hS.1 3 2) (show rng 45 from by decide) c53)
        refine lv_iload_n C.1 C.2.1 dX6_takeBehindOperand_56 rfl (lv_at hl 1 rfl) ?_
        refine lv_bipush (v := zI 42) C.1 C.2.1 dX6_takeBehindOperand_57 (by decide) ?_
        refine lv_icmp_ne (tgt := 70) C.1 C.2.1 dX6_takeBehindOperand_59 (by decide) (fun c59 => ?_) (fun c59 => ?_)
        · have hw := hw.1 (z_ne (hS.1 3 2) (show rng 42 from by decide) c59)
          refine lv_iload_n C.1 C.2.1 dX6_takeBehindOperand_70 rfl (lv_at hl 2 rfl) ?_
          refine lv_if_ne (tgt := 82) C.1 C.2.1 dX6_takeBehindOperand_71 (by decide) (fun c71 => ?_) (fun c71 => ?_)
          · have hw := hw.1 (z0_ne g_s0_43 c71)
            refine lv_iload_n C.1 C.2.1 dX6_takeBehindOperand_82 rfl (lv_at hl 1 rfl) ?_
            refine lv_bipush (v := zI 41) C.1 C.2.1 dX6_takeBehindOperand_83 (by decide) ?_
            refine lv_icmp_ne (tgt := 127) C.1 C.2.1 dX6_takeBehindOperand_85 (by decide) (fun c85 => ?_) (fun c85 => ?_)
            · have hw := hw.1 (z_ne (hS.1 3 2) (show rng 41 from by decide) c85)
              refine lv_aload_n C.1 C.2.1 dX6_takeBehindOperand_127 rfl (lv_at hl 0 rfl) ?_
              refine lv_iconst (v := zI 1) C.1 C.2.1 dX6_takeBehindOperand_128 (by decide) ?_
              refine k_cKv Wd (k_runVK (rest := []) C aks Wd cs_X6_125 (mk_R_refuse D ad ca rf σ Wd.2.1 Wd.2.2 1 (show rng 1 from by decide) _ hw l _) (cx2 _) rfl rfl rfl rfl ⟨(Nat.le_of_ble_eq_true rfl), (Nat.le_of_ble_eq_true rfl)⟩ hl.1 rfl rfl (Nat.le_of_ble_eq_true rfl) ⟨(Nat.le_of_ble_eq_true rfl), (Nat.le_of_ble_eq_true rfl)⟩ dX6_takeBehindOperand_129) (fun σr129 H locs hw Wd => ?_)
              have hS_σr129 := Wd.2.1
              exact k_retKv C hr hlk Wd hw dX6_takeBehindOperand_132
            · have hw := hw.2 (z_eq (hS.1 3 2) (show rng 41 from by decide) c85)
              refine lv_aload_n C.1 C.2.1 dX6_takeBehindOperand_88 rfl (lv_at hl 0 rfl) ?_
              refine lv_dup C.1 C.2.1 dX6_takeBehindOperand_89 rfl ?_
              refine k_get (v := .int (zI (σ.1 2 13))) C Wd.1 KX6 _ 13 (cx2 _) (by decide) fl_X6_82 rfl dX6_takeBehindOperand_90 ?_
              refine lv_iconst (v := zI 1) C.1 C.2.1 dX6_takeBehindOperand_93 (by decide) ?_
              refine k_isub (v := zI ((σ.1 2 13) - 1)) C (zI_isub _ _) dX6_takeBehindOperand_94 ?_
              obtain ⟨g95_2, hw⟩ := hw
              refine k_putK (v := ((σ.1 2 13) - 1)) C Wd KX6 2 13 (by decide) (cx2 _) rfl (by decide) fl_X6_82 rfl rfl rfl (Nat.le_of_ble_eq_true rfl) g95_2 dX6_takeBehindOperand_95 (fun H locs Wd => ?_)
              refine lv_aload_n C.1 C.2.1 dX6_takeBehindOperand_98 rfl (lv_at hl 0 rfl) ?_
              refine lv_aload_n C.1 C.2.1 dX6_takeBehindOperand_99 rfl (lv_at hl 0 rfl) ?_
              refine k_get (v := .ref (ad 6)) C Wd.1 KX6 _ 15 (cx2 _) (by decide) fl_X6_31 rfl dX6_takeBehindOperand_100 ?_
              refine lv_aload_n C.1 C.2.1 dX6_takeBehindOperand_103 rfl (lv_at hl 0 rfl) ?_
              refine k_get (v := .int (zI ((σ.1 2 13) - 1))) C Wd.1 KX6 _ 13 (cx2 _) (by decide) fl_X6_82 rfl dX6_takeBehindOperand_104 ?_
              obtain ⟨n107_1, hw⟩ := hw
              refine k_ialdK (g := (σ.2.1 6)) C Wd (cx6 _) (tC_at (by decide) rfl) n107_1 (by decide) dX6_takeBehindOperand_107 ?_
              have ga107 : rng (σ.2.1 6 ((σ.1 2 13) - 1)) := rngL (fun j => (Wd.2.1).2.1 6 j) n107_1
              refine k_putK (v := (σ.2.1 6 ((σ.1 2 13) - 1))) C Wd KX6 2 10 (by decide) (cx2 _) rfl (by decide) fl_X6_143 rfl rfl rfl (Nat.le_of_ble_eq_true rfl) ga107 dX6_takeBehindOperand_108 (fun H locs Wd => ?_)
              refine lv_aload_n C.1 C.2.1 dX6_takeBehindOperand_111 rfl (lv_at hl 0 rfl) ?_
              refine lv_aload_n C.1 C.2.1 dX6_takeBehindOperand_112 rfl (lv_at hl 0 rfl) ?_
              refine k_get (v := .ref (ad 7)) C Wd.1 KX6 _ 16 (cx2 _) (by decide) fl_X6_34 rfl dX6_takeBehindOperand_113 ?_
              refine lv_aload_n C.1 C.2.1 dX6_takeBehindOperand_116 rfl (lv_at hl 0 rfl) ?_
              refine k_get (v := .int (zI ((σ.1 2 13) - 1))) C Wd.1 KX6 _ 13 (cx2 _) (by decide) fl_X6_82 rfl dX6_takeBehindOperand_117 ?_
              refine k_ialdK (g := (σ.2.1 7)) C Wd (cx7 _) (tC_at (by decide) rfl) n107_1 (by decide) dX6_takeBehindOperand_120 ?_
              have ga120 : rng (σ.2.1 7 ((σ.1 2 13) - 1)) := rngL (fun j => (Wd.2.1).2.1 7 j) n107_1
              refine k_putK (v := (σ.2.1 7 ((σ.1 2 13) - 1))) C Wd KX6 2 11 (by decide) (cx2 _) rfl (by decide) fl_X6_146 rfl rfl rfl (Nat.le_of_ble_eq_true rfl) ga120 dX6_takeBehindOperand_121 (fun H locs Wd => ?_)
              refine lv_goto (tgt := 132) C.1 C.2.1 dX6_takeBehindOperand_124 (by decide) ?_
              exact k_retKv C hr hlk Wd hw dX6_takeBehindOperand_132
          · have hw := hw.2 (z0_eq g_s0_43 c71)
            refine lv_aload_n C.1 C.2.1 dX6_takeBehindOperand_74 rfl (lv_at hl 0 rfl) ?_
            refine lv_iload_n C.1 C.2.1 dX6_takeBehindOperand_75 rfl (lv_at hl 1 rfl) ?_
            refine k_cKv Wd (k_runVK (rest := []) C aks Wd cs_X6_168 (mk_R_endExpression D ad ca rf σ Wd.2.1 Wd.2.2 (σ.1 3 2) (hS.1 3 2) _ hw l _) (cx2 _) rfl rfl rfl rfl ⟨(Nat.le_of_ble_eq_true rfl), (Nat.le_of_ble_eq_true rfl)⟩ hl.1 rfl rfl (Nat.le_of_ble_eq_true rfl) ⟨(Nat.le_of_ble_eq_true rfl), (Nat.le_of_ble_eq_true rfl)⟩ dX6_takeBehindOperand_76) (fun σr76 H locs hw Wd => ?_)
            have hS_σr76 := Wd.2.1
            refine lv_goto (tgt := 132) C.1 C.2.1 dX6_takeBehindOperand_79 (by decide) ?_
            exact k_retKv C hr hlk Wd hw dX6_takeBehindOperand_132
        · have hw := hw.2 (z_eq (hS.1 3 2) (show rng 42 from by decide) c59)
          exact J62  _ _ _ ⟨hw, Wd, lv_sub hl [0, 1] rfl⟩
  refine k_cut0 (fun H locs ls => wp5_R_takeBehindOperand_42 K σ ∧ wXK D ad ca rf s σ H A s.heap locs ∧ lv_has ls 3 [(0, .ref (ad 2)), (1, .int (zI (σ.1 3 2)))]) (fun  ls => F0 m 42 ls []) (fun  H locs ls hi => ?_) (fun J42 => ?_)
  · obtain ⟨hw, Wd, hl⟩ := hi
    unfold wp5_R_takeBehindOperand_42 at hw
    refine lv_iconst (v := zI 0) C.1 C.2.1 dX6_takeBehindOperand_42 (by decide) ?_
    exact J43 0 _ _ _ ⟨(show rng 0 from by decide), hw, Wd, lv_sub hl [0, 1] rfl⟩
  refine lv_if_le (tgt := 42) C.1 C.2.1 dX6_takeBehindOperand_12 (by decide) (fun c12 => ?_) (fun c12 => ?_)
  · have hw := hw.1 (z0_le (hS.1 2 13) c12)
    exact J42  _ _ _ ⟨hw, Wd, lv_sub hl [0, 1] rfl⟩
  · have hw := hw.2 (z0_nle (hS.1 2 13) c12)
    refine lv_aload_n C.1 C.2.1 dX6_takeBehindOperand_15 rfl (lv_at hl 0 rfl) ?_
    refine k_get (v := .int (zI (σ.1 2 13))) C Wd.1 KX6 _ 13 (cx2 _) (by decide) fl_X6_82 rfl dX6_takeBehindOperand_16 ?_
    refine lv_bipush (v := zI 8) C.1 C.2.1 dX6_takeBehindOperand_19 (by decide) ?_
    refine lv_icmp_gt (tgt := 42) C.1 C.2.1 dX6_takeBehindOperand_21 (by decide) (fun c21 => ?_) (fun c21 => ?_)
    · have hw := hw.1 (z_lt (show rng 8 from by decide) (hS.1 2 13) c21)
      exact J42  _ _ _ ⟨hw, Wd, lv_sub hl [0, 1] rfl⟩
    · have hw := hw.2 (z_nlt (show rng 8 from by decide) (hS.1 2 13) c21)
      refine lv_aload_n C.1 C.2.1 dX6_takeBehindOperand_24 rfl (lv_at hl 0 rfl) ?_
      refine k_get (v := .ref (ad 5)) C Wd.1 KX6 _ 14 (cx2 _) (by decide) fl_X6_27 rfl dX6_takeBehindOperand_25 ?_
      refine lv_aload_n C.1 C.2.1 dX6_takeBehindOperand_28 rfl (lv_at hl 0 rfl) ?_
      refine k_get (v := .int (zI (σ.1 2 13))) C Wd.1 KX6 _ 13 (cx2 _) (by decide) fl_X6_82 rfl dX6_takeBehindOperand_29 ?_
      refine lv_iconst (v := zI 1) C.1 C.2.1 dX6_takeBehindOperand_32 (by decide) ?_
      refine k_isub (v := zI ((σ.1 2 13) - 1)) C (zI_isub _ _) dX6_takeBehindOperand_33 ?_
      obtain ⟨n34_0, hw⟩ := hw
      refine k_ialdK (g := (σ.2.1 5)) C Wd (cx5 _) (tC_at (by decide) rfl) n34_0 (by decide) dX6_takeBehindOperand_34 ?_
      have ga34 : rng (σ.2.1 5 ((σ.1 2 13) - 1)) := rngL (fun j => (Wd.2.1).2.1 5 j) n34_0
      refine lv_if_ne (tgt := 42) C.1 C.2.1 dX6_takeBehindOperand_35 (by decide) (fun c35 => ?_) (fun c35 => ?_)
      · have hw := hw.1 (z0_ne ga34 c35)
        exact J42  _ _ _ ⟨hw, Wd, lv_sub hl [0, 1] rfl⟩
      · have hw := hw.2 (z0_eq ga34 c35)
        refine lv_iconst (v := zI 1) C.1 C.2.1 dX6_takeBehindOperand_38 (by decide) ?_
        refine lv_goto (tgt := 43) C.1 C.2.1 dX6_takeBehindOperand_39 (by decide) ?_
        exact J43 1 _ _ _ ⟨(show rng 1 from by decide), hw, Wd, lv_sub hl [0, 1] rfl⟩
set_option maxHeartbeats 4000000 in
set_option maxRecDepth 100000 in
theorem mk_R_readAll : ∀ (D : va_G) (ad : Nat → Nat) (ca : Nat → ClassId) (rf : Nat → Nat → Option Nat) (σ : Sg) (hS : rngK σ) (hRF : RFok ad rf) (adK adV : Nat → Nat) (tq : Nat) (K : Int → Sg → Prop) (hw : wp5_R_readAll σ K) (l : Launch) (sz : Nat), Met l yX6_readAll (Cond.code yX6_readAll cX6_readAll 2 (some .boolean) :: gG) { frames := 8, cells := 0, slots := 0, locals := 365 } (cPS RX10 ixT adK adV tq D (tC ca) (wK ad ca rf σ) sz [.ref (ad 2)]) (va_Qi (fun (r : Int32) (u : Sg) => (∃ x : Int, r = zI x ∧ rng x ∧ K x u) ∧ rngK u) (fun u t => cB D (va_A (wK ad ca rf σ) sz) [] (wK ad ca rf u) t) (va_A (wK ad ca rf σ) sz)) 0 0 (va_A (wK ad ca rf σ) sz) := by
  intro D ad ca rf σ hS hRF adK adV tq  K hw l sz
  refine Met.ofW (cc := cX6_readAll) (maxL := 2) (ret := (some .boolean)) (by decide) rfl ?_
  intro p e s m args below meth c s₁ B hml hv
  obtain ⟨hv, hE⟩ := hv
  obtain ⟨rfl, aks, rfl, Wd⟩ := k_enter hv
  have C : CallFix p m c cX6_readAll 2 s _ gG RX6 := ⟨B.exec, B.bytes, hml, findClass_of_methodNamed B.named, fun w h => atoms_spec (ws := Cond.code yX6_readAll cX6_readAll 2 (some .boolean) :: gG) B.pre w (List.mem_cons_of_mem _ h)⟩
  have hr := B.returns
  have hlk := B.notSynchronized
  generalize va_A (wK ad ca rf σ) s.heap.size = A at Wd hE ⊢
  replace Wd : wXK D ad ca rf s σ s.heap A s.heap [] := ⟨Wd, hS, hRF⟩
  refine k_locals (Nat.le_of_ble_eq_true rfl) [(0, .ref (ad 2))] rfl (fun ls hl => ?_)
  unfold wp5_R_readAll at hw
  refine lv_iconst (v := zI 0) C.1 C.2.1 dX6_readAll_0 (by decide) ?_
  refine lv_istore_n (lv' := [(1, .int (zI 0)), (0, .ref (ad 2))]) C.1 C.2.1 dX6_readAll_1 rfl hl (by decide) rfl (fun ls hl => ?_)
  replace hl := lv_sub hl [1, 0] rfl
  refine k_lp2 hw (fun (l1_2 : Int) (σ2 : Sg) H locs ls => rng l1_2 ∧ wXK D ad ca rf s σ2 H A s.heap locs ∧ lv_has ls 2 [(0, .ref (ad 2)), (1, .int (zI l1_2))]) (fun (l1_2 : Int) (σ2 : Sg) ls => F0 m 2 ls []) (fun L2 hL2 l1_2 σ2 hw H locs ls hi => ?_) _ _ _ ⟨(show rng 0 from by decide), Wd, lv_sub hl [0, 1] rfl⟩
  obtain ⟨g_l1_2, Wd, hl⟩ := hi
  have hS_σ2 := Wd.2.1
  unfold wp5_R_readAll_2 at hw
  refine lv_iload_n C.1 C.2.1 dX6_readAll_2 rfl (lv_at hl 1 rfl) ?_
  refine lv_sipush (v := zI 800) C.1 C.2.1 dX6_readAll_3 (zS (by decide) (by decide)) ?_
  refine k_cut0 (fun H locs ls => wp5_R_readAll_140 K σ2 ∧ wXK D ad ca rf s σ2 H A s.heap locs ∧ lv_has ls 2 [(0, .ref (ad 2))]) (fun  ls => F0 m 140 ls []) (fun  H locs ls hi => ?_) (fun J140 => ?_)
  · obtain ⟨hw, Wd, hl⟩ := hi
    unfold wp5_R_readAll_140 at hw
    refine lv_aload_n C.1 C.2.1 dX6_readAll_140 rfl (lv_at hl 0 rfl) ?_
    refine k_get (v := .ref (ad 3)) C Wd.1 KX6 _ 0 (cx2 _) (by decide) fl_X6_12 rfl dX6_readAll_141 ?_
    refine lv_iconst (v := zI 0) C.1 C.2.1 dX6_readAll_144 (by decide) ?_
    refine k_cKi Wd (k_runVK (rest := []) C aks Wd cs_X6_44 (mk_T_shorten D ad ca rf σ2 Wd.2.1 Wd.2.2 0 (show rng 0 from by decide) _ hw l _) (cx3 _) rfl rfl rfl rfl ⟨(Nat.le_of_ble_eq_true rfl), (Nat.le_of_ble_eq_true rfl)⟩ hl.1 rfl rfl (Nat.le_of_ble_eq_true rfl) ⟨(Nat.le_of_ble_eq_true rfl), (Nat.le_of_ble_eq_true rfl)⟩ dX6_readAll_145) (fun r145 σr145 H locs g_r145 hw Wd => ?_)
    have hS_σr145 := Wd.2.1
    refine lv_pop C.1 C.2.1 dX6_readAll_148 rfl ?_
    refine lv_aload_n C.1 C.2.1 dX6_readAll_149 rfl (lv_at hl 0 rfl) ?_
    refine k_get (v := .int (zI (σr145.1 2 1))) C Wd.1 KX6 _ 1 (cx2 _) (by decide) fl_X6_37 rfl dX6_readAll_150 ?_
    refine lv_if_ne (tgt := 160) C.1 C.2.1 dX6_readAll_153 (by decide) (fun c153 => ?_) (fun c153 => ?_)
    · have hw := hw.1 (z0_ne (hS_σr145.1 2 1) c153)
      refine lv_iconst (v := zI 0) C.1 C.2.1 dX6_readAll_160 (by decide) ?_
      exact k_retKi C hr hlk (by decide) Wd ⟨_, rfl, (show rng 0 from by decide), hw⟩ dX6_readAll_161
    · have hw := hw.2 (z0_eq (hS_σr145.1 2 1) c153)
      refine lv_iconst (v := zI 1) C.1 C.2.1 dX6_readAll_156 (by decide) ?_
      refine lv_goto (tgt := 161) C.1 C.2.1 dX6_readAll_157 (by decide) ?_
      exact k_retKi C hr hlk (by decide) Wd ⟨_, rfl, (show rng 1 from by decide), hw⟩ dX6_readAll_161
  refine lv_icmp_gt (tgt := 140) C.1 C.2.1 dX6_readAll_6 (by decide) (fun c6 => ?_) (fun c6 => ?_)
  · have hw := hw.1 (z_lt (show rng 800 from by decide) g_l1_2 c6)
    exact J140  _ _ _ ⟨hw, Wd, lv_sub hl [0] rfl⟩
  · have hw := hw.2 (z_nlt (show rng 800 from by decide) g_l1_2 c6)
    refine lv_aload_n C.1 C.2.1 dX6_readAll_9 rfl (lv_at hl 0 rfl) ?_
    refine k_get (v := .int (zI (σ2.1 2 1))) C Wd.1 KX6 _ 1 (cx2 _) (by decide) fl_X6_37 rfl dX6_readAll_10 ?_
    refine lv_if_ne (tgt := 140) C.1 C.2.1 dX6_readAll_13 (by decide) (fun c13 => ?_) (fun c13 => ?_)
    · have hw := hw.1 (z0_ne (hS_σ2.1 2 1) c13)
      exact J140  _ _ _ ⟨hw, Wd, lv_sub hl [0] rfl⟩
    · have hw := hw.2 (z0_eq (hS_σ2.1 2 1) c13)
      refine lv_aload_n C.1 C.2.1 dX6_readAll_16 rfl (lv_at hl 0 rfl) ?_
      refine k_get (v := .ref (ad 3)) C Wd.1 KX6 _ 0 (cx2 _) (by decide) fl_X6_12 rfl dX6_readAll_17 ?_
      refine k_get (v := .int (zI (σ2.1 3 2))) C Wd.1 KX10 _ 2 (cx3 _) (by decide) fl_X6_88 rfl dX6_readAll_20 ?_
      refine lv_iconst (v := zI 1) C.1 C.2.1 dX6_readAll_23 (by decide) ?_
      refine lv_icmp_eq (tgt := 140) C.1 C.2.1 dX6_readAll_24 (by decide) (fun c24 => ?_) (fun c24 => ?_)
      · have hw := hw.1 (z_eq (hS_σ2.1 3 2) (show rng 1 from by decide) c24)
        exact J140  _ _ _ ⟨hw, Wd, lv_sub hl [0] rfl⟩
      · have hw := hw.2 (z_ne (hS_σ2.1 3 2) (show rng 1 from by decide) c24)
        refine lv_aload_n C.1 C.2.1 dX6_readAll_27 rfl (lv_at hl 0 rfl) ?_
        refine k_get (v := .ref (ad 3)) C Wd.1 KX6 _ 0 (cx2 _) (by decide) fl_X6_12 rfl dX6_readAll_28 ?_
        refine lv_aload_n C.1 C.2.1 dX6_readAll_31 rfl (lv_at hl 0 rfl) ?_
        refine k_cut1 (fun (s0_43 : Int) H locs ls => rng s0_43 ∧ wp5_R_readAll_43 l1_2 σ2 L2 s0_43 ∧ wXK D ad ca rf s σ2 H A s.heap locs ∧ lv_has ls 2 [(0, .ref (ad 2)), (1, .int (zI l1_2))]) (fun (s0_43 : Int) ls => F0 m 43 ls [.int (zI s0_43), .ref (ad 3)]) (fun s0_43 H locs ls hi => ?_) (fun J43 => ?_)
        · obtain ⟨g_s0_43, hw, Wd, hl⟩ := hi
          unfold wp5_R_readAll_43 at hw
          refine k_cKv Wd (k_runVKS (rest := []) C aks hE Wd cs_X6_91 (mk_T_advance D ad ca rf σ2 Wd.2.1 Wd.2.2 adK adV tq s0_43 g_s0_43 _ hw l _) (cx3 _) rfl rfl rfl rfl ⟨(Nat.le_of_ble_eq_true rfl), (Nat.le_of_ble_eq_true rfl)⟩ hl.1 rfl rfl (Nat.le_of_ble_eq_true rfl) ⟨(Nat.le_of_ble_eq_true rfl), (Nat.le_of_ble_eq_true rfl)⟩ dX6_readAll_43) (fun σr43 H locs hw Wd => ?_)
          have hS_σr43 := Wd.2.1
          refine lv_aload_n C.1 C.2.1 dX6_readAll_46 rfl (lv_at hl 0 rfl) ?_
          refine k_get (v := .int (zI (σr43.1 2 5))) C Wd.1 KX6 _ 5 (cx2 _) (by decide) fl_X6_52 rfl dX6_readAll_47 ?_
          by_cases c50_1 : (σr43.1 2 5) = 1
          · have hw := hw.1 c50_1
            refine lv_tableIn (off := 38) (tgt := 88) C.1 C.2.1 dX6_readAll_50 (by rw [zI_toInt (hS_σr43.1 2 5)]; omega) (by rw [zI_toInt (hS_σr43.1 2 5)]; omega) (by rw [zI_toInt (hS_σr43.1 2 5), c50_1]; rfl) (by decide) ?_
            refine lv_aload_n C.1 C.2.1 dX6_readAll_88 rfl (lv_at hl 0 rfl) ?_
            refine k_cKv Wd (k_runVK (rest := []) C aks Wd cs_X6_95 (mk_R_takeBehindThen D ad ca rf σr43 Wd.2.1 Wd.2.2   _ hw l _) (cx2 _) rfl rfl rfl rfl ⟨(Nat.le_of_ble_eq_true rfl), (Nat.le_of_ble_eq_true rfl)⟩ hl.1 rfl rfl (Nat.le_of_ble_eq_true rfl) ⟨(Nat.le_of_ble_eq_true rfl), (Nat.le_of_ble_eq_true rfl)⟩ dX6_readAll_89) (fun σr89 H locs hw Wd => ?_)
            have hS_σr89 := Wd.2.1
            refine lv_goto (tgt := 134) C.1 C.2.1 dX6_readAll_92 (by decide) ?_
            refine lv_iinc (v := zI (l1_2 + 1)) (lv' := [(1, .int (zI (l1_2 + 1))), (0, .ref (ad 2))]) C.1 C.2.1 dX6_readAll_134 hl (k := 1) rfl (zI_inc _ _ (by decide)) (by decide) rfl (fun ls hl => ?_)
            replace hl := lv_sub hl [1, 0] rfl
            refine lv_goto (tgt := 2) C.1 C.2.1 dX6_readAll_137 (by decide) ?_
            obtain ⟨g137_5, hw⟩ := hw
            exact hL2 _ _ hw _ _ _ ⟨g137_5, Wd, lv_sub hl [0, 1] rfl⟩
          by_cases c50_2 : (σr43.1 2 5) = 2
          · have hw := hw.2.1 c50_2
            refine lv_tableIn (off := 45) (tgt := 95) C.1 C.2.1 dX6_readAll_50 (by rw [zI_toInt (hS_σr43.1 2 5)]; omega) (by rw [zI_toInt (hS_σr43.1 2 5)]; omega) (by rw [zI_toInt (hS_σr43.1 2 5), c50_2]; rfl) (by decide) ?_
            refine lv_aload_n C.1 C.2.1 dX6_readAll_95 rfl (lv_at hl 0 rfl) ?_
            refine k_cKv Wd (k_runVK (rest := []) C aks Wd cs_X6_98 (mk_R_takeElseBrace D ad ca rf σr43 Wd.2.1 Wd.2.2   _ hw l _) (cx2 _) rfl rfl rfl rfl ⟨(Nat.le_of_ble_eq_true rfl), (Nat.le_of_ble_eq_true rfl)⟩ hl.1 rfl rfl (Nat.le_of_ble_eq_true rfl) ⟨(Nat.le_of_ble_eq_true rfl), (Nat.le_of_ble_eq_true rfl)⟩ dX6_readAll_96) (fun σr96 H locs hw Wd => ?_)
            have hS_σr96 := Wd.2.1
            refine lv_goto (tgt := 134) C.1 C.2.1 dX6_readAll_99 (by decide) ?_
            refine lv_iinc (v := zI (l1_2 + 1)) (lv' := [(1, .int (zI (l1_2 + 1))), (0, .ref (ad 2))]) C.1 C.2.1 dX6_readAll_134 hl (k := 1) rfl (zI_inc _ _ (by decide)) (by decide) rfl (fun ls hl => ?_)
            replace hl := lv_sub hl [1, 0] rfl
            refine lv_goto (tgt := 2) C.1 C.2.1 dX6_readAll_137 (by decide) ?_
            obtain ⟨g137_6, hw⟩ := hw
            exact hL2 _ _ hw _ _ _ ⟨g137_6, Wd, lv_sub hl [0, 1] rfl⟩
          by_cases c50_3 : (σr43.1 2 5) = 3
          · have hw := hw.2.2.1 c50_3
            refine lv_tableIn (off := 52) (tgt := 102) C.1 C.2.1 dX6_readAll_50 (by rw [zI_toInt (hS_σr43.1 2 5)]; omega) (by rw [zI_toInt (hS_σr43.1 2 5)]; omega) (by rw [zI_toInt (hS_σr43.1 2 5), c50_3]; rfl) (by decide) ?_
            refine lv_aload_n C.1 C.2.1 dX6_readAll_102 rfl (lv_at hl 0 rfl) ?_
            refine k_cKv Wd (k_runVK (rest := []) C aks Wd cs_X6_101 (mk_R_takeSetSign D ad ca rf σr43 Wd.2.1 Wd.2.2   _ hw l _) (cx2 _) rfl rfl rfl rfl ⟨(Nat.le_of_ble_eq_true rfl), (Nat.le_of_ble_eq_true rfl)⟩ hl.1 rfl rfl (Nat.le_of_ble_eq_true rfl) ⟨(Nat.le_of_ble_eq_true rfl), (Nat.le_of_ble_eq_true rfl)⟩ dX6_readAll_103) (fun σr103 H locs hw Wd => ?_)
            have hS_σr103 := Wd.2.1
            refine lv_goto (tgt := 134) C.1 C.2.1 dX6_readAll_106 (by decide) ?_
            refine lv_iinc (v := zI (l1_2 + 1)) (lv' := [(1, .int (zI (l1_2 + 1))), (0, .ref (ad 2))]) C.1 C.2.1 dX6_readAll_134 hl (k := 1) rfl (zI_inc _ _ (by decide)) (by decide) rfl (fun ls hl => ?_)
            replace hl := lv_sub hl [1, 0] rfl
            refine lv_goto (tgt := 2) C.1 C.2.1 dX6_readAll_137 (by decide) ?_
            obtain ⟨g137_7, hw⟩ := hw
            exact hL2 _ _ hw _ _ _ ⟨g137_7, Wd, lv_sub hl [0, 1] rfl⟩
          by_cases c50_4 : (σr43.1 2 5) = 4
          · have hw := hw.2.2.2.1 c50_4
            refine lv_tableIn (off := 59) (tgt := 109) C.1 C.2.1 dX6_readAll_50 (by rw [zI_toInt (hS_σr43.1 2 5)]; omega) (by rw [zI_toInt (hS_σr43.1 2 5)]; omega) (by rw [zI_toInt (hS_σr43.1 2 5), c50_4]; rfl) (by decide) ?_
            refine lv_aload_n C.1 C.2.1 dX6_readAll_109 rfl (lv_at hl 0 rfl) ?_
            refine k_cKv Wd (k_runVK (rest := []) C aks Wd cs_X6_104 (mk_R_takeSemicolon D ad ca rf σr43 Wd.2.1 Wd.2.2   _ hw l _) (cx2 _) rfl rfl rfl rfl ⟨(Nat.le_of_ble_eq_true rfl), (Nat.le_of_ble_eq_true rfl)⟩ hl.1 rfl rfl (Nat.le_of_ble_eq_true rfl) ⟨(Nat.le_of_ble_eq_true rfl), (Nat.le_of_ble_eq_true rfl)⟩ dX6_readAll_110) (fun σr110 H locs hw Wd => ?_)
            have hS_σr110 := Wd.2.1
            refine lv_goto (tgt := 134) C.1 C.2.1 dX6_readAll_113 (by decide) ?_
            refine lv_iinc (v := zI (l1_2 + 1)) (lv' := [(1, .int (zI (l1_2 + 1))), (0, .ref (ad 2))]) C.1 C.2.1 dX6_readAll_134 hl (k := 1) rfl (zI_inc _ _ (by decide)) (by decide) rfl (fun ls hl => ?_)
            replace hl := lv_sub hl [1, 0] rfl
            refine lv_goto (tgt := 2) C.1 C.2.1 dX6_readAll_137 (by decide) ?_
            obtain ⟨g137_8, hw⟩ := hw
            exact hL2 _ _ hw _ _ _ ⟨g137_8, Wd, lv_sub hl [0, 1] rfl⟩
          by_cases c50_5 : (σr43.1 2 5) = 5
          · have hw := hw.2.2.2.2.1 c50_5
            refine lv_tableIn (off := 66) (tgt := 116) C.1 C.2.1 dX6_readAll_50 (by rw [zI_toInt (hS_σr43.1 2 5)]; omega) (by rw [zI_toInt (hS_σr43.1 2 5)]; omega) (by rw [zI_toInt (hS_σr43.1 2 5), c50_5]; rfl) (by decide) ?_
            refine lv_aload_n C.1 C.2.1 dX6_readAll_116 rfl (lv_at hl 0 rfl) ?_
            refine k_cKv Wd (k_runVK (rest := []) C aks Wd cs_X6_107 (mk_R_takeOperand D ad ca rf σr43 Wd.2.1 Wd.2.2   _ hw l _) (cx2 _) rfl rfl rfl rfl ⟨(Nat.le_of_ble_eq_true rfl), (Nat.le_of_ble_eq_true rfl)⟩ hl.1 rfl rfl (Nat.le_of_ble_eq_true rfl) ⟨(Nat.le_of_ble_eq_true rfl), (Nat.le_of_ble_eq_true rfl)⟩ dX6_readAll_117) (fun σr117 H locs hw Wd => ?_)
            have hS_σr117 := Wd.2.1
            refine lv_goto (tgt := 134) C.1 C.2.1 dX6_readAll_120 (by decide) ?_
            refine lv_iinc (v := zI (l1_2 + 1)) (lv' := [(1, .int (zI (l1_2 + 1))), (0, .ref (ad 2))]) C.1 C.2.1 dX6_readAll_134 hl (k := 1) rfl (zI_inc _ _ (by decide)) (by decide) rfl (fun ls hl => ?_)
            replace hl := lv_sub hl [1, 0] rfl
            refine lv_goto (tgt := 2) C.1 C.2.1 dX6_readAll_137 (by decide) ?_
            obtain ⟨g137_9, hw⟩ := hw
            exact hL2 _ _ hw _ _ _ ⟨g137_9, Wd, lv_sub hl [0, 1] rfl⟩
          by_cases c50_6 : (σr43.1 2 5) = 6
          · have hw := hw.2.2.2.2.2.1 c50_6
            refine lv_tableIn (off := 73) (tgt := 123) C.1 C.2.1 dX6_readAll_50 (by rw [zI_toInt (hS_σr43.1 2 5)]; omega) (by rw [zI_toInt (hS_σr43.1 2 5)]; omega) (by rw [zI_toInt (hS_σr43.1 2 5), c50_6]; rfl) (by decide) ?_
            refine lv_aload_n C.1 C.2.1 dX6_readAll_123 rfl (lv_at hl 0 rfl) ?_
            refine k_cKv Wd (k_runVK (rest := []) C aks Wd cs_X6_110 (mk_R_takeBehindOperand D ad ca rf σr43 Wd.2.1 Wd.2.2   _ hw l _) (cx2 _) rfl rfl rfl rfl ⟨(Nat.le_of_ble_eq_true rfl), (Nat.le_of_ble_eq_true rfl)⟩ hl.1 rfl rfl (Nat.le_of_ble_eq_true rfl) ⟨(Nat.le_of_ble_eq_true rfl), (Nat.le_of_ble_eq_true rfl)⟩ dX6_readAll_124) (fun σr124 H locs hw Wd => ?_)
            have hS_σr124 := Wd.2.1
            refine lv_goto (tgt := 134) C.1 C.2.1 dX6_readAll_127 (by decide) ?_
            refine lv_iinc (v := zI (l1_2 + 1)) (lv' := [(1, .int (zI (l1_2 + 1))), (0, .ref (ad 2))]) C.1 C.2.1 dX6_readAll_134 hl (k := 1) rfl (zI_inc _ _ (by decide)) (by decide) rfl (fun ls hl => ?_)
            replace hl := lv_sub hl [1, 0] rfl
            refine lv_goto (tgt := 2) C.1 C.2.1 dX6_readAll_137 (by decide) ?_
            obtain ⟨g137_10, hw⟩ := hw
            exact hL2 _ _ hw _ _ _ ⟨g137_10, Wd, lv_sub hl [0, 1] rfl⟩
          have hw := hw.2.2.2.2.2.2 (by omega)
          refine lv_tableOut (tgt := 130) C.1 C.2.1 dX6_readAll_50 (by rw [zI_toInt (hS_σr43.1 2 5)]; omega) (by decide) ?_
          refine lv_aload_n C.1 C.2.1 dX6_readAll_130 rfl (lv_at hl 0 rfl) ?_
          refine k_cKv Wd (k_runVK (rest := []) C aks Wd cs_X6_113 (mk_R_takeStatement D ad ca rf σr43 Wd.2.1 Wd.2.2   _ hw l _) (cx2 _) rfl rfl rfl rfl ⟨(Nat.le_of_ble_eq_true rfl), (Nat.le_of_ble_eq_true rfl)⟩ hl.1 rfl rfl (Nat.le_of_ble_eq_true rfl) ⟨(Nat.le_of_ble_eq_true rfl), (Nat.le_of_ble_eq_true rfl)⟩ dX6_readAll_131) (fun σr131 H locs hw Wd => ?_)
          have hS_σr131 := Wd.2.1
          refine lv_iinc (v := zI (l1_2 + 1)) (lv' := [(1, .int (zI (l1_2 + 1))), (0, .ref (ad 2))]) C.1 C.2.1 dX6_readAll_134 hl (k := 1) rfl (zI_inc _ _ (by decide)) (by decide) rfl (fun ls hl => ?_)
          replace hl := lv_sub hl [1, 0] rfl
          refine lv_goto (tgt := 2) C.1 C.2.1 dX6_readAll_137 (by decide) ?_
          obtain ⟨g137_11, hw⟩ := hw
          exact hL2 _ _ hw _ _ _ ⟨g137_11, Wd, lv_sub hl [0, 1] rfl⟩
        by_cases c32 : (σ2.1 2 4) < 0
        · have hw := hw.1 c32
          refine k_get (v := .null) C Wd.1 KX6 _ 4 (cx2 _) (by decide) fl_X6_69 (congrArg some (rvN_null c32)) dX6_readAll_32 ?_
          refine lv_ifnullN (tgt := 42) C.1 C.2.1 dX6_readAll_35 (by decide) ?_
          refine lv_iconst (v := zI 0) C.1 C.2.1 dX6_readAll_42 (by decide) ?_
          exact J43 0 _ _ _ ⟨(show rng 0 from by decide), hw, Wd, lv_sub hl [0, 1] rfl⟩
        · have hw := hw.2 (Int.not_lt.mp c32)
          obtain ⟨n32_0, hw⟩ := hw
          refine k_get (v := .ref (ad (ruleC (σ2.1 2 4).toNat))) C Wd.1 KX6 _ 4 (cx2 _) (by decide) fl_X6_69 (congrArg some (rvN_ref n32_0)) dX6_readAll_32 ?_
          refine lv_ifnull C.1 C.2.1 dX6_readAll_35 ?_
          refine lv_iconst (v := zI 1) C.1 C.2.1 dX6_readAll_38 (by decide) ?_
          refine lv_goto (tgt := 43) C.1 C.2.1 dX6_readAll_39 (by decide) ?_
          exact J43 1 _ _ _ ⟨(show rng 1 from by decide), hw, Wd, lv_sub hl [0, 1] rfl⟩
