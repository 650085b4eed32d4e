set_option maxHeartbeats 4000000 in
set_option maxRecDepth 100000 in
theorem mk_W_addPart : ∀ (D : va_G) (ad : Nat → Nat) (ca : Nat → ClassId) (rf : Nat → Nat → Option Nat) (σ : Sg) (hS : rngK σ) (hRF : RFok ad rf) (n0 : Int) (x0 : Int) (x1 : Int) (x2 : Int) (h_n0 : 0 ≤ n0 ∧ n0 < 35) (g_x0 : 0 ≤ x0 ∧ x0 < 35) (g_x1 : rng x1) (g_x2 : rng x2) (K : Sg → Prop) (hw : wp5_W_addPart σ n0 x0 x1 x2 K) (l : Launch) (sz : Nat), Met l yX8_addPart (Cond.code yX8_addPart cX8_addPart 5 none :: gG) { frames := 1, cells := 0, slots := 0, locals := 96 } (cPre D (tC ca) (wK ad ca rf σ) sz [.ref (ad (rowC n0.toNat)), .ref (ad (rowC x0.toNat)), .int (zI x1), .int (zI x2)]) (va_Qv (fun (u : Sg) => K u ∧ rngK u) (fun u t => cB D (va_A (wK ad ca rf σ) sz) [] (wK ad ca rf u) t) (va_A (wK ad ca rf σ) sz)) 0 0 (va_A (wK ad ca rf σ) sz) := by
  intro D ad ca rf σ hS hRF n0 x0 x1 x2 h_n0 g_x0 g_x1 g_x2 K hw l sz
  refine Met.ofW (cc := cX8_addPart) (maxL := 5) (ret := none) (by decide) rfl ?_
  intro p e s m args below meth c s₁ B hml hv
  obtain ⟨rfl, aks, rfl, Wd⟩ := k_enter hv
  have C : CallFix p m c cX8_addPart 5 s _ gG RX8 := ⟨B.exec, B.bytes, hml, findClass_of_methodNamed B.named, fun w h => atoms_spec (ws := Cond.code yX8_addPart cX8_addPart 5 none :: gG) B.pre w (List.mem_cons_of_mem _ h)⟩
  have hr := B.returns
  have hlk := B.notSynchronized
  generalize va_A (wK ad ca rf σ) s.heap.size = A at Wd ⊢
  replace Wd : wXK D ad ca rf s σ s.heap A s.heap [] := ⟨Wd, hS, hRF⟩
  refine k_locals (Nat.le_of_ble_eq_true rfl) [(0, .ref (ad (rowC n0.toNat))), (1, .ref (ad (rowC x0.toNat))), (2, .int (zI x1)), (3, .int (zI x2))] rfl (fun ls hl => ?_)
  unfold wp5_W_addPart at hw
  refine lv_iload_n C.1 C.2.1 dX8_addPart_0 rfl (lv_at hl 3 rfl) ?_
  refine lv_iload_n C.1 C.2.1 dX8_addPart_1 rfl (lv_at hl 2 rfl) ?_
  refine k_isub (v := zI (x2 - x1)) C (zI_isub _ _) dX8_addPart_2 ?_
  refine lv_istore (lv' := [(4, .int (zI (x2 - x1))), (0, .ref (ad (rowC n0.toNat))), (1, .ref (ad (rowC x0.toNat))), (2, .int (zI x1)), (3, .int (zI x2))]) C.1 C.2.1 dX8_addPart_3 hl (by decide) rfl (fun ls hl => ?_)
  replace hl := lv_sub hl [1, 2, 3, 4, 0] rfl
  refine lv_iload_n C.1 C.2.1 dX8_addPart_5 rfl (lv_at hl 2 rfl) ?_
  refine lv_if_lt (tgt := 66) C.1 C.2.1 dX8_addPart_6 (by decide) (fun c6 => ?_) (fun c6 => ?_)
  · have hw := hw.1 (z0_lt g_x1 c6)
    exact k_retKv C hr hlk Wd hw dX8_addPart_66
  · have hw := hw.2 (z0_nlt g_x1 c6)
    refine lv_iload C.1 C.2.1 dX8_addPart_9 (lv_at hl 4 rfl) ?_
    obtain ⟨g11_3, hw⟩ := hw
    refine lv_if_le (tgt := 66) C.1 C.2.1 dX8_addPart_11 (by decide) (fun c11 => ?_) (fun c11 => ?_)
    · have hw := hw.1 (z0_le g11_3 c11)
      exact k_retKv C hr hlk Wd hw dX8_addPart_66
    · have hw := hw.2 (z0_nle g11_3 c11)
      refine lv_iload_n C.1 C.2.1 dX8_addPart_14 rfl (lv_at hl 3 rfl) ?_
      refine lv_aload_n C.1 C.2.1 dX8_addPart_15 rfl (lv_at hl 1 rfl) ?_
      refine k_get (v := .int (zI (σ.2.2.1 0 x0))) C Wd.1 KX8 _ 1 (cxRow g_x0) (by decide) fl_X8_21 rfl dX8_addPart_16 ?_
      refine lv_icmp_gt (tgt := 66) C.1 C.2.1 dX8_addPart_19 (by decide) (fun c19 => ?_) (fun c19 => ?_)
      · have hw := hw.1 (z_lt (rgY hS (N := 35) g_x0) g_x2 c19)
        exact k_retKv C hr hlk Wd hw dX8_addPart_66
      · have hw := hw.2 (z_nlt (rgY hS (N := 35) g_x0) g_x2 c19)
        refine lv_iload C.1 C.2.1 dX8_addPart_22 (lv_at hl 4 rfl) ?_
        refine lv_aload_n C.1 C.2.1 dX8_addPart_24 rfl (lv_at hl 0 rfl) ?_
        refine k_get (v := .ref (ad ((rowC n0.toNat) + 1))) C Wd.1 KX8 _ 0 (cxRow h_n0) (by decide) fl_X8_15 rfl dX8_addPart_25 ?_
        refine k_lenR (n := n0) C Wd h_n0 dX8_addPart_28 ?_
        refine lv_aload_n C.1 C.2.1 dX8_addPart_29 rfl (lv_at hl 0 rfl) ?_
        refine k_get (v := .int (zI (σ.2.2.1 0 n0))) C Wd.1 KX8 _ 1 (cxRow h_n0) (by decide) fl_X8_21 rfl dX8_addPart_30 ?_
        refine k_isub (v := zI ((capI n0) - (σ.2.2.1 0 n0))) C (zI_isub _ _) dX8_addPart_33 ?_
        obtain ⟨g34_4, hw⟩ := hw
        refine lv_icmp_gt (tgt := 66) C.1 C.2.1 dX8_addPart_34 (by decide) (fun c34 => ?_) (fun c34 => ?_)
        · have hw := hw.1 (z_lt g34_4 g11_3 c34)
          exact k_retKv C hr hlk Wd hw dX8_addPart_66
        · have hw := hw.2 (z_nlt g34_4 g11_3 c34)
          refine lv_aload_n C.1 C.2.1 dX8_addPart_37 rfl (lv_at hl 1 rfl) ?_
          refine k_get (v := .ref (ad ((rowC x0.toNat) + 1))) C Wd.1 KX8 _ 0 (cxRow g_x0) (by decide) fl_X8_15 rfl dX8_addPart_38 ?_
          refine lv_iload_n C.1 C.2.1 dX8_addPart_41 rfl (lv_at hl 2 rfl) ?_
          refine lv_aload_n C.1 C.2.1 dX8_addPart_42 rfl (lv_at hl 0 rfl) ?_
          refine k_get (v := .ref (ad ((rowC n0.toNat) + 1))) C Wd.1 KX8 _ 0 (cxRow h_n0) (by decide) fl_X8_15 rfl dX8_addPart_43 ?_
          refine lv_aload_n C.1 C.2.1 dX8_addPart_46 rfl (lv_at hl 0 rfl) ?_
          refine k_get (v := .int (zI (σ.2.2.1 0 n0))) C Wd.1 KX8 _ 1 (cxRow h_n0) (by decide) fl_X8_21 rfl dX8_addPart_47 ?_
          refine lv_iload C.1 C.2.1 dX8_addPart_50 (lv_at hl 4 rfl) ?_
          obtain ⟨y52, hw⟩ := hw
          refine k_copyR (sp := x1) (dp := (σ.2.2.1 0 n0)) (n := (x2 - x1)) C hl.1 Wd mlac_X8_25 nat_ac sta_ac ini_sys g_x0 h_n0 rfl rfl y52 (Nat.le_of_ble_eq_true rfl) (Nat.le_of_ble_eq_true rfl) dX8_addPart_52 (fun H locs Wd => ?_)
          refine lv_aload_n C.1 C.2.1 dX8_addPart_55 rfl (lv_at hl 0 rfl) ?_
          refine lv_dup C.1 C.2.1 dX8_addPart_56 rfl ?_
          refine k_get (v := .int (zI (σ.2.2.1 0 n0))) C Wd.1 KX8 _ 1 (cxRow h_n0) (by decide) fl_X8_21 rfl dX8_addPart_57 ?_
          refine lv_iload C.1 C.2.1 dX8_addPart_60 (lv_at hl 4 rfl) ?_
          refine k_iadd (v := zI ((σ.2.2.1 0 n0) + (x2 - x1))) C (zI_iadd _ _) dX8_addPart_62 ?_
          obtain ⟨g63_5, hw⟩ := hw
          refine k_putRL (n := n0) (v := ((σ.2.2.1 0 n0) + (x2 - x1))) C Wd h_n0 fl_X8_21 g63_5 dX8_addPart_63 (fun H locs Wd => ?_)
          exact k_retKv C hr hlk Wd hw dX8_addPart_66
set_option maxHeartbeats 4000000 in
set_option maxRecDepth 100000 in
theorem mk_W_copy : ∀ (D : va_G) (ad : Nat → Nat) (ca : Nat → ClassId) (rf : Nat → Nat → Option Nat) (σ : Sg) (hS : rngK σ) (hRF : RFok ad rf) (n0 : Int) (x0 : Int) (h_n0 : 0 ≤ n0 ∧ n0 < 35) (g_x0 : 0 ≤ x0 ∧ x0 < 35) (K : Sg → Prop) (hw : wp5_W_copy σ n0 x0 K) (l : Launch) (sz : Nat), Met l yX8_copy (Cond.code yX8_copy cX8_copy 2 none :: gG) { frames := 2, cells := 0, slots := 0, locals := 120 } (cPre D (tC ca) (wK ad ca rf σ) sz [.ref (ad (rowC n0.toNat)), .ref (ad (rowC x0.toNat))]) (va_Qv (fun (u : Sg) => K u ∧ rngK u) (fun u t => cB D (va_A (wK ad ca rf σ) sz) [] (wK ad ca rf u) t) (va_A (wK ad ca rf σ) sz)) 0 0 (va_A (wK ad ca rf σ) sz) := by
  intro D ad ca rf σ hS hRF n0 x0 h_n0 g_x0 K hw l sz
  refine Met.ofW (cc := cX8_copy) (maxL := 2) (ret := none) (by decide) rfl ?_
  intro p e s m args below meth c s₁ B hml hv
  obtain ⟨rfl, aks, rfl, Wd⟩ := k_enter hv
  have C : CallFix p m c cX8_copy 2 s _ gG RX8 := ⟨B.exec, B.bytes, hml, findClass_of_methodNamed B.named, fun w h => atoms_spec (ws := Cond.code yX8_copy cX8_copy 2 none :: gG) B.pre w (List.mem_cons_of_mem _ h)⟩
  have hr := B.returns
  have hlk := B.notSynchronized
  generalize va_A (wK ad ca rf σ) s.heap.size = A at Wd ⊢
  replace Wd : wXK D ad ca rf s σ s.heap A s.heap [] := ⟨Wd, hS, hRF⟩
  refine k_locals (Nat.le_of_ble_eq_true rfl) [(0, .ref (ad (rowC n0.toNat))), (1, .ref (ad (rowC x0.toNat)))] rfl (fun ls hl => ?_)
  unfold wp5_W_copy at hw
  refine lv_aload_n C.1 C.2.1 dX8_copy_0 rfl (lv_at hl 1 rfl) ?_
  refine lv_aload_n C.1 C.2.1 dX8_copy_1 rfl (lv_at hl 0 rfl) ?_
  refine lv_acmp_eq (rx := some (ad (rowC x0.toNat))) (ry := some (ad (rowC n0.toNat))) (tgt := 20) C.1 C.2.1 dX8_copy_2 (by decide) (fun c2 => ?_) (fun c2 => ?_)
  · have hw := hw.1 (rowC_eq Wd.1 g_x0 h_n0 (Option.some.inj c2))
    exact k_retKv C hr hlk Wd hw dX8_copy_20
  · have hw := hw.2 (rowC_ne (ad := ad) (fun q => c2 (congrArg some q)))
    refine lv_aload_n C.1 C.2.1 dX8_copy_5 rfl (lv_at hl 0 rfl) ?_
    refine lv_iconst (v := zI 0) C.1 C.2.1 dX8_copy_6 (by decide) ?_
    refine k_putRL (n := n0) (v := 0) C Wd h_n0 fl_X8_21 (show rng 0 from by decide) dX8_copy_7 (fun H locs Wd => ?_)
    refine lv_aload_n C.1 C.2.1 dX8_copy_10 rfl (lv_at hl 0 rfl) ?_
    refine lv_aload_n C.1 C.2.1 dX8_copy_11 rfl (lv_at hl 1 rfl) ?_
    refine lv_iconst (v := zI 0) C.1 C.2.1 dX8_copy_12 (by decide) ?_
    refine lv_aload_n C.1 C.2.1 dX8_copy_13 rfl (lv_at hl 1 rfl) ?_
    have gy14 : rng ((uZ (σ.2.2.1 0) n0 0) x0) := rgY (σ := (pY σ 0 n0 0)) (c := 0) Wd.2.1 (N := 35) g_x0
    refine k_get (v := .int (zI ((uZ (σ.2.2.1 0) n0 0) x0))) C Wd.1 KX8 _ 1 (cxRow g_x0) (by decide) fl_X8_21 rfl dX8_copy_14 ?_
    refine k_cKv Wd (k_runVK (rest := []) C aks Wd cs_X8_31 (mk_W_addPart D ad ca rf (pY σ 0 n0 0) Wd.2.1 Wd.2.2 n0 x0 0 ((uZ (σ.2.2.1 0) n0 0) x0) h_n0 g_x0 (show rng 0 from by decide) gy14 _ hw l _) (cxRow h_n0) rfl rfl rfl rfl ⟨(Nat.le_of_ble_eq_true rfl), (Nat.le_of_ble_eq_true rfl)⟩ hl.1 rfl rfl (Nat.le_of_ble_eq_true rfl) ⟨(Nat.le_of_ble_eq_true rfl), (Nat.le_of_ble_eq_true rfl)⟩ dX8_copy_17) (fun σr17 H locs hw Wd => ?_)
    have hS_σr17 := Wd.2.1
    exact k_retKv C hr hlk Wd hw dX8_copy_20
set_option maxHeartbeats 4000000 in
set_option maxRecDepth 100000 in
theorem mk_W_isStatement : ∀ (D : va_G) (x0 : Int) (g_x0 : rng x0) (K : Int → Prop) (hw : wp5_W_isStatement x0 K) (l : Launch) (sz : Nat), Met l yX8_isStatement (Cond.code yX8_isStatement cX8_isStatement 1 (some .boolean) :: gG) { frames := 1, cells := 0, slots := 0, locals := 64 } (cPre D [] [] sz [.int (zI x0)]) (vp_Si (fun r => ∃ x : Int, r = zI x ∧ rng x ∧ K x)) 0 0 (fun _ => False) := by
  intro D x0 g_x0 K hw l sz
  refine Met.ofW (cc := cX8_isStatement) (maxL := 1) (ret := (some .boolean)) (by decide) rfl ?_
  intro p e s m args below meth c s₁ B hml hv
  obtain ⟨rfl, aks, rfl, Wd⟩ := k_enter hv
  have C : CallFix p m c cX8_isStatement 1 s _ gG RX8 := ⟨B.exec, B.bytes, hml, findClass_of_methodNamed B.named, fun w h => atoms_spec (ws := Cond.code yX8_isStatement cX8_isStatement 1 (some .boolean) :: gG) B.pre w (List.mem_cons_of_mem _ h)⟩
  have hr := B.returns
  have hlk := B.notSynchronized
  obtain ⟨A, Wd⟩ : ∃ A, wX D [] s [] s.heap A s.heap [] := ⟨_, Wd⟩
  refine k_locals (Nat.le_of_ble_eq_true rfl) [(0, .int (zI x0))] rfl (fun ls hl => ?_)
  unfold wp5_W_isStatement at hw
  refine lv_iload_n C.1 C.2.1 dX8_isStatement_0 rfl (lv_at hl 0 rfl) ?_
  refine lv_bipush (v := zI 100) C.1 C.2.1 dX8_isStatement_1 (by decide) ?_
  refine k_cut0 (fun H locs ls => wp5_W_isStatement_12 K x0 ∧ wX D [] s [] H A s.heap locs ∧ H = s.heap ∧ locs = [] ∧ lv_has ls 1 [(0, .int (zI x0))]) (fun  ls => F0 m 12 ls []) (fun  H locs ls hi => ?_) (fun J12 => ?_)
  · obtain ⟨hw, Wd, rfl, rfl, hl⟩ := hi
    unfold wp5_W_isStatement_12 at hw
    refine lv_iload_n C.1 C.2.1 dX8_isStatement_12 rfl (lv_at hl 0 rfl) ?_
    refine lv_bipush (v := zI 110) C.1 C.2.1 dX8_isStatement_13 (by decide) ?_
    refine lv_icmp_eq (tgt := 36) C.1 C.2.1 dX8_isStatement_15 (by decide) (fun c15 => ?_) (fun c15 => ?_)
    · have hw := hw.1 (z_eq g_x0 (show rng 110 from by decide) c15)
      refine lv_iconst (v := zI 1) C.1 C.2.1 dX8_isStatement_36 (by decide) ?_
      refine lv_goto (tgt := 41) C.1 C.2.1 dX8_isStatement_37 (by decide) ?_
      exact k_zretP C hr hlk (by decide) ⟨_, rfl, (show rng 1 from by decide), hw⟩ dX8_isStatement_41
    · have hw := hw.2 (z_ne g_x0 (show rng 110 from by decide) c15)
      refine lv_iload_n C.1 C.2.1 dX8_isStatement_18 rfl (lv_at hl 0 rfl) ?_
      refine lv_bipush (v := zI 111) C.1 C.2.1 dX8_isStatement_19 (by decide) ?_
      refine lv_icmp_eq (tgt := 36) C.1 C.2.1 dX8_isStatement_21 (by decide) (fun c21 => ?_) (fun c21 => ?_)
      · have hw := hw.1 (z_eq g_x0 (show rng 111 from by decide) c21)
        refine lv_iconst (v := zI 1) C.1 C.2.1 dX8_isStatement_36 (by decide) ?_
        refine lv_goto (tgt := 41) C.1 C.2.1 dX8_isStatement_37 (by decide) ?_
        exact k_zretP C hr hlk (by decide) ⟨_, rfl, (show rng 1 from by decide), hw⟩ dX8_isStatement_41
      · have hw := hw.2 (z_ne g_x0 (show rng 111 from by decide) c21)
        refine lv_iload_n C.1 C.2.1 dX8_isStatement_24 rfl (lv_at hl 0 rfl) ?_
        refine lv_bipush (v := zI 112) C.1 C.2.1 dX8_isStatement_25 (by decide) ?_
        refine lv_icmp_eq (tgt := 36) C.1 C.2.1 dX8_isStatement_27 (by decide) (fun c27 => ?_) (fun c27 => ?_)
        · have hw := hw.1 (z_eq g_x0 (show rng 112 from by decide) c27)
          refine lv_iconst (v := zI 1) C.1 C.2.1 dX8_isStatement_36 (by decide) ?_
          refine lv_goto (tgt := 41) C.1 C.2.1 dX8_isStatement_37 (by decide) ?_
          exact k_zretP C hr hlk (by decide) ⟨_, rfl, (show rng 1 from by decide), hw⟩ dX8_isStatement_41
        · have hw := hw.2 (z_ne g_x0 (show rng 112 from by decide) c27)
          refine lv_iload_n C.1 C.2.1 dX8_isStatement_30 rfl (lv_at hl 0 rfl) ?_
          refine lv_bipush (v := zI 115) C.1 C.2.1 dX8_isStatement_31 (by decide) ?_
          refine lv_icmp_ne (tgt := 40) C.1 C.2.1 dX8_isStatement_33 (by decide) (fun c33 => ?_) (fun c33 => ?_)
          · have hw := hw.1 (z_ne g_x0 (show rng 115 from by decide) c33)
            refine lv_iconst (v := zI 0) C.1 C.2.1 dX8_isStatement_40 (by decide) ?_
            exact k_zretP C hr hlk (by decide) ⟨_, rfl, (show rng 0 from by decide), hw⟩ dX8_isStatement_41
          · have hw := hw.2 (z_eq g_x0 (show rng 115 from by decide) c33)
            refine lv_iconst (v := zI 1) C.1 C.2.1 dX8_isStatement_36 (by decide) ?_
            refine lv_goto (tgt := 41) C.1 C.2.1 dX8_isStatement_37 (by decide) ?_
            exact k_zretP C hr hlk (by decide) ⟨_, rfl, (show rng 1 from by decide), hw⟩ dX8_isStatement_41
  refine lv_icmp_lt (tgt := 12) C.1 C.2.1 dX8_isStatement_3 (by decide) (fun c3 => ?_) (fun c3 => ?_)
  · have hw := hw.1 (z_lt g_x0 (show rng 100 from by decide) c3)
    exact J12  _ _ _ ⟨hw, Wd, rfl, rfl, lv_sub hl [0] rfl⟩
  · have hw := hw.2 (z_nlt g_x0 (show rng 100 from by decide) c3)
    refine lv_iload_n C.1 C.2.1 dX8_isStatement_6 rfl (lv_at hl 0 rfl) ?_
    refine lv_bipush (v := zI 106) C.1 C.2.1 dX8_isStatement_7 (by decide) ?_
    refine lv_icmp_lt (tgt := 36) C.1 C.2.1 dX8_isStatement_9 (by decide) (fun c9 => ?_) (fun c9 => ?_)
    · have hw := hw.1 (z_lt g_x0 (show rng 106 from by decide) c9)
      refine lv_iconst (v := zI 1) C.1 C.2.1 dX8_isStatement_36 (by decide) ?_
      refine lv_goto (tgt := 41) C.1 C.2.1 dX8_isStatement_37 (by decide) ?_
      exact k_zretP C hr hlk (by decide) ⟨_, rfl, (show rng 1 from by decide), hw⟩ dX8_isStatement_41
    · have hw := hw.2 (z_nlt g_x0 (show rng 106 from by decide) c9)
      exact J12  _ _ _ ⟨hw, Wd, rfl, rfl, lv_sub hl [0] rfl⟩
set_option maxHeartbeats 4000000 in
set_option maxRecDepth 100000 in
theorem mk_W_statements : ∀ (D : va_G) (ad : Nat → Nat) (ca : Nat → ClassId) (rf : Nat → Nat → Option Nat) (σ : Sg) (hS : rngK σ) (hRF : RFok ad rf) (n0 : Int) (h_n0 : 0 ≤ n0 ∧ n0 < 35) (K : Int → Prop) (hw : wp5_W_statements σ n0 K) (l : Launch) (sz : Nat), Met l yX8_statements (Cond.code yX8_statements cX8_statements 3 (some .int) :: gG) { frames := 2, cells := 0, slots := 0, locals := 84 } (cPre D (tC ca) (wK ad ca rf σ) sz [.ref (ad (rowC n0.toNat))]) (vp_Si (fun r => ∃ x : Int, r = zI x ∧ rng x ∧ K x)) 0 0 (fun _ => False) := by
  intro D ad ca rf σ hS hRF n0 h_n0 K hw l sz
  refine Met.ofW (cc := cX8_statements) (maxL := 3) (ret := (some .int)) (by decide) rfl ?_
  intro p e s m args below meth c s₁ B hml hv
  obtain ⟨rfl, aks, rfl, Wd⟩ := k_enter hv
  have C : CallFix p m c cX8_statements 3 s _ gG RX8 := ⟨B.exec, B.bytes, hml, findClass_of_methodNamed B.named, fun w h => atoms_spec (ws := Cond.code yX8_statements cX8_statements 3 (some .int) :: gG) B.pre w (List.mem_cons_of_mem _ h)⟩
  have hr := B.returns
  have hlk := B.notSynchronized
  obtain ⟨A, Wd⟩ : ∃ A, wXK D ad ca rf s σ s.heap A s.heap [] := ⟨_, Wd, hS, hRF⟩
  refine k_locals (Nat.le_of_ble_eq_true rfl) [(0, .ref (ad (rowC n0.toNat)))] rfl (fun ls hl => ?_)
  unfold wp5_W_statements at hw
  refine lv_iconst (v := zI 0) C.1 C.2.1 dX8_statements_0 (by decide) ?_
  refine lv_istore_n (lv' := [(1, .int (zI 0)), (0, .ref (ad (rowC n0.toNat)))]) C.1 C.2.1 dX8_statements_1 rfl hl (by decide) rfl (fun ls hl => ?_)
  replace hl := lv_sub hl [1, 0] rfl
  refine lv_iconst (v := zI 0) C.1 C.2.1 dX8_statements_2 (by decide) ?_
  refine lv_istore_n (lv' := [(2, .int (zI 0)), (0, .ref (ad (rowC n0.toNat))), (1, .int (zI 0))]) C.1 C.2.1 dX8_statements_3 rfl hl (by decide) rfl (fun ls hl => ?_)
  replace hl := lv_sub hl [1, 2, 0] rfl
  refine k_lp2 hw (fun (l1_4 : Int) (l2_4 : Int) H locs ls => rng l1_4 ∧ rng l2_4 ∧ wXK D ad ca rf s σ H A s.heap locs ∧ H = s.heap ∧ locs = [] ∧ lv_has ls 3 [(0, .ref (ad (rowC n0.toNat))), (1, .int (zI l1_4)), (2, .int (zI l2_4))]) (fun (l1_4 : Int) (l2_4 : Int) ls => F0 m 4 ls []) (fun L4 hL4 l1_4 l2_4 hw H locs ls hi => ?_) _ _ _ ⟨(show rng 0 from by decide), (show rng 0 from by decide), Wd, rfl, rfl, lv_sub hl [0, 1, 2] rfl⟩
  obtain ⟨g_l1_4, g_l2_4, Wd, rfl, rfl, hl⟩ := hi
  unfold wp5_W_statements_4 at hw
  refine lv_iload_n C.1 C.2.1 dX8_statements_4 rfl (lv_at hl 2 rfl) ?_
  refine lv_aload_n C.1 C.2.1 dX8_statements_5 rfl (lv_at hl 0 rfl) ?_
  refine k_get (v := .int (zI (σ.2.2.1 0 n0))) C Wd.1 KX8 _ 1 (cxRow h_n0) (by decide) fl_X8_21 rfl dX8_statements_6 ?_
  refine lv_icmp_ge (tgt := 33) C.1 C.2.1 dX8_statements_9 (by decide) (fun c9 => ?_) (fun c9 => ?_)
  · have hw := hw.1 (z_le (rgY hS (N := 35) h_n0) g_l2_4 c9)
    refine lv_iload_n C.1 C.2.1 dX8_statements_33 rfl (lv_at hl 1 rfl) ?_
    exact k_zretP C hr hlk rfl ⟨_, rfl, g_l1_4, hw⟩ dX8_statements_34
  · have hw := hw.2 (z_nle (rgY hS (N := 35) h_n0) g_l2_4 c9)
    refine lv_aload_n C.1 C.2.1 dX8_statements_12 rfl (lv_at hl 0 rfl) ?_
    refine k_get (v := .ref (ad ((rowC n0.toNat) + 1))) C Wd.1 KX8 _ 0 (cxRow h_n0) (by decide) fl_X8_15 rfl dX8_statements_13 ?_
    refine lv_iload_n C.1 C.2.1 dX8_statements_16 rfl (lv_at hl 2 rfl) ?_
    obtain ⟨n17_0, hw⟩ := hw
    refine k_ialdK (g := (σ.2.2.2 0 n0)) C Wd (cxRowc h_n0) (tyR h_n0) (capN n17_0) (capL _) dX8_statements_17 ?_
    have ga17 : rng (σ.2.2.2 0 n0 l2_4) := rngL (rgZ (c := 0) Wd.2.1 h_n0) n17_0
    refine k_pi (k_runS (rest := []) C aks Wd.1 cs_X8_35 (mk_W_isStatement D (σ.2.2.2 0 n0 l2_4) ga17 _ hw l _) [] rfl (by decide) [] rfl rfl rfl ⟨(Nat.le_of_ble_eq_true rfl), (Nat.le_of_ble_eq_true rfl)⟩ hl.1 rfl rfl (Nat.le_of_ble_eq_true rfl) ⟨(Nat.le_of_ble_eq_true rfl), (Nat.le_of_ble_eq_true rfl)⟩ dX8_statements_18) (fun y18 hy => ?_)
    obtain ⟨r18, rfl, g_r18, hw⟩ := hy
    refine lv_if_eq (tgt := 27) C.1 C.2.1 dX8_statements_21 (by decide) (fun c21 => ?_) (fun c21 => ?_)
    · have hw := hw.1 (z0_eq g_r18 c21)
      refine lv_iinc (v := zI (l2_4 + 1)) (lv' := [(2, .int (zI (l2_4 + 1))), (0, .ref (ad (rowC n0.toNat))), (1, .int (zI l1_4))]) C.1 C.2.1 dX8_statements_27 hl (k := 2) rfl (zI_inc _ _ (by decide)) (by decide) rfl (fun ls hl => ?_)
      replace hl := lv_sub hl [1, 2, 0] rfl
      refine lv_goto (tgt := 4) C.1 C.2.1 dX8_statements_30 (by decide) ?_
      obtain ⟨g30_4, hw⟩ := hw
      exact hL4 _ _ hw _ _ _ ⟨g_l1_4, g30_4, Wd, rfl, rfl, lv_sub hl [0, 1, 2] rfl⟩
    · have hw := hw.2 (z0_ne g_r18 c21)
      refine lv_iinc (v := zI (l1_4 + 1)) (lv' := [(1, .int (zI (l1_4 + 1))), (0, .ref (ad (rowC n0.toNat))), (2, .int (zI l2_4))]) C.1 C.2.1 dX8_statements_24 hl (k := 1) rfl (zI_inc _ _ (by decide)) (by decide) rfl (fun ls hl => ?_)
      replace hl := lv_sub hl [1, 0, 2] rfl
      refine lv_iinc (v := zI (l2_4 + 1)) (lv' := [(2, .int (zI (l2_4 + 1))), (0, .ref (ad (rowC n0.toNat))), (1, .int (zI (l1_4 + 1)))]) C.1 C.2.1 dX8_statements_27 hl (k := 2) rfl (zI_inc _ _ (by decide)) (by decide) rfl (fun ls hl => ?_)
      replace hl := lv_sub hl [1, 2, 0] rfl
      refine lv_goto (tgt := 4) C.1 C.2.1 dX8_statements_30 (by decide) ?_
      obtain ⟨g30_5, hw⟩ := hw
      obtain ⟨g30_6, hw⟩ := hw
      exact hL4 _ _ hw _ _ _ ⟨g30_5, g30_6, Wd, rfl, rfl, lv_sub hl [0, 1, 2] rfl⟩
set_option maxHeartbeats 4000000 in
set_option maxRecDepth 100000 in
theorem mk_S_program : ∀ (D : va_G) (ad : Nat → Nat) (ca : Nat → ClassId) (rf : Nat → Nat → Option Nat) (σ : Sg) (hS : rngK σ) (hRF : RFok ad rf) (adK adV : Nat → Nat) (tq : Nat) (x0 : Int) (g_x0 : rng x0) (K : Int → Sg → Prop) (hw : wp5_S_program σ x0 K) (l : Launch) (sz : Nat), Met l yX11_program (Cond.code yX11_program cX11_program 3 (some .int) :: gG) { frames := 9, cells := 0, slots := 0, locals := 386 } (cPS RX10 ixT adK adV tq D (tC ca) (wK ad ca rf σ) sz [.ref (ad 0), .int (zI x0)]) (va_Qi (fun (r : Int32) (u : Sg) => (∃ x : Int, r = zI x ∧ rng x ∧ K x u) ∧ rngK u) (fun u t => cB D (va_A (wK ad ca rf σ) sz) [] (wK ad ca rf u) t) (va_A (wK ad ca rf σ) sz)) 0 0 (va_A (wK ad ca rf σ) sz) := by
  intro D ad ca rf σ hS hRF adK adV tq x0 g_x0 K hw l sz
  refine Met.ofW (cc := cX11_program) (maxL := 3) (ret := (some .int)) (by decide) rfl ?_
  intro p e s m args below meth c s₁ B hml hv
  obtain ⟨hv, hE⟩ := hv
  obtain ⟨rfl, aks, rfl, Wd⟩ := k_enter hv
  have C : CallFix p m c cX11_program 3 s _ gG RX11 := ⟨B.exec, B.bytes, hml, findClass_of_methodNamed B.named, fun w h => atoms_spec (ws := Cond.code yX11_program cX11_program 3 (some .int) :: gG) B.pre w (List.mem_cons_of_mem _ h)⟩
  have hr := B.returns
  have hlk := B.notSynchronized
  generalize va_A (wK ad ca rf σ) s.heap.size = A at Wd hE ⊢
  replace Wd : wXK D ad ca rf s σ s.heap A s.heap [] := ⟨Wd, hS, hRF⟩
  refine k_locals (Nat.le_of_ble_eq_true rfl) [(0, .ref (ad 0)), (1, .int (zI x0))] rfl (fun ls hl => ?_)
  unfold wp5_S_program at hw
  refine lv_aload_n C.1 C.2.1 dX11_program_0 rfl (lv_at hl 0 rfl) ?_
  refine lv_iload_n C.1 C.2.1 dX11_program_1 rfl (lv_at hl 1 rfl) ?_
  refine k_pq (k_runVK (rest := []) C aks Wd cs_X11_77 (mk_S_slotAt D ad ca rf σ Wd.2.1 Wd.2.2 x0 g_x0 _ hw l _) (cx0 _) rfl rfl rfl rfl ⟨(Nat.le_of_ble_eq_true rfl), (Nat.le_of_ble_eq_true rfl)⟩ hl.1 rfl rfl (Nat.le_of_ble_eq_true rfl) ⟨(Nat.le_of_ble_eq_true rfl), (Nat.le_of_ble_eq_true rfl)⟩ dX11_program_2) (fun y2 hy => ?_)
  obtain ⟨r2, rfl, hw⟩ := hy
  by_cases c2 : r2 < 0
  · have hw := hw.1 c2
    rw [rfO_null c2]
    show W p l e _ s m _ below meth c _ _ _ _ _ (F0 m _ ls (.null :: []))
    refine lv_astore_nN (lv' := [(2, .null), (0, .ref (ad 0)), (1, .int (zI x0))]) C.1 C.2.1 dX11_program_5 rfl hl (by decide) rfl (fun ls hl => ?_)
    replace hl := lv_sub hl [1, 2, 0] rfl
    refine lv_aload_nN C.1 C.2.1 dX11_program_6 rfl (lv_at hl 2 rfl) ?_
    refine lv_ifnonnullN C.1 C.2.1 dX11_program_7 ?_
    refine lv_aload_n C.1 C.2.1 dX11_program_10 rfl (lv_at hl 0 rfl) ?_
    refine k_get (v := .ref (ad 2)) C Wd.1 KX11 _ 3 (cx0 _) (by decide) fl_X11_29 rfl dX11_program_11 ?_
    refine k_cKv Wd (k_runVK (rest := []) C aks Wd cs_X11_81 (mk_R_drop D ad ca rf σ Wd.2.1 Wd.2.2   _ hw l _) (cx2 _) rfl rfl rfl rfl ⟨(Nat.le_of_ble_eq_true rfl), (Nat.le_of_ble_eq_true rfl)⟩ hl.1 rfl rfl (Nat.le_of_ble_eq_true rfl) ⟨(Nat.le_of_ble_eq_true rfl), (Nat.le_of_ble_eq_true rfl)⟩ dX11_program_14) (fun σr14 H locs hw Wd => ?_)
    have hS_σr14 := Wd.2.1
    refine lv_iconst (v := zI (-1)) C.1 C.2.1 dX11_program_17 (by decide) ?_
    exact k_retKi C hr hlk rfl Wd ⟨_, rfl, (show rng (-1) from by decide), hw⟩ dX11_program_18
  · have hw := hw.2 (Int.not_lt.mp c2)
    rw [rfO_nn (Int.not_lt.mp c2)]
    obtain ⟨n2_0, hw⟩ := hw
    show W p l e _ s m _ below meth c _ _ _ _ _ (F0 m _ ls (.ref (ad (rowC r2.toNat)) :: []))
    refine lv_astore_n (lv' := [(2, .ref (ad (rowC r2.toNat))), (0, .ref (ad 0)), (1, .int (zI x0))]) C.1 C.2.1 dX11_program_5 rfl hl (by decide) rfl (fun ls hl => ?_)
    replace hl := lv_sub hl [1, 2, 0] rfl
    refine lv_aload_n C.1 C.2.1 dX11_program_6 rfl (lv_at hl 2 rfl) ?_
    refine lv_ifnonnull (tgt := 19) C.1 C.2.1 dX11_program_7 (by decide) ?_
    refine lv_aload_n C.1 C.2.1 dX11_program_19 rfl (lv_at hl 0 rfl) ?_
    refine k_get (v := .ref (ad 2)) C Wd.1 KX11 _ 3 (cx0 _) (by decide) fl_X11_29 rfl dX11_program_20 ?_
    refine lv_aload_n C.1 C.2.1 dX11_program_23 rfl (lv_at hl 0 rfl) ?_
    refine k_get (v := .ref (ad 117)) C Wd.1 KX11 _ 2 (cx0 _) (by decide) fl_X11_22 rfl dX11_program_24 ?_
    refine k_cKv Wd (k_runVK (rest := []) C aks Wd cs_X11_84 (mk_R_beginProgram D ad ca rf σ Wd.2.1 Wd.2.2 8 (show (0 : Int) ≤ 8 ∧ (8 : Int) < 35 from by decide) _ hw l _) (cx2 _) rfl rfl rfl rfl ⟨(Nat.le_of_ble_eq_true rfl), (Nat.le_of_ble_eq_true rfl)⟩ hl.1 rfl rfl (Nat.le_of_ble_eq_true rfl) ⟨(Nat.le_of_ble_eq_true rfl), (Nat.le_of_ble_eq_true rfl)⟩ dX11_program_27) (fun σr27 H locs hw Wd => ?_)
    have hS_σr27 := Wd.2.1
    refine lv_aload_n C.1 C.2.1 dX11_program_30 rfl (lv_at hl 0 rfl) ?_
    refine k_get (v := .ref (ad 2)) C Wd.1 KX11 _ 3 (cx0 _) (by decide) fl_X11_29 rfl dX11_program_31 ?_
    refine k_cKi Wd (k_runVKS (rest := []) C aks hE Wd cs_X11_88 (mk_R_readAll D ad ca rf σr27 Wd.2.1 Wd.2.2 adK adV tq   _ hw l _) (cx2 _) rfl rfl rfl rfl ⟨(Nat.le_of_ble_eq_true rfl), (Nat.le_of_ble_eq_true rfl)⟩ hl.1 rfl rfl (Nat.le_of_ble_eq_true rfl) ⟨(Nat.le_of_ble_eq_true rfl), (Nat.le_of_ble_eq_true rfl)⟩ dX11_program_34) (fun r34 σr34 H locs g_r34 hw Wd => ?_)
    have hS_σr34 := Wd.2.1
    refine lv_if_ne (tgt := 42) C.1 C.2.1 dX11_program_37 (by decide) (fun c37 => ?_) (fun c37 => ?_)
    · have hw := hw.1 (z0_ne g_r34 c37)
      refine lv_aload_n C.1 C.2.1 dX11_program_42 rfl (lv_at hl 2 rfl) ?_
      refine lv_aload_n C.1 C.2.1 dX11_program_43 rfl (lv_at hl 0 rfl) ?_
      refine k_get (v := .ref (ad 117)) C Wd.1 KX11 _ 2 (cx0 _) (by decide) fl_X11_22 rfl dX11_program_44 ?_
      refine k_cKv Wd (k_runVK (rest := []) C aks Wd cs_X11_92 (mk_W_copy D ad ca rf σr34 Wd.2.1 Wd.2.2 r2 8 n2_0 (show (0 : Int) ≤ 8 ∧ (8 : Int) < 35 from by decide) _ hw l _) (cxRow n2_0) rfl rfl rfl rfl ⟨(Nat.le_of_ble_eq_true rfl), (Nat.le_of_ble_eq_true rfl)⟩ hl.1 rfl rfl (Nat.le_of_ble_eq_true rfl) ⟨(Nat.le_of_ble_eq_true rfl), (Nat.le_of_ble_eq_true rfl)⟩ dX11_program_47) (fun σr47 H locs hw Wd => ?_)
      have hS_σr47 := Wd.2.1
      refine lv_aload_n C.1 C.2.1 dX11_program_50 rfl (lv_at hl 2 rfl) ?_
      refine k_pi (k_runVK (rest := []) C aks Wd cs_X11_95 (mk_W_statements D ad ca rf σr47 Wd.2.1 Wd.2.2 r2 n2_0 _ hw l _) (cxRow n2_0) rfl rfl rfl rfl ⟨(Nat.le_of_ble_eq_true rfl), (Nat.le_of_ble_eq_true rfl)⟩ hl.1 rfl rfl (Nat.le_of_ble_eq_true rfl) ⟨(Nat.le_of_ble_eq_true rfl), (Nat.le_of_ble_eq_true rfl)⟩ dX11_program_51) (fun y51 hy => ?_)
      obtain ⟨r51, rfl, g_r51, hw⟩ := hy
      exact k_retKi C hr hlk rfl Wd ⟨_, rfl, g_r51, hw⟩ dX11_program_54
    · have hw := hw.2 (z0_eq g_r34 c37)
      refine lv_iconst (v := zI (-1)) C.1 C.2.1 dX11_program_40 (by decide) ?_
      exact k_retKi C hr hlk rfl Wd ⟨_, rfl, (show rng (-1) from by decide), hw⟩ dX11_program_41
set_option maxHeartbeats 4000000 in
set_option maxRecDepth 100000 in
theorem mk_P_ruleAt : ∀ (D : va_G) (ad : Nat → Nat) (ca : Nat → ClassId) (rf : Nat → Nat → Option Nat) (σ : Sg) (hS : rngK σ) (hRF : RFok ad rf) (x0 : Int) (g_x0 : rng x0) (K : Int → Prop) (hw : wp5_P_ruleAt σ x0 K) (l : Launch) (sz : Nat), Met l yX4_ruleAt (Cond.code yX4_ruleAt cX4_ruleAt 2 (some (.object "SameAfter$Rule")) :: gG) { frames := 1, cells := 0, slots := 0, locals := 64 } (cPre D (tC ca) (wK ad ca rf σ) sz [.ref (ad 31), .int (zI x0)]) (va_Sq (fun r => ∃ n : Int, r = rfO ruleC ad n ∧ K n)) 0 0 (fun _ => False) := by
  intro D ad ca rf σ hS hRF x0 g_x0 K hw l sz
  refine Met.ofW (cc := cX4_ruleAt) (maxL := 2) (ret := (some (.object "SameAfter$Rule"))) (by decide) rfl ?_
  intro p e s m args below meth c s₁ B hml hv
  obtain ⟨rfl, aks, rfl, Wd⟩ := k_enter hv
  have C : CallFix p m c cX4_ruleAt 2 s _ gG RX4 := ⟨B.exec, B.bytes, hml, findClass_of_methodNamed B.named, fun w h => atoms_spec (ws := Cond.code yX4_ruleAt cX4_ruleAt 2 (some (.object "SameAfter$Rule")) :: gG) B.pre w (List.mem_cons_of_mem _ h)⟩
  have hr := B.returns
  have hlk := B.notSynchronized
  obtain ⟨A, Wd⟩ : ∃ A, wXK D ad ca rf s σ s.heap A s.heap [] := ⟨_, Wd, hS, hRF⟩
  refine k_locals (Nat.le_of_ble_eq_true rfl) [(0, .ref (ad 31)), (1, .int (zI x0))] rfl (fun ls hl => ?_)
  unfold wp5_P_ruleAt at hw
  refine lv_iload_n C.1 C.2.1 dX4_ruleAt_0 rfl (lv_at hl 1 rfl) ?_
  refine lv_if_lt (tgt := 22) C.1 C.2.1 dX4_ruleAt_1 (by decide) (fun c1 => ?_) (fun c1 => ?_)
  · have hw := hw.1 (z0_lt g_x0 c1)
    refine lv_null C.1 C.2.1 dX4_ruleAt_22 ?_
    exact k_aretP none rfl C hr hlk ⟨(-1), rfl, hw⟩ dX4_ruleAt_23
  · have hw := hw.2 (z0_nlt g_x0 c1)
    refine lv_iload_n C.1 C.2.1 dX4_ruleAt_4 rfl (lv_at hl 1 rfl) ?_
    refine lv_aload_n C.1 C.2.1 dX4_ruleAt_5 rfl (lv_at hl 0 rfl) ?_
    refine k_get (v := .ref (ad 67)) C Wd.1 KX4 _ 5 (cx31 _) (by decide) fl_X4_11 rfl dX4_ruleAt_6 ?_
    refine k_alen (v := zI 12) C Wd.1 67 67 (cx67 _) (tC_at' (by decide)) rfl dX4_ruleAt_9 ?_
    refine lv_icmp_ge (tgt := 22) C.1 C.2.1 dX4_ruleAt_10 (by decide) (fun c10 => ?_) (fun c10 => ?_)
    · have hw := hw.1 (z_le (show rng 12 from by decide) g_x0 c10)
      refine lv_null C.1 C.2.1 dX4_ruleAt_22 ?_
      exact k_aretP none rfl C hr hlk ⟨(-1), rfl, hw⟩ dX4_ruleAt_23
    · have hw := hw.2 (z_nle (show rng 12 from by decide) g_x0 c10)
      refine lv_aload_n C.1 C.2.1 dX4_ruleAt_13 rfl (lv_at hl 0 rfl) ?_
      refine k_get (v := .ref (ad 67)) C Wd.1 KX4 _ 5 (cx31 _) (by decide) fl_X4_11 rfl dX4_ruleAt_14 ?_
      refine lv_iload_n C.1 C.2.1 dX4_ruleAt_17 rfl (lv_at hl 1 rfl) ?_
      obtain ⟨n18_0, hw⟩ := hw
      refine k_rule (i := x0) C Wd n18_0 dX4_ruleAt_18 ?_
      refine lv_goto (tgt := 23) C.1 C.2.1 dX4_ruleAt_19 (by decide) ?_
      exact k_aretP (some (ad (ruleC x0.toNat))) rfl C hr hlk ⟨x0, (rfO_ref n18_0).symm, hw⟩ dX4_ruleAt_23
set_option maxHeartbeats 4000000 in
set_option maxRecDepth 100000 in
theorem mk_U_forget : ∀ (D : va_G) (ad : Nat → Nat) (ca : Nat → ClassId) (rf : Nat → Nat → Option Nat) (σ : Sg) (hS : rngK σ) (hRF : RFok ad rf) (n0 : Int) (h_n0 : 0 ≤ n0 ∧ n0 < 12) (K : Sg → Prop) (hw : wp5_U_forget σ n0 K) (l : Launch) (sz : Nat), Met l yX9_forget (Cond.code yX9_forget cX9_forget 1 none :: gG) { frames := 1, cells := 0, slots := 0, locals := 64 } (cPre D (tC ca) (wK ad ca rf σ) sz [.ref (ad (ruleC n0.toNat))]) (va_Qv (fun (u : Sg) => K u ∧ rngK u) (fun u t => cB D (va_A (wK ad ca rf σ) sz) [] (wK ad ca rf u) t) (va_A (wK ad ca rf σ) sz)) 0 0 (va_A (wK ad ca rf σ) sz) := by
  intro D ad ca rf σ hS hRF n0 h_n0 K hw l sz
  refine Met.ofW (cc := cX9_forget) (maxL := 1) (ret := none) (by decide) rfl ?_
  intro p e s m args below meth c s₁ B hml hv
  obtain ⟨rfl, aks, rfl, Wd⟩ := k_enter hv
  have C : CallFix p m c cX9_forget 1 s _ gG RX9 := ⟨B.exec, B.bytes, hml, findClass_of_methodNamed B.named, fun w h => atoms_spec (ws := Cond.code yX9_forget cX9_forget 1 none :: gG) B.pre w (List.mem_cons_of_mem _ h)⟩
  have hr := B.returns
  have hlk := B.notSynchronized
  generalize va_A (wK ad ca rf σ) s.heap.size = A at Wd ⊢
  replace Wd : wXK D ad ca rf s σ s.heap A s.heap [] := ⟨Wd, hS, hRF⟩
  refine k_locals (Nat.le_of_ble_eq_true rfl) [(0, .ref (ad (ruleC n0.toNat)))] rfl (fun ls hl => ?_)
  unfold wp5_U_forget at hw
  refine lv_aload_n C.1 C.2.1 dX9_forget_0 rfl (lv_at hl 0 rfl) ?_
  have nr1 : 0 ≤ (11 + 2 * n0) ∧ (11 + 2 * n0) < 35 := by omega
  refine k_get (v := .ref (ad (rowC (11 + 2 * n0).toNat))) C Wd.1 KX9 _ 0 (cxRule h_n0) (by decide) fl_X9_14 rfl dX9_forget_1 ?_
  refine lv_iconst (v := zI 0) C.1 C.2.1 dX9_forget_4 (by decide) ?_
  refine k_putRL (n := (11 + 2 * n0)) (v := 0) C Wd nr1 fl_X9_34 (show rng 0 from by decide) dX9_forget_5 (fun H locs Wd => ?_)
  refine lv_aload_n C.1 C.2.1 dX9_forget_8 rfl (lv_at hl 0 rfl) ?_
  have nr9 : 0 ≤ (12 + 2 * n0) ∧ (12 + 2 * n0) < 35 := by omega
  refine k_get (v := .ref (ad (rowC (12 + 2 * n0).toNat))) C Wd.1 KX9 _ 1 (cxRule h_n0) (by decide) fl_X9_20 rfl dX9_forget_9 ?_
  refine lv_iconst (v := zI 0) C.1 C.2.1 dX9_forget_12 (by decide) ?_
  refine k_putRL (n := (12 + 2 * n0)) (v := 0) C Wd nr9 fl_X9_34 (show rng 0 from by decide) dX9_forget_13 (fun H locs Wd => ?_)
  refine lv_aload_n C.1 C.2.1 dX9_forget_16 rfl (lv_at hl 0 rfl) ?_
  refine lv_iconst (v := zI 0) C.1 C.2.1 dX9_forget_17 (by decide) ?_
  refine k_putLT (n := n0) (v := 0) C Wd h_n0 fl_X9_30 (show rng 0 from by decide) dX9_forget_18 (fun H locs Wd => ?_)
  exact k_retKv C hr hlk Wd hw dX9_forget_21
set_option maxHeartbeats 4000000 in
set_option maxRecDepth 100000 in
theorem mk_R_begin : ∀ (D : va_G) (ad : Nat → Nat) (ca : Nat → ClassId) (rf : Nat → Nat → Option Nat) (σ : Sg) (hS : rngK σ) (hRF : RFok ad rf) (x0 : Int) (x1 : Int) (x2 : Int) (g_x0 : 0 ≤ x0 ∧ x0 < 35) (g_x1 : 0 ≤ x1 ∧ x1 < 12) (g_x2 : rng x2) (K : Sg → Prop) (hw : wp5_R_begin σ x0 x1 x2 K) (l : Launch) (sz : Nat), Met l yX6_begin (Cond.code yX6_begin cX6_begin 4 none :: gG) { frames := 2, cells := 0, slots := 0, locals := 84 } (cPre D (tC ca) (wK ad ca rf σ) sz [.ref (ad 2), .ref (ad (rowC x0.toNat)), .ref (ad (ruleC x1.toNat)), .int (zI x2)]) (va_Qv (fun (u : Sg) => K u ∧ rngK u) (fun u t => cB D (va_A (wK ad ca rf σ) sz) [] (wK ad ca rf u) t) (va_A (wK ad ca rf σ) sz)) 0 0 (va_A (wK ad ca rf σ) sz) := by
  intro D ad ca rf σ hS hRF x0 x1 x2 g_x0 g_x1 g_x2 K hw l sz
  refine Met.ofW (cc := cX6_begin) (maxL := 4) (ret := none) (by decide) rfl ?_
  intro p e s m args below meth c s₁ B hml hv
  obtain ⟨rfl, aks, rfl, Wd⟩ := k_enter hv
  have C : CallFix p m c cX6_begin 4 s _ gG RX6 := ⟨B.exec, B.bytes, hml, findClass_of_methodNamed B.named, fun w h => atoms_spec (ws := Cond.code yX6_begin cX6_begin 4 none :: gG) B.pre w (List.mem_cons_of_mem _ h)⟩
  have hr := B.returns
  have hlk := B.notSynchronized
  generalize va_A (wK ad ca rf σ) s.heap.size = A at Wd ⊢
  replace Wd : wXK D ad ca rf s σ s.heap A s.heap [] := ⟨Wd, hS, hRF⟩
  refine k_locals (Nat.le_of_ble_eq_true rfl) [(0, .ref (ad 2)), (1, .ref (ad (rowC x0.toNat))), (2, .ref (ad (ruleC x1.toNat))), (3, .int (zI x2))] rfl (fun ls hl => ?_)
  unfold wp5_R_begin at hw
  refine lv_aload_n C.1 C.2.1 dX6_begin_0 rfl (lv_at hl 0 rfl) ?_
  refine lv_iconst (v := zI 0) C.1 C.2.1 dX6_begin_1 (by decide) ?_
  refine k_putK (v := 0) C Wd KX6 2 1 (by decide) (cx2 _) rfl (by decide) fl_X6_37 rfl rfl rfl (Nat.le_of_ble_eq_true rfl) (show rng 0 from by decide) dX6_begin_2 (fun H locs Wd => ?_)
  refine lv_aload_n C.1 C.2.1 dX6_begin_5 rfl (lv_at hl 0 rfl) ?_
  refine lv_iconst (v := zI (-1)) C.1 C.2.1 dX6_begin_6 (by decide) ?_
  refine k_putK (v := (-1)) C Wd KX6 2 2 (by decide) (cx2 _) rfl (by decide) fl_X6_41 rfl rfl rfl (Nat.le_of_ble_eq_true rfl) (show rng (-1) from by decide) dX6_begin_7 (fun H locs Wd => ?_)
  refine lv_aload_n C.1 C.2.1 dX6_begin_10 rfl (lv_at hl 0 rfl) ?_
  refine lv_aload_n C.1 C.2.1 dX6_begin_11 rfl (lv_at hl 1 rfl) ?_
  refine k_putRow (n := x0) C Wd g_x0 fl_X6_23 dX6_begin_12 (fun H locs Wd => ?_)
  refine lv_aload_n C.1 C.2.1 dX6_begin_15 rfl (lv_at hl 0 rfl) ?_
  refine k_get (v := .ref (ad (rowC x0.toNat))) C Wd.1 KX6 _ 3 (cx2 _) (by decide) fl_X6_23 (congrArg some (rvR_ref g_x0)) dX6_begin_16 ?_
  refine lv_iconst (v := zI 0) C.1 C.2.1 dX6_begin_19 (by decide) ?_
  refine k_putRL (n := x0) (v := 0) C Wd g_x0 fl_X6_66 (show rng 0 from by decide) dX6_begin_20 (fun H locs Wd => ?_)
  refine lv_aload_n C.1 C.2.1 dX6_begin_23 rfl (lv_at hl 0 rfl) ?_
  refine lv_aload_n C.1 C.2.1 dX6_begin_24 rfl (lv_at hl 2 rfl) ?_
  refine k_putRule (n := x1) C Wd g_x1 fl_X6_69 dX6_begin_25 (fun H locs Wd => ?_)
  refine lv_aload_n C.1 C.2.1 dX6_begin_28 rfl (lv_at hl 0 rfl) ?_
  refine lv_iconst (v := zI 0) C.1 C.2.1 dX6_begin_29 (by decide) ?_
  refine k_putK (v := 0) C Wd KX6 2 7 (by decide) (cx2 _) rfl (by decide) fl_X6_73 rfl rfl rfl (Nat.le_of_ble_eq_true rfl) (show rng 0 from by decide) dX6_begin_30 (fun H locs Wd => ?_)
  refine lv_aload_n C.1 C.2.1 dX6_begin_33 rfl (lv_at hl 0 rfl) ?_
  refine lv_iconst (v := zI 0) C.1 C.2.1 dX6_begin_34 (by decide) ?_
  refine k_putK (v := 0) C Wd KX6 2 8 (by decide) (cx2 _) rfl (by decide) fl_X6_76 rfl rfl rfl (Nat.le_of_ble_eq_true rfl) (show rng 0 from by decide) dX6_begin_35 (fun H locs Wd => ?_)
  refine lv_aload_n C.1 C.2.1 dX6_begin_38 rfl (lv_at hl 0 rfl) ?_
  refine lv_iload_n C.1 C.2.1 dX6_begin_39 rfl (lv_at hl 3 rfl) ?_
  refine k_putK (v := x2) C Wd KX6 2 9 (by decide) (cx2 _) rfl (by decide) fl_X6_79 rfl rfl rfl (Nat.le_of_ble_eq_true rfl) g_x2 dX6_begin_40 (fun H locs Wd => ?_)
  refine lv_aload_n C.1 C.2.1 dX6_begin_43 rfl (lv_at hl 0 rfl) ?_
  refine lv_iconst (v := zI 0) C.1 C.2.1 dX6_begin_44 (by decide) ?_
  refine k_putK (v := 0) C Wd KX6 2 13 (by decide) (cx2 _) rfl (by decide) fl_X6_82 rfl rfl rfl (Nat.le_of_ble_eq_true rfl) (show rng 0 from by decide) dX6_begin_45 (fun H locs Wd => ?_)
  refine lv_aload_n C.1 C.2.1 dX6_begin_48 rfl (lv_at hl 0 rfl) ?_
  refine k_get (v := .ref (ad 3)) C Wd.1 KX6 _ 0 (cx2 _) (by decide) fl_X6_12 rfl dX6_begin_49 ?_
  refine k_cKv Wd (k_runVK (rest := []) C aks Wd cs_X6_85 (mk_T_rewind D ad ca rf (pU (pU (pU (pU (pU (pY (pU (pU (pU σ 2 1 0) 2 2 (-1)) 2 3 x0) 0 x0 0) 2 4 x1) 2 7 0) 2 8 0) 2 9 x2) 2 13 0) Wd.2.1 Wd.2.2   _ hw l _) (cx3 _) rfl rfl rfl rfl ⟨(Nat.le_of_ble_eq_true rfl), (Nat.le_of_ble_eq_true rfl)⟩ hl.1 rfl rfl (Nat.le_of_ble_eq_true rfl) ⟨(Nat.le_of_ble_eq_true rfl), (Nat.le_of_ble_eq_true rfl)⟩ dX6_begin_52) (fun σr52 H locs hw Wd => ?_)
  have hS_σr52 := Wd.2.1
  exact k_retKv C hr hlk Wd hw dX6_begin_55
set_option maxHeartbeats 4000000 in
set_option maxRecDepth 100000 in
theorem mk_R_beginRule : ∀ (D : va_G) (ad : Nat → Nat) (ca : Nat → ClassId) (rf : Nat → Nat → Option Nat) (σ : Sg) (hS : rngK σ) (hRF : RFok ad rf) (x0 : Int) (g_x0 : 0 ≤ x0 ∧ x0 < 12) (K : Sg → Prop) (hw : wp5_R_beginRule σ x0 K) (l : Launch) (sz : Nat), Met l yX6_beginRule (Cond.code yX6_beginRule cX6_beginRule 2 none :: gG) { frames := 3, cells := 0, slots := 0, locals := 107 } (cPre D (tC ca) (wK ad ca rf σ) sz [.ref (ad 2), .ref (ad (ruleC x0.toNat))]) (va_Qv (fun (u : Sg) => K u ∧ rngK u) (fun u t => cB D (va_A (wK ad ca rf σ) sz) [] (wK ad ca rf u) t) (va_A (wK ad ca rf σ) sz)) 0 0 (va_A (wK ad ca rf σ) sz) := by
  intro D ad ca rf σ hS hRF x0 g_x0 K hw l sz
  refine Met.ofW (cc := cX6_beginRule) (maxL := 2) (ret := none) (by decide) rfl ?_
  intro p e s m args below meth c s₁ B hml hv
  obtain ⟨rfl, aks, rfl, Wd⟩ := k_enter hv
  have C : CallFix p m c cX6_beginRule 2 s _ gG RX6 := ⟨B.exec, B.bytes, hml, findClass_of_methodNamed B.named, fun w h => atoms_spec (ws := Cond.code yX6_beginRule cX6_beginRule 2 none :: gG) B.pre w (List.mem_cons_of_mem _ h)⟩
  have hr := B.returns
  have hlk := B.notSynchronized
  generalize va_A (wK ad ca rf σ) s.heap.size = A at Wd ⊢
  replace Wd : wXK D ad ca rf s σ s.heap A s.heap [] := ⟨Wd, hS, hRF⟩
  refine k_locals (Nat.le_of_ble_eq_true rfl) [(0, .ref (ad 2)), (1, .ref (ad (ruleC x0.toNat)))] rfl (fun ls hl => ?_)
  unfold wp5_R_beginRule at hw
  refine lv_aload_n C.1 C.2.1 dX6_beginRule_0 rfl (lv_at hl 1 rfl) ?_
  refine k_cKv Wd (k_runVK (rest := []) C aks Wd cs_X6_55 (mk_U_forget D ad ca rf σ Wd.2.1 Wd.2.2 x0 g_x0 _ hw l _) (cxRule g_x0) rfl rfl rfl rfl ⟨(Nat.le_of_ble_eq_true rfl), (Nat.le_of_ble_eq_true rfl)⟩ hl.1 rfl rfl (Nat.le_of_ble_eq_true rfl) ⟨(Nat.le_of_ble_eq_true rfl), (Nat.le_of_ble_eq_true rfl)⟩ dX6_beginRule_1) (fun σr1 H locs hw Wd => ?_)
  have hS_σr1 := Wd.2.1
  refine lv_aload_n C.1 C.2.1 dX6_beginRule_4 rfl (lv_at hl 0 rfl) ?_
  refine lv_aload_n C.1 C.2.1 dX6_beginRule_5 rfl (lv_at hl 1 rfl) ?_
  have nr6 : 0 ≤ (11 + 2 * x0) ∧ (11 + 2 * x0) < 35 := by omega
  refine k_get (v := .ref (ad (rowC (11 + 2 * x0).toNat))) C Wd.1 KX9 _ 0 (cxRule g_x0) (by decide) fl_X6_60 rfl dX6_beginRule_6 ?_
  refine lv_aload_n C.1 C.2.1 dX6_beginRule_9 rfl (lv_at hl 1 rfl) ?_
  refine lv_bipush (v := zI 40) C.1 C.2.1 dX6_beginRule_10 (by decide) ?_
  refine k_cKv Wd (k_runVK (rest := []) C aks Wd cs_X6_48 (mk_R_begin D ad ca rf σr1 Wd.2.1 Wd.2.2 (11 + 2 * x0) x0 40 nr6 g_x0 (show rng 40 from by decide) _ hw l _) (cx2 _) rfl rfl rfl rfl ⟨(Nat.le_of_ble_eq_true rfl), (Nat.le_of_ble_eq_true rfl)⟩ hl.1 rfl rfl (Nat.le_of_ble_eq_true rfl) ⟨(Nat.le_of_ble_eq_true rfl), (Nat.le_of_ble_eq_true rfl)⟩ dX6_beginRule_12) (fun σr12 H locs hw Wd => ?_)
  have hS_σr12 := Wd.2.1
  refine lv_aload_n C.1 C.2.1 dX6_beginRule_15 rfl (lv_at hl 0 rfl) ?_
  refine lv_iconst (v := zI 3) C.1 C.2.1 dX6_beginRule_16 (by decide) ?_
  refine k_cKv Wd (k_runVK (rest := []) C aks Wd cs_X6_63 (mk_R_beginExpression D ad ca rf σr12 Wd.2.1 Wd.2.2 3 (show rng 3 from by decide) _ hw l _) (cx2 _) rfl rfl rfl rfl ⟨(Nat.le_of_ble_eq_true rfl), (Nat.le_of_ble_eq_true rfl)⟩ hl.1 rfl rfl (Nat.le_of_ble_eq_true rfl) ⟨(Nat.le_of_ble_eq_true rfl), (Nat.le_of_ble_eq_true rfl)⟩ dX6_beginRule_17) (fun σr17 H locs hw Wd => ?_)
  have hS_σr17 := Wd.2.1
  exact k_retKv C hr hlk Wd hw dX6_beginRule_20
set_option maxHeartbeats 4000000 in
set_option maxRecDepth 100000 in
theorem mk_S_rule : ∀ (D : va_G) (ad : Nat → Nat) (ca : Nat → ClassId) (rf : Nat → Nat → Option Nat) (σ : Sg) (hS : rngK σ) (hRF : RFok ad rf) (adK adV : Nat → Nat) (tq : Nat) (K : Int → Sg → Prop) (hw : wp5_S_rule σ K) (l : Launch) (sz : Nat), Met l yX11_rule (Cond.code yX11_rule cX11_rule 2 (some .int) :: gG) { frames := 9, cells := 0, slots := 0, locals := 386 } (cPS RX10 ixT adK adV tq D (tC ca) (wK ad ca rf σ) sz [.ref (ad 0)]) (va_Qi (fun (r : Int32) (u : Sg) => (∃ x : Int, r = zI x ∧ rng x ∧ K x u) ∧ rngK u) (fun u t => cB D (va_A (wK ad ca rf σ) sz) [] (wK ad ca rf u) t) (va_A (wK ad ca rf σ) sz)) 0 0 (va_A (wK ad ca rf σ) sz) := by
  intro D ad ca rf σ hS hRF adK adV tq  K hw l sz
  refine Met.ofW (cc := cX11_rule) (maxL := 2) (ret := (some .int)) (by decide) rfl ?_
  intro p e s m args below meth c s₁ B hml hv
  obtain ⟨hv, hE⟩ := hv
  obtain ⟨rfl, aks, rfl, Wd⟩ := k_enter hv
  have C : CallFix p m c cX11_rule 2 s _ gG RX11 := ⟨B.exec, B.bytes, hml, findClass_of_methodNamed B.named, fun w h => atoms_spec (ws := Cond.code yX11_rule cX11_rule 2 (some .int) :: gG) B.pre w (List.mem_cons_of_mem _ h)⟩
  have hr := B.returns
  have hlk := B.notSynchronized
  generalize va_A (wK ad ca rf σ) s.heap.size = A at Wd hE ⊢
  replace Wd : wXK D ad ca rf s σ s.heap A s.heap [] := ⟨Wd, hS, hRF⟩
  refine k_locals (Nat.le_of_ble_eq_true rfl) [(0, .ref (ad 0))] rfl (fun ls hl => ?_)
  unfold wp5_S_rule at hw
  refine lv_aload_n C.1 C.2.1 dX11_rule_0 rfl (lv_at hl 0 rfl) ?_
  refine k_get (v := .ref (ad 31)) C Wd.1 KX11 _ 6 (cx0 _) (by decide) fl_X11_50 rfl dX11_rule_1 ?_
  refine lv_aload_n C.1 C.2.1 dX11_rule_4 rfl (lv_at hl 0 rfl) ?_
  refine k_get (v := .int (zI (σ.1 0 1))) C Wd.1 KX11 _ 1 (cx0 _) (by decide) fl_X11_18 rfl dX11_rule_5 ?_
  refine k_pq (k_runVK (rest := []) C aks Wd cs_X11_99 (mk_P_ruleAt D ad ca rf σ Wd.2.1 Wd.2.2 (σ.1 0 1) (hS.1 0 1) _ hw l _) (cx31 _) rfl rfl rfl rfl ⟨(Nat.le_of_ble_eq_true rfl), (Nat.le_of_ble_eq_true rfl)⟩ hl.1 rfl rfl (Nat.le_of_ble_eq_true rfl) ⟨(Nat.le_of_ble_eq_true rfl), (Nat.le_of_ble_eq_true rfl)⟩ dX11_rule_8) (fun y8 hy => ?_)
  obtain ⟨r8, rfl, hw⟩ := hy
  by_cases c8 : r8 < 0
  · have hw := hw.1 c8
    rw [rfO_null c8]
    show W p l e _ s m _ below meth c _ _ _ _ _ (F0 m _ ls (.null :: []))
    refine lv_astore_nN (lv' := [(1, .null), (0, .ref (ad 0))]) C.1 C.2.1 dX11_rule_11 rfl hl (by decide) rfl (fun ls hl => ?_)
    replace hl := lv_sub hl [1, 0] rfl
    refine lv_aload_nN C.1 C.2.1 dX11_rule_12 rfl (lv_at hl 1 rfl) ?_
    refine lv_ifnonnullN C.1 C.2.1 dX11_rule_13 ?_
    refine lv_aload_n C.1 C.2.1 dX11_rule_16 rfl (lv_at hl 0 rfl) ?_
    refine k_get (v := .ref (ad 2)) C Wd.1 KX11 _ 3 (cx0 _) (by decide) fl_X11_29 rfl dX11_rule_17 ?_
    refine k_cKv Wd (k_runVK (rest := []) C aks Wd cs_X11_81 (mk_R_drop D ad ca rf σ Wd.2.1 Wd.2.2   _ hw l _) (cx2 _) rfl rfl rfl rfl ⟨(Nat.le_of_ble_eq_true rfl), (Nat.le_of_ble_eq_true rfl)⟩ hl.1 rfl rfl (Nat.le_of_ble_eq_true rfl) ⟨(Nat.le_of_ble_eq_true rfl), (Nat.le_of_ble_eq_true rfl)⟩ dX11_rule_20) (fun σr20 H locs hw Wd => ?_)
    have hS_σr20 := Wd.2.1
    refine lv_iconst (v := zI (-1)) C.1 C.2.1 dX11_rule_23 (by decide) ?_
    exact k_retKi C hr hlk rfl Wd ⟨_, rfl, (show rng (-1) from by decide), hw⟩ dX11_rule_24
  · have hw := hw.2 (Int.not_lt.mp c8)
    rw [rfO_nn (Int.not_lt.mp c8)]
    obtain ⟨n8_0, hw⟩ := hw
    show W p l e _ s m _ below meth c _ _ _ _ _ (F0 m _ ls (.ref (ad (ruleC r8.toNat)) :: []))
    refine lv_astore_n (lv' := [(1, .ref (ad (ruleC r8.toNat))), (0, .ref (ad 0))]) C.1 C.2.1 dX11_rule_11 rfl hl (by decide) rfl (fun ls hl => ?_)
    replace hl := lv_sub hl [1, 0] rfl
    refine lv_aload_n C.1 C.2.1 dX11_rule_12 rfl (lv_at hl 1 rfl) ?_
    refine lv_ifnonnull (tgt := 25) C.1 C.2.1 dX11_rule_13 (by decide) ?_
    refine lv_aload_n C.1 C.2.1 dX11_rule_25 rfl (lv_at hl 0 rfl) ?_
    refine k_get (v := .ref (ad 2)) C Wd.1 KX11 _ 3 (cx0 _) (by decide) fl_X11_29 rfl dX11_rule_26 ?_
    refine lv_aload_n C.1 C.2.1 dX11_rule_29 rfl (lv_at hl 1 rfl) ?_
    refine k_cKv Wd (k_runVK (rest := []) C aks Wd cs_X11_103 (mk_R_beginRule D ad ca rf σ Wd.2.1 Wd.2.2 r8 n8_0 _ hw l _) (cx2 _) rfl rfl rfl rfl ⟨(Nat.le_of_ble_eq_true rfl), (Nat.le_of_ble_eq_true rfl)⟩ hl.1 rfl rfl (Nat.le_of_ble_eq_true rfl) ⟨(Nat.le_of_ble_eq_true rfl), (Nat.le_of_ble_eq_true rfl)⟩ dX11_rule_30) (fun σr30 H locs hw Wd => ?_)
    have hS_σr30 := Wd.2.1
    refine lv_aload_n C.1 C.2.1 dX11_rule_33 rfl (lv_at hl 0 rfl) ?_
    refine k_get (v := .ref (ad 2)) C Wd.1 KX11 _ 3 (cx0 _) (by decide) fl_X11_29 rfl dX11_rule_34 ?_
    refine k_cKi Wd (k_runVKS (rest := []) C aks hE Wd cs_X11_88 (mk_R_readAll D ad ca rf σr30 Wd.2.1 Wd.2.2 adK adV tq   _ hw l _) (cx2 _) rfl rfl rfl rfl ⟨(Nat.le_of_ble_eq_true rfl), (Nat.le_of_ble_eq_true rfl)⟩ hl.1 rfl rfl (Nat.le_of_ble_eq_true rfl) ⟨(Nat.le_of_ble_eq_true rfl), (Nat.le_of_ble_eq_true rfl)⟩ dX11_rule_37) (fun r37 σr37 H locs g_r37 hw Wd => ?_)
    have hS_σr37 := Wd.2.1
    refine lv_if_ne (tgt := 45) C.1 C.2.1 dX11_rule_40 (by decide) (fun c40 => ?_) (fun c40 => ?_)
    · have hw := hw.1 (z0_ne g_r37 c40)
      refine lv_aload_n C.1 C.2.1 dX11_rule_45 rfl (lv_at hl 0 rfl) ?_
      refine lv_dup C.1 C.2.1 dX11_rule_46 rfl ?_
      refine k_get (v := .int (zI (σr37.1 0 1))) C Wd.1 KX11 _ 1 (cx0 _) (by decide) fl_X11_18 rfl dX11_rule_47 ?_
      refine lv_iconst (v := zI 1) C.1 C.2.1 dX11_rule_50 (by decide) ?_
      refine k_iadd (v := zI ((σr37.1 0 1) + 1)) C (zI_iadd _ _) dX11_rule_51 ?_
      obtain ⟨g52_2, hw⟩ := hw
      refine k_putK (v := ((σr37.1 0 1) + 1)) C Wd KX11 0 1 (by decide) (cx0 _) rfl (by decide) fl_X11_18 rfl rfl rfl (Nat.le_of_ble_eq_true rfl) g52_2 dX11_rule_52 (fun H locs Wd => ?_)
      refine lv_aload_n C.1 C.2.1 dX11_rule_55 rfl (lv_at hl 0 rfl) ?_
      refine k_get (v := .int (zI ((σr37.1 0 1) + 1))) C Wd.1 KX11 _ 1 (cx0 _) (by decide) fl_X11_18 rfl dX11_rule_56 ?_
      refine lv_iconst (v := zI 1) C.1 C.2.1 dX11_rule_59 (by decide) ?_
      refine k_isub (v := zI (((σr37.1 0 1) + 1) - 1)) C (zI_isub _ _) dX11_rule_60 ?_
      obtain ⟨g61_3, hw⟩ := hw
      exact k_retKi C hr hlk rfl Wd ⟨_, rfl, g61_3, hw⟩ dX11_rule_61
    · have hw := hw.2 (z0_eq g_r37 c40)
      refine lv_iconst (v := zI (-1)) C.1 C.2.1 dX11_rule_43 (by decide) ?_
      exact k_retKi C hr hlk rfl Wd ⟨_, rfl, (show rng (-1) from by decide), hw⟩ dX11_rule_44
set_option maxHeartbeats 4000000 in
set_option maxRecDepth 100000 in
theorem mk_P_isPass : ∀ (D : va_G) (x0 : Int) (g_x0 : rng x0) (K : Int → Prop) (hw : wp5_P_isPass x0 K) (l : Launch) (sz : Nat), Met l yX4_isPass (Cond.code yX4_isPass cX4_isPass 1 (some .boolean) :: gG) { frames := 1, cells := 0, slots := 0, locals := 64 } (cPre D [] [] sz [.int (zI x0)]) (vp_Si (fun r => ∃ x : Int, r = zI x ∧ rng x ∧ K x)) 0 0 (fun _ => False) := by
  intro D x0 g_x0 K hw l sz
  refine Met.ofW (cc := cX4_isPass) (maxL := 1) (ret := (some .boolean)) (by decide) rfl ?_
  intro p e s m args below meth c s₁ B hml hv
  obtain ⟨rfl, aks, rfl, Wd⟩ := k_enter hv
  have C : CallFix p m c cX4_isPass 1 s _ gG RX4 := ⟨B.exec, B.bytes, hml, findClass_of_methodNamed B.named, fun w h => atoms_spec (ws := Cond.code yX4_isPass cX4_isPass 1 (some .boolean) :: gG) B.pre w (List.mem_cons_of_mem _ h)⟩
  have hr := B.returns
  have hlk := B.notSynchronized
  obtain ⟨A, Wd⟩ : ∃ A, wX D [] s [] s.heap A s.heap [] := ⟨_, Wd⟩
  refine k_locals (Nat.le_of_ble_eq_true rfl) [(0, .int (zI x0))] rfl (fun ls hl => ?_)
  unfold wp5_P_isPass at hw
  refine lv_iload_n C.1 C.2.1 dX4_isPass_0 rfl (lv_at hl 0 rfl) ?_
  refine lv_if_lt (tgt := 14) C.1 C.2.1 dX4_isPass_1 (by decide) (fun c1 => ?_) (fun c1 => ?_)
  · have hw := hw.1 (z0_lt g_x0 c1)
    refine lv_iconst (v := zI 0) C.1 C.2.1 dX4_isPass_14 (by decide) ?_
    exact k_zretP C hr hlk (by decide) ⟨_, rfl, (show rng 0 from by decide), hw⟩ dX4_isPass_15
  · have hw := hw.2 (z0_nlt g_x0 c1)
    refine lv_iload_n C.1 C.2.1 dX4_isPass_4 rfl (lv_at hl 0 rfl) ?_
    refine lv_bipush (v := zI 6) C.1 C.2.1 dX4_isPass_5 (by decide) ?_
    refine lv_icmp_ge (tgt := 14) C.1 C.2.1 dX4_isPass_7 (by decide) (fun c7 => ?_) (fun c7 => ?_)
    · have hw := hw.1 (z_le (show rng 6 from by decide) g_x0 c7)
      refine lv_iconst (v := zI 0) C.1 C.2.1 dX4_isPass_14 (by decide) ?_
      exact k_zretP C hr hlk (by decide) ⟨_, rfl, (show rng 0 from by decide), hw⟩ dX4_isPass_15
    · have hw := hw.2 (z_nle (show rng 6 from by decide) g_x0 c7)
      refine lv_iconst (v := zI 1) C.1 C.2.1 dX4_isPass_10 (by decide) ?_
      refine lv_goto (tgt := 15) C.1 C.2.1 dX4_isPass_11 (by decide) ?_
      exact k_zretP C hr hlk (by decide) ⟨_, rfl, (show rng 1 from by decide), hw⟩ dX4_isPass_15
set_option maxHeartbeats 4000000 in
set_option maxRecDepth 100000 in
theorem mk_P_addItem : ∀ (D : va_G) (ad : Nat → Nat) (ca : Nat → ClassId) (rf : Nat → Nat → Option Nat) (σ : Sg) (hS : rngK σ) (hRF : RFok ad rf) (x0 : Int) (x1 : Int) (g_x0 : rng x0) (g_x1 : rng x1) (K : Int → Sg → Prop) (hw : wp5_P_addItem σ x0 x1 K) (l : Launch) (sz : Nat), Met l yX4_addItem (Cond.code yX4_addItem cX4_addItem 3 (some .int) :: gG) { frames := 2, cells := 0, slots := 0, locals := 84 } (cPre D (tC ca) (wK ad ca rf σ) sz [.ref (ad 31), .int (zI x0), .int (zI x1)]) (va_Qi (fun (r : Int32) (u : Sg) => (∃ x : Int, r = zI x ∧ rng x ∧ K x u) ∧ rngK u) (fun u t => cB D (va_A (wK ad ca rf σ) sz) [] (wK ad ca rf u) t) (va_A (wK ad ca rf σ) sz)) 0 0 (va_A (wK ad ca rf σ) sz) := by
  intro D ad ca rf σ hS hRF x0 x1 g_x0 g_x1 K hw l sz
  refine Met.ofW (cc := cX4_addItem) (maxL := 3) (ret := (some .int)) (by decide) rfl ?_
  intro p e s m args below meth c s₁ B hml hv
  obtain ⟨rfl, aks, rfl, Wd⟩ := k_enter hv
  have C : CallFix p m c cX4_addItem 3 s _ gG RX4 := ⟨B.exec, B.bytes, hml, findClass_of_methodNamed B.named, fun w h => atoms_spec (ws := Cond.code yX4_addItem cX4_addItem 3 (some .int) :: gG) B.pre w (List.mem_cons_of_mem _ h)⟩
  have hr := B.returns
  have hlk := B.notSynchronized
  generalize va_A (wK ad ca rf σ) s.heap.size = A at Wd ⊢
  replace Wd : wXK D ad ca rf s σ s.heap A s.heap [] := ⟨Wd, hS, hRF⟩
  refine k_locals (Nat.le_of_ble_eq_true rfl) [(0, .ref (ad 31)), (1, .int (zI x0)), (2, .int (zI x1))] rfl (fun ls hl => ?_)
  unfold wp5_P_addItem at hw
  refine lv_iload_n C.1 C.2.1 dX4_addItem_0 rfl (lv_at hl 1 rfl) ?_
  refine k_pi (k_runS (rest := []) C aks Wd.1 cs_X4_63 (mk_P_isPass D x0 g_x0 _ hw l _) [] rfl (by decide) [] rfl rfl rfl ⟨(Nat.le_of_ble_eq_true rfl), (Nat.le_of_ble_eq_true rfl)⟩ hl.1 rfl rfl (Nat.le_of_ble_eq_true rfl) ⟨(Nat.le_of_ble_eq_true rfl), (Nat.le_of_ble_eq_true rfl)⟩ dX4_addItem_1) (fun y1 hy => ?_)
  obtain ⟨r1, rfl, g_r1, hw⟩ := hy
  refine lv_if_eq (tgt := 18) C.1 C.2.1 dX4_addItem_4 (by decide) (fun c4 => ?_) (fun c4 => ?_)
  · have hw := hw.1 (z0_eq g_r1 c4)
    refine lv_iconst (v := zI (-1)) C.1 C.2.1 dX4_addItem_18 (by decide) ?_
    exact k_retKi C hr hlk rfl Wd ⟨_, rfl, (show rng (-1) from by decide), hw⟩ dX4_addItem_19
  · have hw := hw.2 (z0_ne g_r1 c4)
    refine lv_aload_n C.1 C.2.1 dX4_addItem_7 rfl (lv_at hl 0 rfl) ?_
    refine k_get (v := .ref (ad 69)) C Wd.1 KX4 _ 7 (cx31 _) (by decide) fl_X4_23 rfl dX4_addItem_8 ?_
    refine lv_iload_n C.1 C.2.1 dX4_addItem_11 rfl (lv_at hl 1 rfl) ?_
    obtain ⟨n12_0, hw⟩ := hw
    refine k_ialdK (g := (σ.2.1 69)) C Wd (cx69 _) (tC_at (by decide) rfl) n12_0 (by decide) dX4_addItem_12 ?_
    have ga12 : rng (σ.2.1 69 x0) := rngL (fun j => (Wd.2.1).2.1 69 j) n12_0
    refine lv_bipush (v := zI 8) C.1 C.2.1 dX4_addItem_13 (by decide) ?_
    refine lv_icmp_lt (tgt := 20) C.1 C.2.1 dX4_addItem_15 (by decide) (fun c15 => ?_) (fun c15 => ?_)
    · have hw := hw.1 (z_lt ga12 (show rng 8 from by decide) c15)
      refine lv_aload_n C.1 C.2.1 dX4_addItem_20 rfl (lv_at hl 0 rfl) ?_
      refine k_get (v := .ref (ad 68)) C Wd.1 KX4 _ 6 (cx31 _) (by decide) fl_X4_20 rfl dX4_addItem_21 ?_
      refine lv_iload_n C.1 C.2.1 dX4_addItem_24 rfl (lv_at hl 1 rfl) ?_
      refine k_item (i := x0) C Wd n12_0 dX4_addItem_25 ?_
      refine lv_aload_n C.1 C.2.1 dX4_addItem_26 rfl (lv_at hl 0 rfl) ?_
      refine k_get (v := .ref (ad 69)) C Wd.1 KX4 _ 7 (cx31 _) (by decide) fl_X4_23 rfl dX4_addItem_27 ?_
      refine lv_iload_n C.1 C.2.1 dX4_addItem_30 rfl (lv_at hl 1 rfl) ?_
      refine k_ialdK (g := (σ.2.1 69)) C Wd (cx69 _) (tC_at (by decide) rfl) n12_0 (by decide) dX4_addItem_31 ?_
      refine lv_iload_n C.1 C.2.1 dX4_addItem_32 rfl (lv_at hl 2 rfl) ?_
      obtain ⟨n33_0, hw⟩ := hw
      refine k_iastI (n := x0) (g := (σ.2.2.2 1 x0)) (i := (σ.2.1 69 x0)) (v := x1) C Wd n12_0 rfl n33_0 (ruZ (rgZ (c := 1) Wd.2.1 n12_0) g_x1) dX4_addItem_33 (fun H locs Wd => ?_)
      refine lv_aload_n C.1 C.2.1 dX4_addItem_34 rfl (lv_at hl 0 rfl) ?_
      refine k_get (v := .ref (ad 69)) C Wd.1 KX4 _ 7 (cx31 _) (by decide) fl_X4_23 rfl dX4_addItem_35 ?_
      refine lv_iload_n C.1 C.2.1 dX4_addItem_38 rfl (lv_at hl 1 rfl) ?_
      refine lv_dup2_11 C.1 C.2.1 dX4_addItem_39 rfl rfl ?_
      refine k_ialdK (g := (σ.2.1 69)) C Wd (cx69 _) (tC_at (by decide) rfl) n12_0 (by decide) dX4_addItem_40 ?_
      refine lv_iconst (v := zI 1) C.1 C.2.1 dX4_addItem_41 (by decide) ?_
      refine k_iadd (v := zI ((σ.2.1 69 x0) + 1)) C (zI_iadd _ _) dX4_addItem_42 ?_
      obtain ⟨g43_1, hw⟩ := hw
      refine k_iastF (g := (σ.2.1 69)) (i := x0) (v := ((σ.2.1 69 x0) + 1)) C Wd 69 (by decide) (cx69 _) (fun f => cx69a _ f) (tC_at (by decide) rfl) n12_0 (by decide) (ruZ (fun j => Wd.2.1.2.1 69 j) g43_1) dX4_addItem_43 (fun H locs Wd => ?_)
      refine lv_aload_n C.1 C.2.1 dX4_addItem_44 rfl (lv_at hl 0 rfl) ?_
      refine k_get (v := .ref (ad 69)) C Wd.1 KX4 _ 7 (cx31 _) (by decide) fl_X4_23 rfl dX4_addItem_45 ?_
      refine lv_iload_n C.1 C.2.1 dX4_addItem_48 rfl (lv_at hl 1 rfl) ?_
      refine k_ialdK (g := (uZ (σ.2.1 69) x0 ((σ.2.1 69 x0) + 1))) C Wd (cx69 _) (tC_at (by decide) rfl) n12_0 (by decide) dX4_addItem_49 ?_
      have ga49 : rng ((uZ (σ.2.1 69) x0 ((σ.2.1 69 x0) + 1)) x0) := rngL (fun j => (Wd.2.1).2.1 69 j) n12_0
      exact k_retKi C hr hlk rfl Wd ⟨_, rfl, ga49, hw⟩ dX4_addItem_50
    · have hw := hw.2 (z_nlt ga12 (show rng 8 from by decide) c15)
      refine lv_iconst (v := zI (-1)) C.1 C.2.1 dX4_addItem_18 (by decide) ?_
      exact k_retKi C hr hlk rfl Wd ⟨_, rfl, (show rng (-1) from by decide), hw⟩ dX4_addItem_19
set_option maxHeartbeats 4000000 in
set_option maxRecDepth 100000 in
theorem mk_S_item : ∀ (D : va_G) (ad : Nat → Nat) (ca : Nat → ClassId) (rf : Nat → Nat → Option Nat) (σ : Sg) (hS : rngK σ) (hRF : RFok ad rf) (x0 : Int) (x1 : Int) (g_x0 : rng x0) (g_x1 : rng x1) (K : Int → Sg → Prop) (hw : wp5_S_item σ x0 x1 K) (l : Launch) (sz : Nat), Met l yX11_item (Cond.code yX11_item cX11_item 5 (some .int) :: gG) { frames := 3, cells := 0, slots := 0, locals := 106 } (cPre D (tC ca) (wK ad ca rf σ) sz [.ref (ad 0), .int (zI x0), .int (zI x1)]) (va_Qi (fun (r : Int32) (u : Sg) => (∃ x : Int, r = zI x ∧ rng x ∧ K x u) ∧ rngK u) (fun u t => cB D (va_A (wK ad ca rf σ) sz) [] (wK ad ca rf u) t) (va_A (wK ad ca rf σ) sz)) 0 0 (va_A (wK ad ca rf σ) sz) := by
  intro D ad ca rf σ hS hRF x0 x1 g_x0 g_x1 K hw l sz
  refine Met.ofW (cc := cX11_item) (maxL := 5) (ret := (some .int)) (by decide) rfl ?_
  intro p e s m args below meth c s₁ B hml hv
  obtain ⟨rfl, aks, rfl, Wd⟩ := k_enter hv
  have C : CallFix p m c cX11_item 5 s _ gG RX11 := ⟨B.exec, B.bytes, hml, findClass_of_methodNamed B.named, fun w h => atoms_spec (ws := Cond.code yX11_item cX11_item 5 (some .int) :: gG) B.pre w (List.mem_cons_of_mem _ h)⟩
  have hr := B.returns
  have hlk := B.notSynchronized
  generalize va_A (wK ad ca rf σ) s.heap.size = A at Wd ⊢
  replace Wd : wXK D ad ca rf s σ s.heap A s.heap [] := ⟨Wd, hS, hRF⟩
  refine k_locals (Nat.le_of_ble_eq_true rfl) [(0, .ref (ad 0)), (1, .int (zI x0)), (2, .int (zI x1))] rfl (fun ls hl => ?_)
  unfold wp5_S_item at hw
  refine lv_iload_n C.1 C.2.1 dX11_item_0 rfl (lv_at hl 2 rfl) ?_
  refine k_cut1 (fun (s0_17 : Int) H locs ls => rng s0_17 ∧ wp5_S_item_17 K σ x0 x1 s0_17 ∧ wXK D ad ca rf s σ H A s.heap locs ∧ lv_has ls 5 [(0, .ref (ad 0)), (1, .int (zI x0)), (2, .int (zI x1))]) (fun (s0_17 : Int) ls => F0 m 17 ls [.int (zI s0_17)]) (fun s0_17 H locs ls hi => ?_) (fun J17 => ?_)
  · obtain ⟨g_s0_17, hw, Wd, hl⟩ := hi
    unfold wp5_S_item_17 at hw
    refine lv_istore_n (lv' := [(3, .int (zI s0_17)), (0, .ref (ad 0)), (1, .int (zI x0)), (2, .int (zI x1))]) C.1 C.2.1 dX11_item_17 rfl hl (by decide) rfl (fun ls hl => ?_)
    replace hl := lv_sub hl [1, 2, 3, 0] rfl
    refine lv_iload_n C.1 C.2.1 dX11_item_18 rfl (lv_at hl 2 rfl) ?_
    refine lv_bipush (v := zI 20) C.1 C.2.1 dX11_item_19 (by decide) ?_
    refine k_cut1 (fun (s0_35 : Int) H locs ls => rng s0_35 ∧ wp5_S_item_35 K σ x0 x1 s0_17 s0_35 ∧ wXK D ad ca rf s σ H A s.heap locs ∧ lv_has ls 5 [(0, .ref (ad 0)), (1, .int (zI x0)), (2, .int (zI x1)), (3, .int (zI s0_17))]) (fun (s0_35 : Int) ls => F0 m 35 ls [.int (zI s0_35)]) (fun s0_35 H locs ls hi => ?_) (fun J35 => ?_)
    · obtain ⟨g_s0_35, hw, Wd, hl⟩ := hi
      unfold wp5_S_item_35 at hw
      refine lv_istore (lv' := [(4, .int (zI s0_35)), (0, .ref (ad 0)), (1, .int (zI x0)), (2, .int (zI x1)), (3, .int (zI s0_17))]) C.1 C.2.1 dX11_item_35 hl (by decide) rfl (fun ls hl => ?_)
      replace hl := lv_sub hl [1, 2, 3, 4, 0] rfl
      refine lv_iload_n C.1 C.2.1 dX11_item_37 rfl (lv_at hl 3 rfl) ?_
      refine k_cut0 (fun H locs ls => wp5_S_item_48 K σ x0 x1 ∧ wXK D ad ca rf s σ H A s.heap locs ∧ lv_has ls 5 [(0, .ref (ad 0)), (1, .int (zI x0)), (2, .int (zI x1))]) (fun  ls => F0 m 48 ls []) (fun  H locs ls hi => ?_) (fun J48 => ?_)
      · obtain ⟨hw, Wd, hl⟩ := hi
        unfold wp5_S_item_48 at hw
        refine lv_aload_n C.1 C.2.1 dX11_item_48 rfl (lv_at hl 0 rfl) ?_
        refine k_get (v := .ref (ad 31)) C Wd.1 KX11 _ 6 (cx0 _) (by decide) fl_X11_50 rfl dX11_item_49 ?_
        refine lv_iload_n C.1 C.2.1 dX11_item_52 rfl (lv_at hl 1 rfl) ?_
        refine lv_iload_n C.1 C.2.1 dX11_item_53 rfl (lv_at hl 2 rfl) ?_
        refine k_cKi Wd (k_runVK (rest := []) C aks Wd cs_X11_191 (mk_P_addItem D ad ca rf σ Wd.2.1 Wd.2.2 x0 x1 g_x0 g_x1 _ hw l _) (cx31 _) rfl rfl rfl rfl ⟨(Nat.le_of_ble_eq_true rfl), (Nat.le_of_ble_eq_true rfl)⟩ hl.1 rfl rfl (Nat.le_of_ble_eq_true rfl) ⟨(Nat.le_of_ble_eq_true rfl), (Nat.le_of_ble_eq_true rfl)⟩ dX11_item_54) (fun r54 σr54 H locs g_r54 hw Wd => ?_)
        have hS_σr54 := Wd.2.1
        exact k_retKi C hr hlk rfl Wd ⟨_, rfl, g_r54, hw⟩ dX11_item_57
      refine lv_if_ne (tgt := 48) C.1 C.2.1 dX11_item_38 (by decide) (fun c38 => ?_) (fun c38 => ?_)
      · have hw := hw.1 (z0_ne g_s0_17 c38)
        exact J48  _ _ _ ⟨hw, Wd, lv_sub hl [0, 1, 2] rfl⟩
      · have hw := hw.2 (z0_eq g_s0_17 c38)
        refine lv_iload C.1 C.2.1 dX11_item_41 (lv_at hl 4 rfl) ?_
        refine lv_if_ne (tgt := 48) C.1 C.2.1 dX11_item_43 (by decide) (fun c43 => ?_) (fun c43 => ?_)
        · have hw := hw.1 (z0_ne g_s0_35 c43)
          exact J48  _ _ _ ⟨hw, Wd, lv_sub hl [0, 1, 2] rfl⟩
        · have hw := hw.2 (z0_eq g_s0_35 c43)
          refine lv_iconst (v := zI (-1)) C.1 C.2.1 dX11_item_46 (by decide) ?_
          exact k_retKi C hr hlk rfl Wd ⟨_, rfl, (show rng (-1) from by decide), hw⟩ dX11_item_47
    refine k_cut0 (fun H locs ls => wp5_S_item_34 K σ x0 x1 s0_17 ∧ wXK D ad ca rf s σ H A s.heap locs ∧ lv_has ls 5 [(0, .ref (ad 0)), (1, .int (zI x0)), (2, .int (zI x1)), (3, .int (zI s0_17))]) (fun  ls => F0 m 34 ls []) (fun  H locs ls hi => ?_) (fun J34 => ?_)
    · obtain ⟨hw, Wd, hl⟩ := hi
      unfold wp5_S_item_34 at hw
      refine lv_iconst (v := zI 0) C.1 C.2.1 dX11_item_34 (by decide) ?_
      exact J35 0 _ _ _ ⟨(show rng 0 from by decide), hw, Wd, lv_sub hl [0, 1, 2, 3] rfl⟩
    refine lv_icmp_lt (tgt := 34) C.1 C.2.1 dX11_item_21 (by decide) (fun c21 => ?_) (fun c21 => ?_)
    · have hw := hw.1 (z_lt g_x1 (show rng 20 from by decide) c21)
      exact J34  _ _ _ ⟨hw, Wd, lv_sub hl [0, 1, 2, 3] rfl⟩
    · have hw := hw.2 (z_nlt g_x1 (show rng 20 from by decide) c21)
      refine lv_iload_n C.1 C.2.1 dX11_item_24 rfl (lv_at hl 2 rfl) ?_
      refine lv_bipush (v := zI 24) C.1 C.2.1 dX11_item_25 (by decide) ?_
      refine lv_icmp_gt (tgt := 34) C.1 C.2.1 dX11_item_27 (by decide) (fun c27 => ?_) (fun c27 => ?_)
      · have hw := hw.1 (z_lt (show rng 24 from by decide) g_x1 c27)
        exact J34  _ _ _ ⟨hw, Wd, lv_sub hl [0, 1, 2, 3] rfl⟩
      · have hw := hw.2 (z_nlt (show rng 24 from by decide) g_x1 c27)
        refine lv_iconst (v := zI 1) C.1 C.2.1 dX11_item_30 (by decide) ?_
        refine lv_goto (tgt := 35) C.1 C.2.1 dX11_item_31 (by decide) ?_
        exact J35 1 _ _ _ ⟨(show rng 1 from by decide), hw, Wd, lv_sub hl [0, 1, 2, 3] rfl⟩
  refine k_cut0 (fun H locs ls => wp5_S_item_16 K σ x0 x1 ∧ wXK D ad ca rf s σ H A s.heap locs ∧ lv_has ls 5 [(0, .ref (ad 0)), (1, .int (zI x0)), (2, .int (zI x1))]) (fun  ls => F0 m 16 ls []) (fun  H locs ls hi => ?_) (fun J16 => ?_)
  · obtain ⟨hw, Wd, hl⟩ := hi
    unfold wp5_S_item_16 at hw
    refine lv_iconst (v := zI 0) C.1 C.2.1 dX11_item_16 (by decide) ?_
    exact J17 0 _ _ _ ⟨(show rng 0 from by decide), hw, Wd, lv_sub hl [0, 1, 2] rfl⟩
  refine lv_if_lt (tgt := 16) C.1 C.2.1 dX11_item_1 (by decide) (fun c1 => ?_) (fun c1 => ?_)
  · have hw := hw.1 (z0_lt g_x1 c1)
    exact J16  _ _ _ ⟨hw, Wd, lv_sub hl [0, 1, 2] rfl⟩
  · have hw := hw.2 (z0_nlt g_x1 c1)
    refine lv_iload_n C.1 C.2.1 dX11_item_4 rfl (lv_at hl 2 rfl) ?_
    refine lv_aload_n C.1 C.2.1 dX11_item_5 rfl (lv_at hl 0 rfl) ?_
    refine k_get (v := .int (zI (σ.1 0 1))) C Wd.1 KX11 _ 1 (cx0 _) (by decide) fl_X11_18 rfl dX11_item_6 ?_
    refine lv_icmp_ge (tgt := 16) C.1 C.2.1 dX11_item_9 (by decide) (fun c9 => ?_) (fun c9 => ?_)
    · have hw := hw.1 (z_le (hS.1 0 1) g_x1 c9)
      exact J16  _ _ _ ⟨hw, Wd, lv_sub hl [0, 1, 2] rfl⟩
    · have hw := hw.2 (z_nle (hS.1 0 1) g_x1 c9)
      refine lv_iconst (v := zI 1) C.1 C.2.1 dX11_item_12 (by decide) ?_
      refine lv_goto (tgt := 17) C.1 C.2.1 dX11_item_13 (by decide) ?_
      exact J17 1 _ _ _ ⟨(show rng 1 from by decide), hw, Wd, lv_sub hl [0, 1, 2] rfl⟩
set_option maxHeartbeats 4000000 in
set_option maxRecDepth 100000 in
theorem mk_P_dropItems : ∀ (D : va_G) (ad : Nat → Nat) (ca : Nat → ClassId) (rf : Nat → Nat → Option Nat) (σ : Sg) (hS : rngK σ) (hRF : RFok ad rf) (x0 : Int) (g_x0 : rng x0) (K : Int → Sg → Prop) (hw : wp5_P_dropItems σ x0 K) (l : Launch) (sz : Nat), Met l yX4_dropItems (Cond.code yX4_dropItems cX4_dropItems 2 (some .boolean) :: gG) { frames := 2, cells := 0, slots := 0, locals := 84 } (cPre D (tC ca) (wK ad ca rf σ) sz [.ref (ad 31), .int (zI x0)]) (va_Qi (fun (r : Int32) (u : Sg) => (∃ x : Int, r = zI x ∧ rng x ∧ K x u) ∧ rngK u) (fun u t => cB D (va_A (wK ad ca rf σ) sz) [] (wK ad ca rf u) t) (va_A (wK ad ca rf σ) sz)) 0 0 (va_A (wK ad ca rf σ) sz) := by
  intro D ad ca rf σ hS hRF x0 g_x0 K hw l sz
  refine Met.ofW (cc := cX4_dropItems) (maxL := 2) (ret := (some .boolean)) (by decide) rfl ?_
  intro p e s m args below meth c s₁ B hml hv
  obtain ⟨rfl, aks, rfl, Wd⟩ := k_enter hv
  have C : CallFix p m c cX4_dropItems 2 s _ gG RX4 := ⟨B.exec, B.bytes, hml, findClass_of_methodNamed B.named, fun w h => atoms_spec (ws := Cond.code yX4_dropItems cX4_dropItems 2 (some .boolean) :: gG) B.pre w (List.mem_cons_of_mem _ h)⟩
  have hr := B.returns
  have hlk := B.notSynchronized
  generalize va_A (wK ad ca rf σ) s.heap.size = A at Wd ⊢
  replace Wd : wXK D ad ca rf s σ s.heap A s.heap [] := ⟨Wd, hS, hRF⟩
  refine k_locals (Nat.le_of_ble_eq_true rfl) [(0, .ref (ad 31)), (1, .int (zI x0))] rfl (fun ls hl => ?_)
  unfold wp5_P_dropItems at hw
  refine lv_iload_n C.1 C.2.1 dX4_dropItems_0 rfl (lv_at hl 1 rfl) ?_
  refine k_pi (k_runS (rest := []) C aks Wd.1 cs_X4_63 (mk_P_isPass D x0 g_x0 _ hw l _) [] rfl (by decide) [] rfl rfl rfl ⟨(Nat.le_of_ble_eq_true rfl), (Nat.le_of_ble_eq_true rfl)⟩ hl.1 rfl rfl (Nat.le_of_ble_eq_true rfl) ⟨(Nat.le_of_ble_eq_true rfl), (Nat.le_of_ble_eq_true rfl)⟩ dX4_dropItems_1) (fun y1 hy => ?_)
  obtain ⟨r1, rfl, g_r1, hw⟩ := hy
  refine lv_if_ne (tgt := 9) C.1 C.2.1 dX4_dropItems_4 (by decide) (fun c4 => ?_) (fun c4 => ?_)
  · have hw := hw.1 (z0_ne g_r1 c4)
    refine lv_aload_n C.1 C.2.1 dX4_dropItems_9 rfl (lv_at hl 0 rfl) ?_
    refine k_get (v := .ref (ad 69)) C Wd.1 KX4 _ 7 (cx31 _) (by decide) fl_X4_23 rfl dX4_dropItems_10 ?_
    refine lv_iload_n C.1 C.2.1 dX4_dropItems_13 rfl (lv_at hl 1 rfl) ?_
    refine lv_iconst (v := zI 0) C.1 C.2.1 dX4_dropItems_14 (by decide) ?_
    obtain ⟨n15_0, hw⟩ := hw
    refine k_iastF (g := (σ.2.1 69)) (i := x0) (v := 0) C Wd 69 (by decide) (cx69 _) (fun f => cx69a _ f) (tC_at (by decide) rfl) n15_0 (by decide) (ruZ (fun j => Wd.2.1.2.1 69 j) (show rng 0 from by decide)) dX4_dropItems_15 (fun H locs Wd => ?_)
    refine lv_iconst (v := zI 1) C.1 C.2.1 dX4_dropItems_16 (by decide) ?_
    exact k_retKi C hr hlk (by decide) Wd ⟨_, rfl, (show rng 1 from by decide), hw⟩ dX4_dropItems_17
  · have hw := hw.2 (z0_eq g_r1 c4)
    refine lv_iconst (v := zI 0) C.1 C.2.1 dX4_dropItems_7 (by decide) ?_
    exact k_retKi C hr hlk (by decide) Wd ⟨_, rfl, (show rng 0 from by decide), hw⟩ dX4_dropItems_8
set_option maxHeartbeats 4000000 in
set_option maxRecDepth 100000 in
theorem mk_S_clear : ∀ (D : va_G) (ad : Nat → Nat) (ca : Nat → ClassId) (rf : Nat → Nat → Option Nat) (σ : Sg) (hS : rngK σ) (hRF : RFok ad rf) (x0 : Int) (g_x0 : rng x0) (K : Int → Sg → Prop) (hw : wp5_S_clear σ x0 K) (l : Launch) (sz : Nat), Met l yX11_clear (Cond.code yX11_clear cX11_clear 2 (some .boolean) :: gG) { frames := 3, cells := 0, slots := 0, locals := 105 } (cPre D (tC ca) (wK ad ca rf σ) sz [.ref (ad 0), .int (zI x0)]) (va_Qi (fun (r : Int32) (u : Sg) => (∃ x : Int, r = zI x ∧ rng x ∧ K x u) ∧ rngK u) (fun u t => cB D (va_A (wK ad ca rf σ) sz) [] (wK ad ca rf u) t) (va_A (wK ad ca rf σ) sz)) 0 0 (va_A (wK ad ca rf σ) sz) := by
  intro D ad ca rf σ hS hRF x0 g_x0 K hw l sz
  refine Met.ofW (cc := cX11_clear) (maxL := 2) (ret := (some .boolean)) (by decide) rfl ?_
  intro p e s m args below meth c s₁ B hml hv
  obtain ⟨rfl, aks, rfl, Wd⟩ := k_enter hv
  have C : CallFix p m c cX11_clear 2 s _ gG RX11 := ⟨B.exec, B.bytes, hml, findClass_of_methodNamed B.named, fun w h => atoms_spec (ws := Cond.code yX11_clear cX11_clear 2 (some .boolean) :: gG) B.pre w (List.mem_cons_of_mem _ h)⟩
  have hr := B.returns
  have hlk := B.notSynchronized
  generalize va_A (wK ad ca rf σ) s.heap.size = A at Wd ⊢
  replace Wd : wXK D ad ca rf s σ s.heap A s.heap [] := ⟨Wd, hS, hRF⟩
  refine k_locals (Nat.le_of_ble_eq_true rfl) [(0, .ref (ad 0)), (1, .int (zI x0))] rfl (fun ls hl => ?_)
  unfold wp5_S_clear at hw
  refine lv_aload_n C.1 C.2.1 dX11_clear_0 rfl (lv_at hl 0 rfl) ?_
  refine k_get (v := .ref (ad 31)) C Wd.1 KX11 _ 6 (cx0 _) (by decide) fl_X11_50 rfl dX11_clear_1 ?_
  refine lv_iload_n C.1 C.2.1 dX11_clear_4 rfl (lv_at hl 1 rfl) ?_
  refine k_cKi Wd (k_runVK (rest := []) C aks Wd cs_X11_195 (mk_P_dropItems D ad ca rf σ Wd.2.1 Wd.2.2 x0 g_x0 _ hw l _) (cx31 _) rfl rfl rfl rfl ⟨(Nat.le_of_ble_eq_true rfl), (Nat.le_of_ble_eq_true rfl)⟩ hl.1 rfl rfl (Nat.le_of_ble_eq_true rfl) ⟨(Nat.le_of_ble_eq_true rfl), (Nat.le_of_ble_eq_true rfl)⟩ dX11_clear_5) (fun r5 σr5 H locs g_r5 hw Wd => ?_)
  have hS_σr5 := Wd.2.1
  obtain ⟨b8_0, hw⟩ := hw
  exact k_retKi C hr hlk (zI_nb b8_0) Wd ⟨_, rfl, g_r5, hw⟩ dX11_clear_8
set_option maxHeartbeats 4000000 in
set_option maxRecDepth 100000 in
theorem mk_S_at : ∀ (D : va_G) (ad : Nat → Nat) (ca : Nat → ClassId) (rf : Nat → Nat → Option Nat) (σ : Sg) (hS : rngK σ) (hRF : RFok ad rf) (x0 : Int) (x1 : Int) (g_x0 : rng x0) (g_x1 : rng x1) (K : Int → Prop) (hw : wp5_S_at σ x0 x1 K) (l : Launch) (sz : Nat), Met l yX11_at (Cond.code yX11_at cX11_at 4 (some .int) :: gG) { frames := 2, cells := 0, slots := 0, locals := 85 } (cPre D (tC ca) (wK ad ca rf σ) sz [.ref (ad 0), .int (zI x0), .int (zI x1)]) (vp_Si (fun r => ∃ x : Int, r = zI x ∧ rng x ∧ K x)) 0 0 (fun _ => False) := by
  intro D ad ca rf σ hS hRF x0 x1 g_x0 g_x1 K hw l sz
  refine Met.ofW (cc := cX11_at) (maxL := 4) (ret := (some .int)) (by decide) rfl ?_
  intro p e s m args below meth c s₁ B hml hv
  obtain ⟨rfl, aks, rfl, Wd⟩ := k_enter hv
  have C : CallFix p m c cX11_at 4 s _ gG RX11 := ⟨B.exec, B.bytes, hml, findClass_of_methodNamed B.named, fun w h => atoms_spec (ws := Cond.code yX11_at cX11_at 4 (some .int) :: gG) B.pre w (List.mem_cons_of_mem _ h)⟩
  have hr := B.returns
  have hlk := B.notSynchronized
  obtain ⟨A, Wd⟩ : ∃ A, wXK D ad ca rf s σ s.heap A s.heap [] := ⟨_, Wd, hS, hRF⟩
  refine k_locals (Nat.le_of_ble_eq_true rfl) [(0, .ref (ad 0)), (1, .int (zI x0)), (2, .int (zI x1))] rfl (fun ls hl => ?_)
  unfold wp5_S_at at hw
  refine lv_aload_n C.1 C.2.1 dX11_at_0 rfl (lv_at hl 0 rfl) ?_
  refine lv_iload_n C.1 C.2.1 dX11_at_1 rfl (lv_at hl 1 rfl) ?_
  refine k_pq (k_runVK (rest := []) C aks Wd cs_X11_77 (mk_S_slotAt D ad ca rf σ Wd.2.1 Wd.2.2 x0 g_x0 _ hw l _) (cx0 _) rfl rfl rfl rfl ⟨(Nat.le_of_ble_eq_true rfl), (Nat.le_of_ble_eq_true rfl)⟩ hl.1 rfl rfl (Nat.le_of_ble_eq_true rfl) ⟨(Nat.le_of_ble_eq_true rfl), (Nat.le_of_ble_eq_true rfl)⟩ dX11_at_2) (fun y2 hy => ?_)
  obtain ⟨r2, rfl, hw⟩ := hy
  by_cases c2 : r2 < 0
  · have hw := hw.1 c2
    rw [rfO_null c2]
    show W p l e _ s m _ below meth c _ _ _ _ _ (F0 m _ ls (.null :: []))
    refine lv_astore_nN (lv' := [(3, .null), (0, .ref (ad 0)), (1, .int (zI x0)), (2, .int (zI x1))]) C.1 C.2.1 dX11_at_5 rfl hl (by decide) rfl (fun ls hl => ?_)
    replace hl := lv_sub hl [1, 2, 3, 0] rfl
    refine lv_aload_nN C.1 C.2.1 dX11_at_6 rfl (lv_at hl 3 rfl) ?_
    refine lv_ifnonnullN C.1 C.2.1 dX11_at_7 ?_
    refine lv_iconst (v := zI (-1)) C.1 C.2.1 dX11_at_10 (by decide) ?_
    refine lv_goto (tgt := 19) C.1 C.2.1 dX11_at_11 (by decide) ?_
    exact k_zretP C hr hlk rfl ⟨_, rfl, (show rng (-1) from by decide), hw⟩ dX11_at_19
  · have hw := hw.2 (Int.not_lt.mp c2)
    rw [rfO_nn (Int.not_lt.mp c2)]
    obtain ⟨n2_0, hw⟩ := hw
    show W p l e _ s m _ below meth c _ _ _ _ _ (F0 m _ ls (.ref (ad (rowC r2.toNat)) :: []))
    refine lv_astore_n (lv' := [(3, .ref (ad (rowC r2.toNat))), (0, .ref (ad 0)), (1, .int (zI x0)), (2, .int (zI x1))]) C.1 C.2.1 dX11_at_5 rfl hl (by decide) rfl (fun ls hl => ?_)
    replace hl := lv_sub hl [1, 2, 3, 0] rfl
    refine lv_aload_n C.1 C.2.1 dX11_at_6 rfl (lv_at hl 3 rfl) ?_
    refine lv_ifnonnull (tgt := 14) C.1 C.2.1 dX11_at_7 (by decide) ?_
    refine lv_aload_n C.1 C.2.1 dX11_at_14 rfl (lv_at hl 3 rfl) ?_
    refine lv_iload_n C.1 C.2.1 dX11_at_15 rfl (lv_at hl 2 rfl) ?_
    refine k_pi (k_runVK (rest := []) C aks Wd cs_X11_113 (mk_W_cell D ad ca rf σ Wd.2.1 Wd.2.2 r2 x1 n2_0 g_x1 _ hw l _) (cxRow n2_0) rfl rfl rfl rfl ⟨(Nat.le_of_ble_eq_true rfl), (Nat.le_of_ble_eq_true rfl)⟩ hl.1 rfl rfl (Nat.le_of_ble_eq_true rfl) ⟨(Nat.le_of_ble_eq_true rfl), (Nat.le_of_ble_eq_true rfl)⟩ dX11_at_16) (fun y16 hy => ?_)
    obtain ⟨r16, rfl, g_r16, hw⟩ := hy
    exact k_zretP C hr hlk rfl ⟨_, rfl, g_r16, hw⟩ dX11_at_19
set_option maxHeartbeats 4000000 in
set_option maxRecDepth 100000 in
theorem mk_W_isExpression : ∀ (D : va_G) (x0 : Int) (g_x0 : rng x0) (K : Int → Prop) (hw : wp5_W_isExpression x0 K) (l : Launch) (sz : Nat), Met l yX8_isExpression (Cond.code yX8_isExpression cX8_isExpression 1 (some .boolean) :: gG) { frames := 1, cells := 0, slots := 0, locals := 64 } (cPre D [] [] sz [.int (zI x0)]) (vp_Si (fun r => ∃ x : Int, r = zI x ∧ rng x ∧ K x)) 0 0 (fun _ => False) := by
  intro D x0 g_x0 K hw l sz
  refine Met.ofW (cc := cX8_isExpression) (maxL := 1) (ret := (some .boolean)) (by decide) rfl ?_
  intro p e s m args below meth c s₁ B hml hv
  obtain ⟨rfl, aks, rfl, Wd⟩ := k_enter hv
  have C : CallFix p m c cX8_isExpression 1 s _ gG RX8 := ⟨B.exec, B.bytes, hml, findClass_of_methodNamed B.named, fun w h => atoms_spec (ws := Cond.code yX8_isExpression cX8_isExpression 1 (some .boolean) :: gG) B.pre w (List.mem_cons_of_mem _ h)⟩
  have hr := B.returns
  have hlk := B.notSynchronized
  obtain ⟨A, Wd⟩ : ∃ A, wX D [] s [] s.heap A s.heap [] := ⟨_, Wd⟩
  refine k_locals (Nat.le_of_ble_eq_true rfl) [(0, .int (zI x0))] rfl (fun ls hl => ?_)
  unfold wp5_W_isExpression at hw
  refine lv_iload_n C.1 C.2.1 dX8_isExpression_0 rfl (lv_at hl 0 rfl) ?_
  refine k_cut0 (fun H locs ls => wp5_W_isExpression_10 K x0 ∧ wX D [] s [] H A s.heap locs ∧ H = s.heap ∧ locs = [] ∧ lv_has ls 1 [(0, .int (zI x0))]) (fun  ls => F0 m 10 ls []) (fun  H locs ls hi => ?_) (fun J10 => ?_)
  · obtain ⟨hw, Wd, rfl, rfl, hl⟩ := hi
    unfold wp5_W_isExpression_10 at hw
    refine lv_iload_n C.1 C.2.1 dX8_isExpression_10 rfl (lv_at hl 0 rfl) ?_
    refine lv_bipush (v := zI 20) C.1 C.2.1 dX8_isExpression_11 (by decide) ?_
    refine k_cut0 (fun H locs ls => wp5_W_isExpression_22 K x0 ∧ wX D [] s [] H A s.heap locs ∧ H = s.heap ∧ locs = [] ∧ lv_has ls 1 [(0, .int (zI x0))]) (fun  ls => F0 m 22 ls []) (fun  H locs ls hi => ?_) (fun J22 => ?_)
    · obtain ⟨hw, Wd, rfl, rfl, hl⟩ := hi
      unfold wp5_W_isExpression_22 at hw
      refine lv_iload_n C.1 C.2.1 dX8_isExpression_22 rfl (lv_at hl 0 rfl) ?_
      refine lv_bipush (v := zI 120) C.1 C.2.1 dX8_isExpression_23 (by decide) ?_
      refine lv_icmp_lt (tgt := 38) C.1 C.2.1 dX8_isExpression_25 (by decide) (fun c25 => ?_) (fun c25 => ?_)
      · have hw := hw.1 (z_lt g_x0 (show rng 120 from by decide) c25)
        refine lv_iconst (v := zI 0) C.1 C.2.1 dX8_isExpression_38 (by decide) ?_
        exact k_zretP C hr hlk (by decide) ⟨_, rfl, (show rng 0 from by decide), hw⟩ dX8_isExpression_39
      · have hw := hw.2 (z_nlt g_x0 (show rng 120 from by decide) c25)
        refine lv_iload_n C.1 C.2.1 dX8_isExpression_28 rfl (lv_at hl 0 rfl) ?_
        refine lv_bipush (v := zI 122) C.1 C.2.1 dX8_isExpression_29 (by decide) ?_
        refine lv_icmp_gt (tgt := 38) C.1 C.2.1 dX8_isExpression_31 (by decide) (fun c31 => ?_) (fun c31 => ?_)
        · have hw := hw.1 (z_lt (show rng 122 from by decide) g_x0 c31)
          refine lv_iconst (v := zI 0) C.1 C.2.1 dX8_isExpression_38 (by decide) ?_
          exact k_zretP C hr hlk (by decide) ⟨_, rfl, (show rng 0 from by decide), hw⟩ dX8_isExpression_39
        · have hw := hw.2 (z_nlt (show rng 122 from by decide) g_x0 c31)
          refine lv_iconst (v := zI 1) C.1 C.2.1 dX8_isExpression_34 (by decide) ?_
          refine lv_goto (tgt := 39) C.1 C.2.1 dX8_isExpression_35 (by decide) ?_
          exact k_zretP C hr hlk (by decide) ⟨_, rfl, (show rng 1 from by decide), hw⟩ dX8_isExpression_39
    refine lv_icmp_lt (tgt := 22) C.1 C.2.1 dX8_isExpression_13 (by decide) (fun c13 => ?_) (fun c13 => ?_)
    · have hw := hw.1 (z_lt g_x0 (show rng 20 from by decide) c13)
      exact J22  _ _ _ ⟨hw, Wd, rfl, rfl, lv_sub hl [0] rfl⟩
    · have hw := hw.2 (z_nlt g_x0 (show rng 20 from by decide) c13)
      refine lv_iload_n C.1 C.2.1 dX8_isExpression_16 rfl (lv_at hl 0 rfl) ?_
      refine lv_bipush (v := zI 26) C.1 C.2.1 dX8_isExpression_17 (by decide) ?_
      refine lv_icmp_lt (tgt := 34) C.1 C.2.1 dX8_isExpression_19 (by decide) (fun c19 => ?_) (fun c19 => ?_)
      · have hw := hw.1 (z_lt g_x0 (show rng 26 from by decide) c19)
        refine lv_iconst (v := zI 1) C.1 C.2.1 dX8_isExpression_34 (by decide) ?_
        refine lv_goto (tgt := 39) C.1 C.2.1 dX8_isExpression_35 (by decide) ?_
        exact k_zretP C hr hlk (by decide) ⟨_, rfl, (show rng 1 from by decide), hw⟩ dX8_isExpression_39
      · have hw := hw.2 (z_nlt g_x0 (show rng 26 from by decide) c19)
        exact J22  _ _ _ ⟨hw, Wd, rfl, rfl, lv_sub hl [0] rfl⟩
  refine lv_if_lt (tgt := 10) C.1 C.2.1 dX8_isExpression_1 (by decide) (fun c1 => ?_) (fun c1 => ?_)
  · have hw := hw.1 (z0_lt g_x0 c1)
    exact J10  _ _ _ ⟨hw, Wd, rfl, rfl, lv_sub hl [0] rfl⟩
  · have hw := hw.2 (z0_nlt g_x0 c1)
    refine lv_iload_n C.1 C.2.1 dX8_isExpression_4 rfl (lv_at hl 0 rfl) ?_
    refine lv_bipush (v := zI 16) C.1 C.2.1 dX8_isExpression_5 (by decide) ?_
    refine lv_icmp_lt (tgt := 34) C.1 C.2.1 dX8_isExpression_7 (by decide) (fun c7 => ?_) (fun c7 => ?_)
    · have hw := hw.1 (z_lt g_x0 (show rng 16 from by decide) c7)
      refine lv_iconst (v := zI 1) C.1 C.2.1 dX8_isExpression_34 (by decide) ?_
      refine lv_goto (tgt := 39) C.1 C.2.1 dX8_isExpression_35 (by decide) ?_
      exact k_zretP C hr hlk (by decide) ⟨_, rfl, (show rng 1 from by decide), hw⟩ dX8_isExpression_39
    · have hw := hw.2 (z_nlt g_x0 (show rng 16 from by decide) c7)
      exact J10  _ _ _ ⟨hw, Wd, rfl, rfl, lv_sub hl [0] rfl⟩
set_option maxHeartbeats 4000000 in
set_option maxRecDepth 100000 in
theorem mk_W_expressions : ∀ (D : va_G) (ad : Nat → Nat) (ca : Nat → ClassId) (rf : Nat → Nat → Option Nat) (σ : Sg) (hS : rngK σ) (hRF : RFok ad rf) (n0 : Int) (h_n0 : 0 ≤ n0 ∧ n0 < 35) (K : Int → Prop) (hw : wp5_W_expressions σ n0 K) (l : Launch) (sz : Nat), Met l yX8_expressions (Cond.code yX8_expressions cX8_expressions 3 (some .int) :: gG) { frames := 2, cells := 0, slots := 0, locals := 84 } (cPre D (tC ca) (wK ad ca rf σ) sz [.ref (ad (rowC n0.toNat))]) (vp_Si (fun r => ∃ x : Int, r = zI x ∧ rng x ∧ K x)) 0 0 (fun _ => False) := by
  intro D ad ca rf σ hS hRF n0 h_n0 K hw l sz
  refine Met.ofW (cc := cX8_expressions) (maxL := 3) (ret := (some .int)) (by decide) rfl ?_
  intro p e s m args below meth c s₁ B hml hv
  obtain ⟨rfl, aks, rfl, Wd⟩ := k_enter hv
  have C : CallFix p m c cX8_expressions 3 s _ gG RX8 := ⟨B.exec, B.bytes, hml, findClass_of_methodNamed B.named, fun w h => atoms_spec (ws := Cond.code yX8_expressions cX8_expressions 3 (some .int) :: gG) B.pre w (List.mem_cons_of_mem _ h)⟩
  have hr := B.returns
  have hlk := B.notSynchronized
  obtain ⟨A, Wd⟩ : ∃ A, wXK D ad ca rf s σ s.heap A s.heap [] := ⟨_, Wd, hS, hRF⟩
  refine k_locals (Nat.le_of_ble_eq_true rfl) [(0, .ref (ad (rowC n0.toNat)))] rfl (fun ls hl => ?_)
  unfold wp5_W_expressions at hw
  refine lv_iconst (v := zI 0) C.1 C.2.1 dX8_expressions_0 (by decide) ?_
  refine lv_istore_n (lv' := [(1, .int (zI 0)), (0, .ref (ad (rowC n0.toNat)))]) C.1 C.2.1 dX8_expressions_1 rfl hl (by decide) rfl (fun ls hl => ?_)
  replace hl := lv_sub hl [1, 0] rfl
  refine lv_iconst (v := zI 0) C.1 C.2.1 dX8_expressions_2 (by decide) ?_
  refine lv_istore_n (lv' := [(2, .int (zI 0)), (0, .ref (ad (rowC n0.toNat))), (1, .int (zI 0))]) C.1 C.2.1 dX8_expressions_3 rfl hl (by decide) rfl (fun ls hl => ?_)
  replace hl := lv_sub hl [1, 2, 0] rfl
  refine k_lp2 hw (fun (l1_4 : Int) (l2_4 : Int) H locs ls => rng l1_4 ∧ rng l2_4 ∧ wXK D ad ca rf s σ H A s.heap locs ∧ H = s.heap ∧ locs = [] ∧ lv_has ls 3 [(0, .ref (ad (rowC n0.toNat))), (1, .int (zI l1_4)), (2, .int (zI l2_4))]) (fun (l1_4 : Int) (l2_4 : Int) ls => F0 m 4 ls []) (fun L4 hL4 l1_4 l2_4 hw H locs ls hi => ?_) _ _ _ ⟨(show rng 0 from by decide), (show rng 0 from by decide), Wd, rfl, rfl, lv_sub hl [0, 1, 2] rfl⟩
  obtain ⟨g_l1_4, g_l2_4, Wd, rfl, rfl, hl⟩ := hi
  unfold wp5_W_expressions_4 at hw
  refine lv_iload_n C.1 C.2.1 dX8_expressions_4 rfl (lv_at hl 2 rfl) ?_
  refine lv_aload_n C.1 C.2.1 dX8_expressions_5 rfl (lv_at hl 0 rfl) ?_
  refine k_get (v := .int (zI (σ.2.2.1 0 n0))) C Wd.1 KX8 _ 1 (cxRow h_n0) (by decide) fl_X8_21 rfl dX8_expressions_6 ?_
  refine lv_icmp_ge (tgt := 33) C.1 C.2.1 dX8_expressions_9 (by decide) (fun c9 => ?_) (fun c9 => ?_)
  · have hw := hw.1 (z_le (rgY hS (N := 35) h_n0) g_l2_4 c9)
    refine lv_iload_n C.1 C.2.1 dX8_expressions_33 rfl (lv_at hl 1 rfl) ?_
    exact k_zretP C hr hlk rfl ⟨_, rfl, g_l1_4, hw⟩ dX8_expressions_34
  · have hw := hw.2 (z_nle (rgY hS (N := 35) h_n0) g_l2_4 c9)
    refine lv_aload_n C.1 C.2.1 dX8_expressions_12 rfl (lv_at hl 0 rfl) ?_
    refine k_get (v := .ref (ad ((rowC n0.toNat) + 1))) C Wd.1 KX8 _ 0 (cxRow h_n0) (by decide) fl_X8_15 rfl dX8_expressions_13 ?_
    refine lv_iload_n C.1 C.2.1 dX8_expressions_16 rfl (lv_at hl 2 rfl) ?_
    obtain ⟨n17_0, hw⟩ := hw
    refine k_ialdK (g := (σ.2.2.2 0 n0)) C Wd (cxRowc h_n0) (tyR h_n0) (capN n17_0) (capL _) dX8_expressions_17 ?_
    have ga17 : rng (σ.2.2.2 0 n0 l2_4) := rngL (rgZ (c := 0) Wd.2.1 h_n0) n17_0
    refine k_pi (k_runS (rest := []) C aks Wd.1 cs_X8_39 (mk_W_isExpression D (σ.2.2.2 0 n0 l2_4) ga17 _ hw l _) [] rfl (by decide) [] rfl rfl rfl ⟨(Nat.le_of_ble_eq_true rfl), (Nat.le_of_ble_eq_true rfl)⟩ hl.1 rfl rfl (Nat.le_of_ble_eq_true rfl) ⟨(Nat.le_of_ble_eq_true rfl), (Nat.le_of_ble_eq_true rfl)⟩ dX8_expressions_18) (fun y18 hy => ?_)
    obtain ⟨r18, rfl, g_r18, hw⟩ := hy
    refine lv_if_eq (tgt := 27) C.1 C.2.1 dX8_expressions_21 (by decide) (fun c21 => ?_) (fun c21 => ?_)
    · have hw := hw.1 (z0_eq g_r18 c21)
      refine lv_iinc (v := zI (l2_4 + 1)) (lv' := [(2, .int (zI (l2_4 + 1))), (0, .ref (ad (rowC n0.toNat))), (1, .int (zI l1_4))]) C.1 C.2.1 dX8_expressions_27 hl (k := 2) rfl (zI_inc _ _ (by decide)) (by decide) rfl (fun ls hl => ?_)
      replace hl := lv_sub hl [1, 2, 0] rfl
      refine lv_goto (tgt := 4) C.1 C.2.1 dX8_expressions_30 (by decide) ?_
      obtain ⟨g30_4, hw⟩ := hw
      exact hL4 _ _ hw _ _ _ ⟨g_l1_4, g30_4, Wd, rfl, rfl, lv_sub hl [0, 1, 2] rfl⟩
    · have hw := hw.2 (z0_ne g_r18 c21)
      refine lv_iinc (v := zI (l1_4 + 1)) (lv' := [(1, .int (zI (l1_4 + 1))), (0, .ref (ad (rowC n0.toNat))), (2, .int (zI l2_4))]) C.1 C.2.1 dX8_expressions_24 hl (k := 1) rfl (zI_inc _ _ (by decide)) (by decide) rfl (fun ls hl => ?_)
      replace hl := lv_sub hl [1, 0, 2] rfl
      refine lv_iinc (v := zI (l2_4 + 1)) (lv' := [(2, .int (zI (l2_4 + 1))), (0, .ref (ad (rowC n0.toNat))), (1, .int (zI (l1_4 + 1)))]) C.1 C.2.1 dX8_expressions_27 hl (k := 2) rfl (zI_inc _ _ (by decide)) (by decide) rfl (fun ls hl => ?_)
      replace hl := lv_sub hl [1, 2, 0] rfl
      refine lv_goto (tgt := 4) C.1 C.2.1 dX8_expressions_30 (by decide) ?_
      obtain ⟨g30_5, hw⟩ := hw
      obtain ⟨g30_6, hw⟩ := hw
      exact hL4 _ _ hw _ _ _ ⟨g30_5, g30_6, Wd, rfl, rfl, lv_sub hl [0, 1, 2] rfl⟩
set_option maxHeartbeats 4000000 in
set_option maxRecDepth 100000 in
theorem mk_W_isBranch : ∀ (D : va_G) (x0 : Int) (g_x0 : rng x0) (K : Int → Prop) (hw : wp5_W_isBranch x0 K) (l : Launch) (sz : Nat), Met l yX8_isBranch (Cond.code yX8_isBranch cX8_isBranch 1 (some .boolean) :: gG) { frames := 1, cells := 0, slots := 0, locals := 64 } (cPre D [] [] sz [.int (zI x0)]) (vp_Si (fun r => ∃ x : Int, r = zI x ∧ rng x ∧ K x)) 0 0 (fun _ => False) := by
  intro D x0 g_x0 K hw l sz
  refine Met.ofW (cc := cX8_isBranch) (maxL := 1) (ret := (some .boolean)) (by decide) rfl ?_
  intro p e s m args below meth c s₁ B hml hv
  obtain ⟨rfl, aks, rfl, Wd⟩ := k_enter hv
  have C : CallFix p m c cX8_isBranch 1 s _ gG RX8 := ⟨B.exec, B.bytes, hml, findClass_of_methodNamed B.named, fun w h => atoms_spec (ws := Cond.code yX8_isBranch cX8_isBranch 1 (some .boolean) :: gG) B.pre w (List.mem_cons_of_mem _ h)⟩
  have hr := B.returns
  have hlk := B.notSynchronized
  obtain ⟨A, Wd⟩ : ∃ A, wX D [] s [] s.heap A s.heap [] := ⟨_, Wd⟩
  refine k_locals (Nat.le_of_ble_eq_true rfl) [(0, .int (zI x0))] rfl (fun ls hl => ?_)
  unfold wp5_W_isBranch at hw
  refine lv_iload_n C.1 C.2.1 dX8_isBranch_0 rfl (lv_at hl 0 rfl) ?_
  refine lv_bipush (v := zI 112) C.1 C.2.1 dX8_isBranch_1 (by decide) ?_
  refine lv_icmp_eq (tgt := 12) C.1 C.2.1 dX8_isBranch_3 (by decide) (fun c3 => ?_) (fun c3 => ?_)
  · have hw := hw.1 (z_eq g_x0 (show rng 112 from by decide) c3)
    refine lv_iconst (v := zI 1) C.1 C.2.1 dX8_isBranch_12 (by decide) ?_
    refine lv_goto (tgt := 17) C.1 C.2.1 dX8_isBranch_13 (by decide) ?_
    exact k_zretP C hr hlk (by decide) ⟨_, rfl, (show rng 1 from by decide), hw⟩ dX8_isBranch_17
  · have hw := hw.2 (z_ne g_x0 (show rng 112 from by decide) c3)
    refine lv_iload_n C.1 C.2.1 dX8_isBranch_6 rfl (lv_at hl 0 rfl) ?_
    refine lv_bipush (v := zI 115) C.1 C.2.1 dX8_isBranch_7 (by decide) ?_
    refine lv_icmp_ne (tgt := 16) C.1 C.2.1 dX8_isBranch_9 (by decide) (fun c9 => ?_) (fun c9 => ?_)
    · have hw := hw.1 (z_ne g_x0 (show rng 115 from by decide) c9)
      refine lv_iconst (v := zI 0) C.1 C.2.1 dX8_isBranch_16 (by decide) ?_
      exact k_zretP C hr hlk (by decide) ⟨_, rfl, (show rng 0 from by decide), hw⟩ dX8_isBranch_17
    · have hw := hw.2 (z_eq g_x0 (show rng 115 from by decide) c9)
      refine lv_iconst (v := zI 1) C.1 C.2.1 dX8_isBranch_12 (by decide) ?_
      refine lv_goto (tgt := 17) C.1 C.2.1 dX8_isBranch_13 (by decide) ?_
      exact k_zretP C hr hlk (by decide) ⟨_, rfl, (show rng 1 from by decide), hw⟩ dX8_isBranch_17
set_option maxHeartbeats 4000000 in
set_option maxRecDepth 100000 in
theorem mk_W_isSet : ∀ (D : va_G) (x0 : Int) (g_x0 : rng x0) (K : Int → Prop) (hw : wp5_W_isSet x0 K) (l : Launch) (sz : Nat), Met l yX8_isSet (Cond.code yX8_isSet cX8_isSet 1 (some .boolean) :: gG) { frames := 1, cells := 0, slots := 0, locals := 64 } (cPre D [] [] sz [.int (zI x0)]) (vp_Si (fun r => ∃ x : Int, r = zI x ∧ rng x ∧ K x)) 0 0 (fun _ => False) := by
  intro D x0 g_x0 K hw l sz
  refine Met.ofW (cc := cX8_isSet) (maxL := 1) (ret := (some .boolean)) (by decide) rfl ?_
  intro p e s m args below meth c s₁ B hml hv
  obtain ⟨rfl, aks, rfl, Wd⟩ := k_enter hv
  have C : CallFix p m c cX8_isSet 1 s _ gG RX8 := ⟨B.exec, B.bytes, hml, findClass_of_methodNamed B.named, fun w h => atoms_spec (ws := Cond.code yX8_isSet cX8_isSet 1 (some .boolean) :: gG) B.pre w (List.mem_cons_of_mem _ h)⟩
  have hr := B.returns
  have hlk := B.notSynchronized
  obtain ⟨A, Wd⟩ : ∃ A, wX D [] s [] s.heap A s.heap [] := ⟨_, Wd⟩
  refine k_locals (Nat.le_of_ble_eq_true rfl) [(0, .int (zI x0))] rfl (fun ls hl => ?_)
  unfold wp5_W_isSet at hw
  refine lv_iload_n C.1 C.2.1 dX8_isSet_0 rfl (lv_at hl 0 rfl) ?_
  refine lv_bipush (v := zI 100) C.1 C.2.1 dX8_isSet_1 (by decide) ?_
  refine lv_icmp_lt (tgt := 16) C.1 C.2.1 dX8_isSet_3 (by decide) (fun c3 => ?_) (fun c3 => ?_)
  · have hw := hw.1 (z_lt g_x0 (show rng 100 from by decide) c3)
    refine lv_iconst (v := zI 0) C.1 C.2.1 dX8_isSet_16 (by decide) ?_
    exact k_zretP C hr hlk (by decide) ⟨_, rfl, (show rng 0 from by decide), hw⟩ dX8_isSet_17
  · have hw := hw.2 (z_nlt g_x0 (show rng 100 from by decide) c3)
    refine lv_iload_n C.1 C.2.1 dX8_isSet_6 rfl (lv_at hl 0 rfl) ?_
    refine lv_bipush (v := zI 106) C.1 C.2.1 dX8_isSet_7 (by decide) ?_
    refine lv_icmp_ge (tgt := 16) C.1 C.2.1 dX8_isSet_9 (by decide) (fun c9 => ?_) (fun c9 => ?_)
    · have hw := hw.1 (z_le (show rng 106 from by decide) g_x0 c9)
      refine lv_iconst (v := zI 0) C.1 C.2.1 dX8_isSet_16 (by decide) ?_
      exact k_zretP C hr hlk (by decide) ⟨_, rfl, (show rng 0 from by decide), hw⟩ dX8_isSet_17
    · have hw := hw.2 (z_nle (show rng 106 from by decide) g_x0 c9)
      refine lv_iconst (v := zI 1) C.1 C.2.1 dX8_isSet_12 (by decide) ?_
      refine lv_goto (tgt := 17) C.1 C.2.1 dX8_isSet_13 (by decide) ?_
      exact k_zretP C hr hlk (by decide) ⟨_, rfl, (show rng 1 from by decide), hw⟩ dX8_isSet_17
set_option maxHeartbeats 4000000 in
set_option maxRecDepth 100000 in
theorem mk_F_begin_12 : ∀ (D : va_G) (ad : Nat → Nat) (ca : Nat → ClassId) (rf : Nat → Nat → Option Nat) (σ : Sg) (hS : rngK σ) (hRF : RFok ad rf) (x0 : Int) (x1 : Int) (g_x0 : rng x0) (g_x1 : rng x1) (K : Sg → Prop) (hw : wp5_F_begin σ 12 x0 x1 K) (l : Launch) (sz : Nat), Met l yX1_begin (Cond.code yX1_begin cX1_begin 3 none :: gG) { frames := 2, cells := 0, slots := 0, locals := 84 } (cPre D (tC ca) (wK ad ca rf σ) sz [.ref (ad 12), .int (zI x0), .int (zI x1)]) (va_Qv (fun (u : Sg) => K u ∧ rngK u) (fun u t => cB D (va_A (wK ad ca rf σ) sz) [] (wK ad ca rf u) t) (va_A (wK ad ca rf σ) sz)) 0 0 (va_A (wK ad ca rf σ) sz) := by
  intro D ad ca rf σ hS hRF x0 x1 g_x0 g_x1 K hw l sz
  refine Met.ofW (cc := cX1_begin) (maxL := 3) (ret := none) (by decide) rfl ?_
  intro p e s m args below meth c s₁ B hml hv
  obtain ⟨rfl, aks, rfl, Wd⟩ := k_enter hv
  have C : CallFix p m c cX1_begin 3 s _ gG RX1 := ⟨B.exec, B.bytes, hml, findClass_of_methodNamed B.named, fun w h => atoms_spec (ws := Cond.code yX1_begin cX1_begin 3 none :: gG) B.pre w (List.mem_cons_of_mem _ h)⟩
  have hr := B.returns
  have hlk := B.notSynchronized
  generalize va_A (wK ad ca rf σ) s.heap.size = A at Wd ⊢
  replace Wd : wXK D ad ca rf s σ s.heap A s.heap [] := ⟨Wd, hS, hRF⟩
  refine k_locals (Nat.le_of_ble_eq_true rfl) [(0, .ref (ad 12)), (1, .int (zI x0)), (2, .int (zI x1))] rfl (fun ls hl => ?_)
  unfold wp5_F_begin at hw
  refine lv_aload_n C.1 C.2.1 dX1_begin_0 rfl (lv_at hl 0 rfl) ?_
  refine k_get (v := .int (zI (σ.1 12 1))) C Wd.1 KX1 _ 1 (cx12 _) (by decide) fl_X1_57 rfl dX1_begin_1 ?_
  refine lv_bipush (v := zI 40) C.1 C.2.1 dX1_begin_4 (by decide) ?_
  refine lv_icmp_lt (tgt := 10) C.1 C.2.1 dX1_begin_6 (by decide) (fun c6 => ?_) (fun c6 => ?_)
  · have hw := hw.1 (z_lt (hS.1 12 1) (show rng 40 from by decide) c6)
    refine lv_aload_n C.1 C.2.1 dX1_begin_10 rfl (lv_at hl 0 rfl) ?_
    refine k_get (v := .ref (ad 13)) C Wd.1 KX1 _ 2 (cx12 _) (by decide) fl_X1_20 rfl dX1_begin_11 ?_
    refine lv_aload_n C.1 C.2.1 dX1_begin_14 rfl (lv_at hl 0 rfl) ?_
    refine k_get (v := .int (zI (σ.1 12 1))) C Wd.1 KX1 _ 1 (cx12 _) (by decide) fl_X1_57 rfl dX1_begin_15 ?_
    refine lv_iload_n C.1 C.2.1 dX1_begin_18 rfl (lv_at hl 1 rfl) ?_
    obtain ⟨n19_0, hw⟩ := hw
    refine k_iastF (g := (σ.2.1 13)) (i := (σ.1 12 1)) (v := x0) C Wd 13 (by decide) (cx13 _) (fun f => cx13a _ f) (tC_at (by decide) rfl) n19_0 (by decide) (ruZ (fun j => Wd.2.1.2.1 13 j) g_x0) dX1_begin_19 (fun H locs Wd => ?_)
    refine lv_aload_n C.1 C.2.1 dX1_begin_20 rfl (lv_at hl 0 rfl) ?_
    refine k_get (v := .ref (ad 14)) C Wd.1 KX1 _ 3 (cx12 _) (by decide) fl_X1_24 rfl dX1_begin_21 ?_
    refine lv_aload_n C.1 C.2.1 dX1_begin_24 rfl (lv_at hl 0 rfl) ?_
    refine k_get (v := .int (zI (σ.1 12 1))) C Wd.1 KX1 _ 1 (cx12 _) (by decide) fl_X1_57 rfl dX1_begin_25 ?_
    refine lv_iload_n C.1 C.2.1 dX1_begin_28 rfl (lv_at hl 2 rfl) ?_
    refine k_iastF (g := (σ.2.1 14)) (i := (σ.1 12 1)) (v := x1) C Wd 14 (by decide) (cx14 _) (fun f => cx14a _ f) (tC_at (by decide) rfl) n19_0 (by decide) (ruZ (fun j => Wd.2.1.2.1 14 j) g_x1) dX1_begin_29 (fun H locs Wd => ?_)
    refine lv_aload_n C.1 C.2.1 dX1_begin_30 rfl (lv_at hl 0 rfl) ?_
    refine k_get (v := .ref (ad 20)) C Wd.1 KX1 _ 9 (cx12 _) (by decide) fl_X1_42 rfl dX1_begin_31 ?_
    refine lv_aload_n C.1 C.2.1 dX1_begin_34 rfl (lv_at hl 0 rfl) ?_
    refine k_get (v := .int (zI (σ.1 12 1))) C Wd.1 KX1 _ 1 (cx12 _) (by decide) fl_X1_57 rfl dX1_begin_35 ?_
    refine lv_iload_n C.1 C.2.1 dX1_begin_38 rfl (lv_at hl 2 rfl) ?_
    refine k_pi (k_runS (rest := [.int (zI (σ.1 12 1)), .ref (ad 20)]) C aks Wd.1 cs_X1_100 (mk_W_isSet D x1 g_x1 _ hw l _) [] rfl (by decide) [] rfl rfl rfl ⟨(Nat.le_of_ble_eq_true rfl), (Nat.le_of_ble_eq_true rfl)⟩ hl.1 rfl rfl (Nat.le_of_ble_eq_true rfl) ⟨(Nat.le_of_ble_eq_true rfl), (Nat.le_of_ble_eq_true rfl)⟩ dX1_begin_39) (fun y39 hy => ?_)
    obtain ⟨r39, rfl, g_r39, hw⟩ := hy
    refine k_cut1 (fun (s0_55 : Int) H locs ls => rng s0_55 ∧ wp5_F_begin_55 K σ 12 x0 x1 s0_55 ∧ wXK D ad ca rf s (pF (pF σ 13 (uZ (σ.2.1 13) (σ.1 12 1) x0)) 14 (uZ (σ.2.1 14) (σ.1 12 1) x1)) H A s.heap locs ∧ lv_has ls 3 [(0, .ref (ad 12)), (1, .int (zI x0)), (2, .int (zI x1))]) (fun (s0_55 : Int) ls => F0 m 55 ls [.int (zI s0_55), .int (zI (σ.1 12 1)), .ref (ad 20)]) (fun s0_55 H locs ls hi => ?_) (fun J55 => ?_)
    · obtain ⟨g_s0_55, hw, Wd, hl⟩ := hi
      unfold wp5_F_begin_55 at hw
      refine k_iastF (g := (σ.2.1 20)) (i := (σ.1 12 1)) (v := s0_55) C Wd 20 (by decide) (cx20 _) (fun f => cx20a _ f) (tC_at (by decide) rfl) n19_0 (by decide) (ruZ (fun j => Wd.2.1.2.1 20 j) g_s0_55) dX1_begin_55 (fun H locs Wd => ?_)
      refine lv_aload_n C.1 C.2.1 dX1_begin_56 rfl (lv_at hl 0 rfl) ?_
      refine k_get (v := .ref (ad 15)) C Wd.1 KX1 _ 4 (cx12 _) (by decide) fl_X1_27 rfl dX1_begin_57 ?_
      refine lv_aload_n C.1 C.2.1 dX1_begin_60 rfl (lv_at hl 0 rfl) ?_
      refine k_get (v := .int (zI (σ.1 12 1))) C Wd.1 KX1 _ 1 (cx12 _) (by decide) fl_X1_57 rfl dX1_begin_61 ?_
      refine lv_iload_n C.1 C.2.1 dX1_begin_64 rfl (lv_at hl 2 rfl) ?_
      refine k_pi (k_runS (rest := [.int (zI (σ.1 12 1)), .ref (ad 15)]) C aks Wd.1 cs_X1_87 (mk_W_isBranch D x1 g_x1 _ hw l _) [] rfl (by decide) [] rfl rfl rfl ⟨(Nat.le_of_ble_eq_true rfl), (Nat.le_of_ble_eq_true rfl)⟩ hl.1 rfl rfl (Nat.le_of_ble_eq_true rfl) ⟨(Nat.le_of_ble_eq_true rfl), (Nat.le_of_ble_eq_true rfl)⟩ dX1_begin_65) (fun y65 hy => ?_)
      obtain ⟨r65, rfl, g_r65, hw⟩ := hy
      refine k_cut1 (fun (s0_80 : Int) H locs ls => rng s0_80 ∧ wp5_F_begin_80 K σ 12 x0 x1 s0_55 s0_80 ∧ wXK D ad ca rf s (pF (pF (pF σ 13 (uZ (σ.2.1 13) (σ.1 12 1) x0)) 14 (uZ (σ.2.1 14) (σ.1 12 1) x1)) 20 (uZ (σ.2.1 20) (σ.1 12 1) s0_55)) H A s.heap locs ∧ lv_has ls 3 [(0, .ref (ad 12))]) (fun (s0_80 : Int) ls => F0 m 80 ls [.int (zI s0_80), .int (zI (σ.1 12 1)), .ref (ad 15)]) (fun s0_80 H locs ls hi => ?_) (fun J80 => ?_)
      · obtain ⟨g_s0_80, hw, Wd, hl⟩ := hi
        unfold wp5_F_begin_80 at hw
        refine k_iastF (g := (σ.2.1 15)) (i := (σ.1 12 1)) (v := s0_80) C Wd 15 (by decide) (cx15 _) (fun f => cx15a _ f) (tC_at (by decide) rfl) n19_0 (by decide) (ruZ (fun j => Wd.2.1.2.1 15 j) g_s0_80) dX1_begin_80 (fun H locs Wd => ?_)
        refine lv_aload_n C.1 C.2.1 dX1_begin_81 rfl (lv_at hl 0 rfl) ?_
        refine k_get (v := .ref (ad 16)) C Wd.1 KX1 _ 5 (cx12 _) (by decide) fl_X1_30 rfl dX1_begin_82 ?_
        refine lv_aload_n C.1 C.2.1 dX1_begin_85 rfl (lv_at hl 0 rfl) ?_
        refine k_get (v := .int (zI (σ.1 12 1))) C Wd.1 KX1 _ 1 (cx12 _) (by decide) fl_X1_57 rfl dX1_begin_86 ?_
        refine lv_aload_n C.1 C.2.1 dX1_begin_89 rfl (lv_at hl 0 rfl) ?_
        refine k_get (v := .ref (ad 15)) C Wd.1 KX1 _ 4 (cx12 _) (by decide) fl_X1_27 rfl dX1_begin_90 ?_
        refine lv_aload_n C.1 C.2.1 dX1_begin_93 rfl (lv_at hl 0 rfl) ?_
        refine k_get (v := .int (zI (σ.1 12 1))) C Wd.1 KX1 _ 1 (cx12 _) (by decide) fl_X1_57 rfl dX1_begin_94 ?_
        refine k_ialdK (g := (uZ (σ.2.1 15) (σ.1 12 1) s0_80)) C Wd (cx15 _) (tC_at (by decide) rfl) n19_0 (by decide) dX1_begin_97 ?_
        have ga97 : rng ((uZ (σ.2.1 15) (σ.1 12 1) s0_80) (σ.1 12 1)) := rngL (fun j => (Wd.2.1).2.1 15 j) n19_0
        refine k_iastF (g := (σ.2.1 16)) (i := (σ.1 12 1)) (v := ((uZ (σ.2.1 15) (σ.1 12 1) s0_80) (σ.1 12 1))) C Wd 16 (by decide) (cx16 _) (fun f => cx16a _ f) (tC_at (by decide) rfl) n19_0 (by decide) (ruZ (fun j => Wd.2.1.2.1 16 j) ga97) dX1_begin_98 (fun H locs Wd => ?_)
        refine lv_aload_n C.1 C.2.1 dX1_begin_99 rfl (lv_at hl 0 rfl) ?_
        refine k_get (v := .ref (ad 19)) C Wd.1 KX1 _ 8 (cx12 _) (by decide) fl_X1_39 rfl dX1_begin_100 ?_
        refine lv_aload_n C.1 C.2.1 dX1_begin_103 rfl (lv_at hl 0 rfl) ?_
        refine k_get (v := .int (zI (σ.1 12 1))) C Wd.1 KX1 _ 1 (cx12 _) (by decide) fl_X1_57 rfl dX1_begin_104 ?_
        refine lv_iconst (v := zI 0) C.1 C.2.1 dX1_begin_107 (by decide) ?_
        refine k_iastF (g := (σ.2.1 19)) (i := (σ.1 12 1)) (v := 0) C Wd 19 (by decide) (cx19 _) (fun f => cx19a _ f) (tC_at (by decide) rfl) n19_0 (by decide) (ruZ (fun j => Wd.2.1.2.1 19 j) (show rng 0 from by decide)) dX1_begin_108 (fun H locs Wd => ?_)
        refine lv_aload_n C.1 C.2.1 dX1_begin_109 rfl (lv_at hl 0 rfl) ?_
        refine k_get (v := .ref (ad 17)) C Wd.1 KX1 _ 6 (cx12 _) (by decide) fl_X1_33 rfl dX1_begin_110 ?_
        refine lv_aload_n C.1 C.2.1 dX1_begin_113 rfl (lv_at hl 0 rfl) ?_
        refine k_get (v := .int (zI (σ.1 12 1))) C Wd.1 KX1 _ 1 (cx12 _) (by decide) fl_X1_57 rfl dX1_begin_114 ?_
        refine lv_iconst (v := zI (-1)) C.1 C.2.1 dX1_begin_117 (by decide) ?_
        refine k_iastF (g := (σ.2.1 17)) (i := (σ.1 12 1)) (v := (-1)) C Wd 17 (by decide) (cx17 _) (fun f => cx17a _ f) (tC_at (by decide) rfl) n19_0 (by decide) (ruZ (fun j => Wd.2.1.2.1 17 j) (show rng (-1) from by decide)) dX1_begin_118 (fun H locs Wd => ?_)
        refine lv_aload_n C.1 C.2.1 dX1_begin_119 rfl (lv_at hl 0 rfl) ?_
        refine k_get (v := .ref (ad 18)) C Wd.1 KX1 _ 7 (cx12 _) (by decide) fl_X1_36 rfl dX1_begin_120 ?_
        refine lv_aload_n C.1 C.2.1 dX1_begin_123 rfl (lv_at hl 0 rfl) ?_
        refine k_get (v := .int (zI (σ.1 12 1))) C Wd.1 KX1 _ 1 (cx12 _) (by decide) fl_X1_57 rfl dX1_begin_124 ?_
        refine lv_iconst (v := zI (-1)) C.1 C.2.1 dX1_begin_127 (by decide) ?_
        refine k_iastF (g := (σ.2.1 18)) (i := (σ.1 12 1)) (v := (-1)) C Wd 18 (by decide) (cx18 _) (fun f => cx18a _ f) (tC_at (by decide) rfl) n19_0 (by decide) (ruZ (fun j => Wd.2.1.2.1 18 j) (show rng (-1) from by decide)) dX1_begin_128 (fun H locs Wd => ?_)
        refine lv_aload_n C.1 C.2.1 dX1_begin_129 rfl (lv_at hl 0 rfl) ?_
        refine lv_dup C.1 C.2.1 dX1_begin_130 rfl ?_
        refine k_get (v := .int (zI (σ.1 12 1))) C Wd.1 KX1 _ 1 (cx12 _) (by decide) fl_X1_57 rfl dX1_begin_131 ?_
        refine lv_iconst (v := zI 1) C.1 C.2.1 dX1_begin_134 (by decide) ?_
        refine k_iadd (v := zI ((σ.1 12 1) + 1)) C (zI_iadd _ _) dX1_begin_135 ?_
        obtain ⟨g136_3, hw⟩ := hw
        refine k_putK (v := ((σ.1 12 1) + 1)) C Wd KX1 12 1 (by decide) (cx12 _) rfl (by decide) fl_X1_57 rfl rfl rfl (Nat.le_of_ble_eq_true rfl) g136_3 dX1_begin_136 (fun H locs Wd => ?_)
        exact k_retKv C hr hlk Wd hw dX1_begin_139
      refine lv_if_eq (tgt := 77) C.1 C.2.1 dX1_begin_68 (by decide) (fun c68 => ?_) (fun c68 => ?_)
      · have hw := hw.1 (z0_eq g_r65 c68)
        refine lv_iload_n C.1 C.2.1 dX1_begin_77 rfl (lv_at hl 1 rfl) ?_
        refine lv_iconst (v := zI 1) C.1 C.2.1 dX1_begin_78 (by decide) ?_
        refine k_iadd (v := zI (x0 + 1)) C (zI_iadd _ _) dX1_begin_79 ?_
        obtain ⟨g79_4, hw⟩ := hw
        exact J80 (x0 + 1) _ _ _ ⟨g79_4, hw, Wd, lv_sub hl [0] rfl⟩
      · have hw := hw.2 (z0_ne g_r65 c68)
        refine lv_iload_n C.1 C.2.1 dX1_begin_71 rfl (lv_at hl 1 rfl) ?_
        refine lv_iconst (v := zI 2) C.1 C.2.1 dX1_begin_72 (by decide) ?_
        refine k_iadd (v := zI (x0 + 2)) C (zI_iadd _ _) dX1_begin_73 ?_
        refine lv_goto (tgt := 80) C.1 C.2.1 dX1_begin_74 (by decide) ?_
        obtain ⟨g74_5, hw⟩ := hw
        exact J80 (x0 + 2) _ _ _ ⟨g74_5, hw, Wd, lv_sub hl [0] rfl⟩
    refine lv_if_eq (tgt := 54) C.1 C.2.1 dX1_begin_42 (by decide) (fun c42 => ?_) (fun c42 => ?_)
    · have hw := hw.1 (z0_eq g_r39 c42)
      refine lv_iconst (v := zI 0) C.1 C.2.1 dX1_begin_54 (by decide) ?_
      exact J55 0 _ _ _ ⟨(show rng 0 from by decide), hw, Wd, lv_sub hl [0, 1, 2] rfl⟩
    · have hw := hw.2 (z0_ne g_r39 c42)
      refine lv_iconst (v := zI 1) C.1 C.2.1 dX1_begin_45 (by decide) ?_
      refine lv_iload_n C.1 C.2.1 dX1_begin_46 rfl (lv_at hl 2 rfl) ?_
      refine lv_bipush (v := zI 100) C.1 C.2.1 dX1_begin_47 (by decide) ?_
      refine k_isub (v := zI (x1 - 100)) C (zI_isub _ _) dX1_begin_49 ?_
      refine k_ishl (v := zI (zishl 1 (x1 - 100))) C (zishl_eq _ _) dX1_begin_50 ?_
      refine lv_goto (tgt := 55) C.1 C.2.1 dX1_begin_51 (by decide) ?_
      exact J55 (zishl 1 (x1 - 100)) _ _ _ ⟨(rng_toInt _), hw, Wd, lv_sub hl [0, 1, 2] rfl⟩
  · have hw := hw.2 (z_nlt (hS.1 12 1) (show rng 40 from by decide) c6)
    exact k_retKv C hr hlk Wd hw dX1_begin_9
